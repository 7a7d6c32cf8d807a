/-! the walk, and read -/
-- 6_readInto_17_u
noncomputable def xf_6_readInto_17_u_j65 (s : xs_S) (v2 : Int32) : Option ((Int32 × xs_S) ⊕ ((xs_S))) :=
some (.inl ((v2 + (1 : Int32)), s))
set_option maxHeartbeats 4000000 in
theorem xb_6_readInto_17_u_j65 {C : mm_C} {Q : mm_R} {pt : Value} {ps : Value} {pg : Value} {pr : Value} (h_7_clear_17 : xk_7_clear_17 C) (h_8_scan : xk_8_scan C) (h_6_kind : xk_6_kind C) (h_6_tellSpeaker : xk_6_tellSpeaker C) (h_6_tellWord : xk_6_tellWord C) (h_6_tellPair : xk_6_tellPair C) (h_6_tellLaw : xk_6_tellLaw C) (h_6_tellNumber : xk_6_tellNumber C) (h_6_conclude : xk_6_conclude C) (s : xs_S) (v2 : Int32) (r : (Int32 × xs_S) ⊕ ((xs_S))) (hf : xf_6_readInto_17_u_j65 s v2 = some r) (hK : mo_sum (mo_c2 (fun y2 sy => mm_go C mm_Mk mm_Fk P_X6_readInto Q (P_X6_readInto.drop 23) [(0, .ref 6), (2, .int y2)] [] (xs_H pt ps pg (.ref 17) sy) 0 0))  (fun sy => mm_go C mm_Mk mm_Fk P_X6_readInto Q (P_X6_readInto.drop 67) [(0, .ref 6)] [] (xs_H pt ps pg (.ref 17) sy) 0 0)  r) : mm_go C mm_Mk mm_Fk P_X6_readInto Q (P_X6_readInto.drop 65) [(0, .ref 6), (2, .int v2)] [] (xs_H pt ps pg (.ref 17) s) 0 0 := by
  unfold xf_6_readInto_17_u_j65 at hf
  obtain rfl := Option.some.inj hf
  refine mm_adv 2 (cs' := P_X6_readInto.drop 23) (l' := [(2, .int (v2 + (1 : Int32))), (0, .ref 6)]) (st' := []) (h' := (xs_H pt ps pg (.ref 17) s)) (bc' := 0) (bs' := 0) (fun n g => g) ?_
  exact mm_re (c := [(0, .ref 6), (2, .int (v2 + (1 : Int32)))]) hK rfl rfl
noncomputable def xf_6_readInto_17_u_j63 (s : xs_S) (v2 : Int32) : Option ((Int32 × xs_S) ⊕ ((xs_S))) :=
((xf_6_tellLaw s ).bind fun s_12 =>
(xf_6_readInto_17_u_j65 (s_12) (v2)))
set_option maxHeartbeats 4000000 in
theorem xb_6_readInto_17_u_j63 {C : mm_C} {Q : mm_R} {pt : Value} {ps : Value} {pg : Value} {pr : Value} (h_7_clear_17 : xk_7_clear_17 C) (h_8_scan : xk_8_scan C) (h_6_kind : xk_6_kind C) (h_6_tellSpeaker : xk_6_tellSpeaker C) (h_6_tellWord : xk_6_tellWord C) (h_6_tellPair : xk_6_tellPair C) (h_6_tellLaw : xk_6_tellLaw C) (h_6_tellNumber : xk_6_tellNumber C) (h_6_conclude : xk_6_conclude C) (s : xs_S) (v2 : Int32) (r : (Int32 × xs_S) ⊕ ((xs_S))) (hf : xf_6_readInto_17_u_j63 s v2 = some r) (hK : mo_sum (mo_c2 (fun y2 sy => mm_go C mm_Mk mm_Fk P_X6_readInto Q (P_X6_readInto.drop 23) [(0, .ref 6), (2, .int y2)] [] (xs_H pt ps pg (.ref 17) sy) 0 0))  (fun sy => mm_go C mm_Mk mm_Fk P_X6_readInto Q (P_X6_readInto.drop 67) [(0, .ref 6)] [] (xs_H pt ps pg (.ref 17) sy) 0 0)  r) : mm_go C mm_Mk mm_Fk P_X6_readInto Q (P_X6_readInto.drop 63) [(0, .ref 6), (2, .int v2)] [] (xs_H pt ps pg (.ref 17) s) 0 0 := by
  unfold xf_6_readInto_17_u_j63 at hf
  obtain ⟨s_12, hr_12, hf⟩ := mo_bind hf
  refine mm_adv 2 (cs' := P_X6_readInto.drop 65) (l' := [(0, .ref 6), (2, .int v2)]) (st' := []) (h' := (xs_H pt ps pg (.ref 17) s_12)) (bc' := 0) (bs' := 0) (fun n g => (h_6_tellLaw pt ps pg s  s_12 _ hr_12 g)) ?_
  refine mm_re (l' := [(0, .ref 6), (2, .int v2)]) (c := [(0, .ref 6), (2, .int v2)]) ?_ rfl rfl
  exact xb_6_readInto_17_u_j65 (pr := pr) h_7_clear_17 h_8_scan h_6_kind h_6_tellSpeaker h_6_tellWord h_6_tellPair h_6_tellLaw h_6_tellNumber h_6_conclude s_12 (v2) _ hf hK
noncomputable def xf_6_readInto_17_u_l23  : (Int32 × xs_S) → Option ((Int32 × xs_S) ⊕ ((xs_S))) := fun (w2, s) =>
(if (400 : Int32) < w2 then
some (.inr (s))
else
(if (s.1 101) = (0 : Int32) then
((xf_6_kind s ).bind fun (v_5, s_5) =>
(if v_5 = (32 : Int32) then
some (.inr (s_5))
else
((xf_6_kind s_5 ).bind fun (v_7, s_7) =>
(if v_7 = (0 : Int32) then
((xf_6_tellSpeaker s_7 ).bind fun s_9 =>
(xf_6_readInto_17_u_j65 (s_9) (w2)))
else
(if v_7 = (1 : Int32) then
((xf_6_tellWord s_7 ).bind fun s_10 =>
(xf_6_readInto_17_u_j65 (s_10) (w2)))
else
(if v_7 = (2 : Int32) then
((xf_6_tellPair s_7 ).bind fun s_11 =>
(xf_6_readInto_17_u_j65 (s_11) (w2)))
else
(if v_7 = (3 : Int32) then
(xf_6_readInto_17_u_j63 (s_7) (w2))
else
(if v_7 = (4 : Int32) then
(xf_6_readInto_17_u_j63 (s_7) (w2))
else
(if v_7 = (5 : Int32) then
(xf_6_readInto_17_u_j63 (s_7) (w2))
else
(if v_7 = (6 : Int32) then
(xf_6_readInto_17_u_j63 (s_7) (w2))
else
(if v_7 = (7 : Int32) then
((xf_6_tellNumber s_7 ((7 : Int32)) ((1 : Int32)) ((19 : Int32))).bind fun (v_12, s_12) =>
(xf_6_readInto_17_u_j65 ((xs_sI s_12 279 (v_12))) (w2)))
else
(if v_7 = (8 : Int32) then
((xf_6_tellNumber s_7 ((8 : Int32)) ((0 : Int32)) ((9999 : Int32))).bind fun (v_13, s_13) =>
(xf_6_readInto_17_u_j65 ((xs_sI s_13 280 (v_13))) (w2)))
else
(xf_6_readInto_17_u_j63 (s_7) (w2))))))))))))))
else
some (.inr (s))))
set_option maxHeartbeats 4000000 in
theorem xb_6_readInto_17_u_l23 {C : mm_C} {Q : mm_R} {pt : Value} {ps : Value} {pg : Value} {pr : Value} (h_7_clear_17 : xk_7_clear_17 C) (h_8_scan : xk_8_scan C) (h_6_kind : xk_6_kind C) (h_6_tellSpeaker : xk_6_tellSpeaker C) (h_6_tellWord : xk_6_tellWord C) (h_6_tellPair : xk_6_tellPair C) (h_6_tellLaw : xk_6_tellLaw C) (h_6_tellNumber : xk_6_tellNumber C) (h_6_conclude : xk_6_conclude C)  (t : Int32 × xs_S) (x : (xs_S)) (hl : mo_loop (xf_6_readInto_17_u_l23 ) t = some x) (hK : (fun sy => mm_go C mm_Mk mm_Fk P_X6_readInto Q (P_X6_readInto.drop 67) [(0, .ref 6)] [] (xs_H pt ps pg (.ref 17) sy) 0 0) x) : (mo_c2 (fun y2 sy => mm_go C mm_Mk mm_Fk P_X6_readInto Q (P_X6_readInto.drop 23) [(0, .ref 6), (2, .int y2)] [] (xs_H pt ps pg (.ref 17) sy) 0 0)) t := by
  refine mo_loop_go (G := (mo_c2 (fun y2 sy => mm_go C mm_Mk mm_Fk P_X6_readInto Q (P_X6_readInto.drop 23) [(0, .ref 6), (2, .int y2)] [] (xs_H pt ps pg (.ref 17) sy) 0 0)) ) (K := (fun sy => mm_go C mm_Mk mm_Fk P_X6_readInto Q (P_X6_readInto.drop 67) [(0, .ref 6)] [] (xs_H pt ps pg (.ref 17) sy) 0 0) ) ?_ t x hl hK
  intro t r hf hK
  obtain ⟨w2, s⟩ := t
  unfold xf_6_readInto_17_u_l23 at hf
  by_cases c_3 : (400 : Int32) < w2
  · have hf := mo_pos hf c_3
    obtain rfl := Option.some.inj hf
    refine mm_adv 3 (cs' := P_X6_readInto.drop 67) (l' := [(0, .ref 6), (2, .int w2)]) (st' := []) (h' := (xs_H pt ps pg (.ref 17) s)) (bc' := 0) (bs' := 0) (fun n g => (And.intro (fun _ => g) (fun q => absurd c_3 q))) ?_
    exact mm_re (c := [(0, .ref 6)]) hK rfl rfl
  · have hf := mo_neg hf c_3
    by_cases c_4 : (s.1 101) = (0 : Int32)
    · have hf := mo_pos hf c_4
      obtain ⟨r_5, hr_5, hf⟩ := mo_bind hf
      obtain ⟨v_5, s_5⟩ := r_5
      by_cases c_6 : v_5 = (32 : Int32)
      · have hf := mo_pos hf c_6
        obtain rfl := Option.some.inj hf
        refine mm_adv 10 (cs' := P_X6_readInto.drop 67) (l' := [(0, .ref 6), (2, .int w2)]) (st' := []) (h' := (xs_H pt ps pg (.ref 17) s_5)) (bc' := 0) (bs' := 0) (fun n g => (And.intro (fun q => absurd q c_3) (fun _ => (And.intro (fun q => absurd c_4 q) (fun _ => (h_6_kind pt ps pg (.ref 17) s  v_5 s_5 _ hr_5 (And.intro (fun _ => g) (fun q => absurd c_6 q)))))))) ?_
        exact mm_re (c := [(0, .ref 6)]) hK rfl rfl
      · have hf := mo_neg hf c_6
        obtain ⟨r_7, hr_7, hf⟩ := mo_bind hf
        obtain ⟨v_7, s_7⟩ := r_7
        by_cases c_8_0 : v_7 = (0 : Int32)
        · have hf := mo_pos hf c_8_0
          obtain ⟨s_9, hr_9, hf⟩ := mo_bind hf
          refine mm_adv 16 (cs' := P_X6_readInto.drop 65) (l' := [(0, .ref 6), (2, .int w2)]) (st' := []) (h' := (xs_H pt ps pg (.ref 17) s_9)) (bc' := 0) (bs' := 0) (fun n g => (And.intro (fun q => absurd q c_3) (fun _ => (And.intro (fun q => absurd c_4 q) (fun _ => (h_6_kind pt ps pg (.ref 17) s  v_5 s_5 _ hr_5 (And.intro (fun q => absurd q c_6) (fun _ => (h_6_kind pt ps pg (.ref 17) s_5  v_7 s_7 _ hr_7 (And.intro (fun _ => (h_6_tellSpeaker pt ps pg s_7  s_9 _ hr_9 g)) (fun q => absurd c_8_0 q))))))))))) ?_
          refine mm_re (l' := [(0, .ref 6), (2, .int w2)]) (c := [(0, .ref 6), (2, .int w2)]) ?_ rfl rfl
          exact xb_6_readInto_17_u_j65 (pr := pr) h_7_clear_17 h_8_scan h_6_kind h_6_tellSpeaker h_6_tellWord h_6_tellPair h_6_tellLaw h_6_tellNumber h_6_conclude s_9 (w2) _ hf hK
        replace hf := mo_neg hf c_8_0
        by_cases c_8_1 : v_7 = (1 : Int32)
        · have hf := mo_pos hf c_8_1
          obtain ⟨s_10, hr_10, hf⟩ := mo_bind hf
          refine mm_adv 16 (cs' := P_X6_readInto.drop 65) (l' := [(0, .ref 6), (2, .int w2)]) (st' := []) (h' := (xs_H pt ps pg (.ref 17) s_10)) (bc' := 0) (bs' := 0) (fun n g => (And.intro (fun q => absurd q c_3) (fun _ => (And.intro (fun q => absurd c_4 q) (fun _ => (h_6_kind pt ps pg (.ref 17) s  v_5 s_5 _ hr_5 (And.intro (fun q => absurd q c_6) (fun _ => (h_6_kind pt ps pg (.ref 17) s_5  v_7 s_7 _ hr_7 (And.intro (fun q => absurd q c_8_0) (fun _ => (And.intro (fun _ => (h_6_tellWord pt ps pg s_7  s_10 _ hr_10 g)) (fun q => absurd c_8_1 q))))))))))))) ?_
          refine mm_re (l' := [(0, .ref 6), (2, .int w2)]) (c := [(0, .ref 6), (2, .int w2)]) ?_ rfl rfl
          exact xb_6_readInto_17_u_j65 (pr := pr) h_7_clear_17 h_8_scan h_6_kind h_6_tellSpeaker h_6_tellWord h_6_tellPair h_6_tellLaw h_6_tellNumber h_6_conclude s_10 (w2) _ hf hK
        replace hf := mo_neg hf c_8_1
        by_cases c_8_2 : v_7 = (2 : Int32)
        · have hf := mo_pos hf c_8_2
          obtain ⟨s_11, hr_11, hf⟩ := mo_bind hf
          refine mm_adv 16 (cs' := P_X6_readInto.drop 65) (l' := [(0, .ref 6), (2, .int w2)]) (st' := []) (h' := (xs_H pt ps pg (.ref 17) s_11)) (bc' := 0) (bs' := 0) (fun n g => (And.intro (fun q => absurd q c_3) (fun _ => (And.intro (fun q => absurd c_4 q) (fun _ => (h_6_kind pt ps pg (.ref 17) s  v_5 s_5 _ hr_5 (And.intro (fun q => absurd q c_6) (fun _ => (h_6_kind pt ps pg (.ref 17) s_5  v_7 s_7 _ hr_7 (And.intro (fun q => absurd q c_8_0) (fun _ => (And.intro (fun q => absurd q c_8_1) (fun _ => (And.intro (fun _ => (h_6_tellPair pt ps pg s_7  s_11 _ hr_11 g)) (fun q => absurd c_8_2 q))))))))))))))) ?_
          refine mm_re (l' := [(0, .ref 6), (2, .int w2)]) (c := [(0, .ref 6), (2, .int w2)]) ?_ rfl rfl
          exact xb_6_readInto_17_u_j65 (pr := pr) h_7_clear_17 h_8_scan h_6_kind h_6_tellSpeaker h_6_tellWord h_6_tellPair h_6_tellLaw h_6_tellNumber h_6_conclude s_11 (w2) _ hf hK
        replace hf := mo_neg hf c_8_2
        by_cases c_8_3 : v_7 = (3 : Int32)
        · have hf := mo_pos hf c_8_3
          refine mm_adv 13 (cs' := P_X6_readInto.drop 63) (l' := [(0, .ref 6), (2, .int w2)]) (st' := []) (h' := (xs_H pt ps pg (.ref 17) s_7)) (bc' := 0) (bs' := 0) (fun n g => (And.intro (fun q => absurd q c_3) (fun _ => (And.intro (fun q => absurd c_4 q) (fun _ => (h_6_kind pt ps pg (.ref 17) s  v_5 s_5 _ hr_5 (And.intro (fun q => absurd q c_6) (fun _ => (h_6_kind pt ps pg (.ref 17) s_5  v_7 s_7 _ hr_7 (And.intro (fun q => absurd q c_8_0) (fun _ => (And.intro (fun q => absurd q c_8_1) (fun _ => (And.intro (fun q => absurd q c_8_2) (fun _ => (And.intro (fun _ => g) (fun q => absurd c_8_3 q))))))))))))))))) ?_
          refine mm_re (l' := [(0, .ref 6), (2, .int w2)]) (c := [(0, .ref 6), (2, .int w2)]) ?_ rfl rfl
          exact xb_6_readInto_17_u_j63 (pr := pr) h_7_clear_17 h_8_scan h_6_kind h_6_tellSpeaker h_6_tellWord h_6_tellPair h_6_tellLaw h_6_tellNumber h_6_conclude s_7 (w2) _ hf hK
        replace hf := mo_neg hf c_8_3
        by_cases c_8_4 : v_7 = (4 : Int32)
        · have hf := mo_pos hf c_8_4
          refine mm_adv 13 (cs' := P_X6_readInto.drop 63) (l' := [(0, .ref 6), (2, .int w2)]) (st' := []) (h' := (xs_H pt ps pg (.ref 17) s_7)) (bc' := 0) (bs' := 0) (fun n g => (And.intro (fun q => absurd q c_3) (fun _ => (And.intro (fun q => absurd c_4 q) (fun _ => (h_6_kind pt ps pg (.ref 17) s  v_5 s_5 _ hr_5 (And.intro (fun q => absurd q c_6) (fun _ => (h_6_kind pt ps pg (.ref 17) s_5  v_7 s_7 _ hr_7 (And.intro (fun q => absurd q c_8_0) (fun _ => (And.intro (fun q => absurd q c_8_1) (fun _ => (And.intro (fun q => absurd q c_8_2) (fun _ => (And.intro (fun q => absurd q c_8_3) (fun _ => (And.intro (fun _ => g) (fun q => absurd c_8_4 q))))))))))))))))))) ?_
          refine mm_re (l' := [(0, .ref 6), (2, .int w2)]) (c := [(0, .ref 6), (2, .int w2)]) ?_ rfl rfl
          exact xb_6_readInto_17_u_j63 (pr := pr) h_7_clear_17 h_8_scan h_6_kind h_6_tellSpeaker h_6_tellWord h_6_tellPair h_6_tellLaw h_6_tellNumber h_6_conclude s_7 (w2) _ hf hK
        replace hf := mo_neg hf c_8_4
        by_cases c_8_5 : v_7 = (5 : Int32)
        · have hf := mo_pos hf c_8_5
          refine mm_adv 13 (cs' := P_X6_readInto.drop 63) (l' := [(0, .ref 6), (2, .int w2)]) (st' := []) (h' := (xs_H pt ps pg (.ref 17) s_7)) (bc' := 0) (bs' := 0) (fun n g => (And.intro (fun q => absurd q c_3) (fun _ => (And.intro (fun q => absurd c_4 q) (fun _ => (h_6_kind pt ps pg (.ref 17) s  v_5 s_5 _ hr_5 (And.intro (fun q => absurd q c_6) (fun _ => (h_6_kind pt ps pg (.ref 17) s_5  v_7 s_7 _ hr_7 (And.intro (fun q => absurd q c_8_0) (fun _ => (And.intro (fun q => absurd q c_8_1) (fun _ => (And.intro (fun q => absurd q c_8_2) (fun _ => (And.intro (fun q => absurd q c_8_3) (fun _ => (And.intro (fun q => absurd q c_8_4) (fun _ => (And.intro (fun _ => g) (fun q => absurd c_8_5 q))))))))))))))))))))) ?_
          refine mm_re (l' := [(0, .ref 6), (2, .int w2)]) (c := [(0, .ref 6), (2, .int w2)]) ?_ rfl rfl
          exact xb_6_readInto_17_u_j63 (pr := pr) h_7_clear_17 h_8_scan h_6_kind h_6_tellSpeaker h_6_tellWord h_6_tellPair h_6_tellLaw h_6_tellNumber h_6_conclude s_7 (w2) _ hf hK
        replace hf := mo_neg hf c_8_5
        by_cases c_8_6 : v_7 = (6 : Int32)
        · have hf := mo_pos hf c_8_6
          refine mm_adv 13 (cs' := P_X6_readInto.drop 63) (l' := [(0, .ref 6), (2, .int w2)]) (st' := []) (h' := (xs_H pt ps pg (.ref 17) s_7)) (bc' := 0) (bs' := 0) (fun n g => (And.intro (fun q => absurd q c_3) (fun _ => (And.intro (fun q => absurd c_4 q) (fun _ => (h_6_kind pt ps pg (.ref 17) s  v_5 s_5 _ hr_5 (And.intro (fun q => absurd q c_6) (fun _ => (h_6_kind pt ps pg (.ref 17) s_5  v_7 s_7 _ hr_7 (And.intro (fun q => absurd q c_8_0) (fun _ => (And.intro (fun q => absurd q c_8_1) (fun _ => (And.intro (fun q => absurd q c_8_2) (fun _ => (And.intro (fun q => absurd q c_8_3) (fun _ => (And.intro (fun q => absurd q c_8_4) (fun _ => (And.intro (fun q => absurd q c_8_5) (fun _ => (And.intro (fun _ => g) (fun q => absurd c_8_6 q))))))))))))))))))))))) ?_
          refine mm_re (l' := [(0, .ref 6), (2, .int w2)]) (c := [(0, .ref 6), (2, .int w2)]) ?_ rfl rfl
          exact xb_6_readInto_17_u_j63 (pr := pr) h_7_clear_17 h_8_scan h_6_kind h_6_tellSpeaker h_6_tellWord h_6_tellPair h_6_tellLaw h_6_tellNumber h_6_conclude s_7 (w2) _ hf hK
        replace hf := mo_neg hf c_8_6
        by_cases c_8_7 : v_7 = (7 : Int32)
        · have hf := mo_pos hf c_8_7
          obtain ⟨r_12, hr_12, hf⟩ := mo_bind hf
          obtain ⟨v_12, s_12⟩ := r_12
          refine mm_adv 22 (cs' := P_X6_readInto.drop 65) (l' := [(0, .ref 6), (2, .int w2)]) (st' := []) (h' := (xs_H pt ps pg (.ref 17) (xs_sI s_12 279 (v_12)))) (bc' := 0) (bs' := 0) (fun n g => (And.intro (fun q => absurd q c_3) (fun _ => (And.intro (fun q => absurd c_4 q) (fun _ => (h_6_kind pt ps pg (.ref 17) s  v_5 s_5 _ hr_5 (And.intro (fun q => absurd q c_6) (fun _ => (h_6_kind pt ps pg (.ref 17) s_5  v_7 s_7 _ hr_7 (And.intro (fun q => absurd q c_8_0) (fun _ => (And.intro (fun q => absurd q c_8_1) (fun _ => (And.intro (fun q => absurd q c_8_2) (fun _ => (And.intro (fun q => absurd q c_8_3) (fun _ => (And.intro (fun q => absurd q c_8_4) (fun _ => (And.intro (fun q => absurd q c_8_5) (fun _ => (And.intro (fun q => absurd q c_8_6) (fun _ => (And.intro (fun _ => (h_6_tellNumber pt ps pg (.ref 17) s_7 ((7 : Int32)) ((1 : Int32)) ((19 : Int32)) v_12 s_12 _ hr_12 (And.intro trivial g))) (fun q => absurd c_8_7 q))))))))))))))))))))))))) ?_
          refine mm_re (l' := [(0, .ref 6), (2, .int w2)]) (c := [(0, .ref 6), (2, .int w2)]) ?_ rfl rfl
          exact xb_6_readInto_17_u_j65 (pr := pr) h_7_clear_17 h_8_scan h_6_kind h_6_tellSpeaker h_6_tellWord h_6_tellPair h_6_tellLaw h_6_tellNumber h_6_conclude (xs_sI s_12 279 (v_12)) (w2) _ hf hK
        replace hf := mo_neg hf c_8_7
        by_cases c_8_8 : v_7 = (8 : Int32)
        · have hf := mo_pos hf c_8_8
          obtain ⟨r_13, hr_13, hf⟩ := mo_bind hf
          obtain ⟨v_13, s_13⟩ := r_13
          refine mm_adv 22 (cs' := P_X6_readInto.drop 65) (l' := [(0, .ref 6), (2, .int w2)]) (st' := []) (h' := (xs_H pt ps pg (.ref 17) (xs_sI s_13 280 (v_13)))) (bc' := 0) (bs' := 0) (fun n g => (And.intro (fun q => absurd q c_3) (fun _ => (And.intro (fun q => absurd c_4 q) (fun _ => (h_6_kind pt ps pg (.ref 17) s  v_5 s_5 _ hr_5 (And.intro (fun q => absurd q c_6) (fun _ => (h_6_kind pt ps pg (.ref 17) s_5  v_7 s_7 _ hr_7 (And.intro (fun q => absurd q c_8_0) (fun _ => (And.intro (fun q => absurd q c_8_1) (fun _ => (And.intro (fun q => absurd q c_8_2) (fun _ => (And.intro (fun q => absurd q c_8_3) (fun _ => (And.intro (fun q => absurd q c_8_4) (fun _ => (And.intro (fun q => absurd q c_8_5) (fun _ => (And.intro (fun q => absurd q c_8_6) (fun _ => (And.intro (fun q => absurd q c_8_7) (fun _ => (And.intro (fun _ => (h_6_tellNumber pt ps pg (.ref 17) s_7 ((8 : Int32)) ((0 : Int32)) ((9999 : Int32)) v_13 s_13 _ hr_13 (And.intro trivial g))) (fun q => absurd c_8_8 q))))))))))))))))))))))))))) ?_
          refine mm_re (l' := [(0, .ref 6), (2, .int w2)]) (c := [(0, .ref 6), (2, .int w2)]) ?_ rfl rfl
          exact xb_6_readInto_17_u_j65 (pr := pr) h_7_clear_17 h_8_scan h_6_kind h_6_tellSpeaker h_6_tellWord h_6_tellPair h_6_tellLaw h_6_tellNumber h_6_conclude (xs_sI s_13 280 (v_13)) (w2) _ hf hK
        replace hf := mo_neg hf c_8_8
        refine mm_adv 13 (cs' := P_X6_readInto.drop 63) (l' := [(0, .ref 6), (2, .int w2)]) (st' := []) (h' := (xs_H pt ps pg (.ref 17) s_7)) (bc' := 0) (bs' := 0) (fun n g => (And.intro (fun q => absurd q c_3) (fun _ => (And.intro (fun q => absurd c_4 q) (fun _ => (h_6_kind pt ps pg (.ref 17) s  v_5 s_5 _ hr_5 (And.intro (fun q => absurd q c_6) (fun _ => (h_6_kind pt ps pg (.ref 17) s_5  v_7 s_7 _ hr_7 (And.intro (fun q => absurd q c_8_0) (fun _ => (And.intro (fun q => absurd q c_8_1) (fun _ => (And.intro (fun q => absurd q c_8_2) (fun _ => (And.intro (fun q => absurd q c_8_3) (fun _ => (And.intro (fun q => absurd q c_8_4) (fun _ => (And.intro (fun q => absurd q c_8_5) (fun _ => (And.intro (fun q => absurd q c_8_6) (fun _ => (And.intro (fun q => absurd q c_8_7) (fun _ => (And.intro (fun q => absurd q c_8_8) (fun _ => g))))))))))))))))))))))))))) ?_
        refine mm_re (l' := [(0, .ref 6), (2, .int w2)]) (c := [(0, .ref 6), (2, .int w2)]) ?_ rfl rfl
        exact xb_6_readInto_17_u_j63 (pr := pr) h_7_clear_17 h_8_scan h_6_kind h_6_tellSpeaker h_6_tellWord h_6_tellPair h_6_tellLaw h_6_tellNumber h_6_conclude s_7 (w2) _ hf hK
    · have hf := mo_neg hf c_4
      obtain rfl := Option.some.inj hf
      refine mm_adv 6 (cs' := P_X6_readInto.drop 67) (l' := [(0, .ref 6), (2, .int w2)]) (st' := []) (h' := (xs_H pt ps pg (.ref 17) s)) (bc' := 0) (bs' := 0) (fun n g => (And.intro (fun q => absurd q c_3) (fun _ => (And.intro (fun _ => g) (fun q => absurd c_4 q))))) ?_
      exact mm_re (c := [(0, .ref 6)]) hK rfl rfl
noncomputable def xf_6_readInto_17_u_j67 (s : xs_S)  : Option (Int32 × xs_S) :=
((xf_6_conclude s ).bind fun s_4 =>
some ((s_4.1 101), s_4))
set_option maxHeartbeats 4000000 in
theorem xb_6_readInto_17_u_j67 {C : mm_C} {Q : mm_R} {pt : Value} {ps : Value} {pg : Value} {pr : Value} (h_7_clear_17 : xk_7_clear_17 C) (h_8_scan : xk_8_scan C) (h_6_kind : xk_6_kind C) (h_6_tellSpeaker : xk_6_tellSpeaker C) (h_6_tellWord : xk_6_tellWord C) (h_6_tellPair : xk_6_tellPair C) (h_6_tellLaw : xk_6_tellLaw C) (h_6_tellNumber : xk_6_tellNumber C) (h_6_conclude : xk_6_conclude C) (s : xs_S)  (v : Int32) (s2 : xs_S) (hf : xf_6_readInto_17_u_j67 s = some (v, s2)) (hK : Q (some (.int v)) (xs_H pt ps pg (.ref 17) s2)) : mm_go C mm_Mk mm_Fk P_X6_readInto Q (P_X6_readInto.drop 67) [(0, .ref 6)] [] (xs_H pt ps pg (.ref 17) s) 0 0 := by
  unfold xf_6_readInto_17_u_j67 at hf
  obtain ⟨s_4, hr_4, hf⟩ := mo_bind hf
  obtain ⟨rfl, rfl⟩ := mo_pair hf
  exact ⟨5, (h_6_conclude pt ps pg (.ref 17) s  s_4 _ hr_4 hK)⟩
noncomputable def xf_6_readInto_17_u (s : xs_S)  : Option (Int32 × xs_S) :=
((xf_7_clear_17 s ).bind fun s_1 =>
((xf_8_scan (xs_sI (xs_sI (xs_sI (xs_sI s_1 100 ((0 : Int32))) 101 ((0 : Int32))) 102 ((-1 : Int32))) 103 ((0 : Int32))) ).bind fun s_2 =>
((mo_loop (xf_6_readInto_17_u_l23 ) ((0 : Int32), s_2)).bind fun s_3 =>
(xf_6_readInto_17_u_j67 (s_3)))))
set_option maxHeartbeats 4000000 in
theorem xb_6_readInto_17_u {C : mm_C} {Q : mm_R} {pt : Value} {ps : Value} {pg : Value} {pr : Value} (h_7_clear_17 : xk_7_clear_17 C) (h_8_scan : xk_8_scan C) (h_6_kind : xk_6_kind C) (h_6_tellSpeaker : xk_6_tellSpeaker C) (h_6_tellWord : xk_6_tellWord C) (h_6_tellPair : xk_6_tellPair C) (h_6_tellLaw : xk_6_tellLaw C) (h_6_tellNumber : xk_6_tellNumber C) (h_6_conclude : xk_6_conclude C) (s : xs_S)  (v : Int32) (s2 : xs_S) (hf : xf_6_readInto_17_u s = some (v, s2)) (hK : Q (some (.int v)) (xs_H pt ps pg (.ref 17) s2)) : mm_go C mm_Mk mm_Fk P_X6_readInto Q P_X6_readInto [(0, .ref 6), (1, .ref 17)] [] (xs_H pt ps pg pr s) 0 0 := by
  unfold xf_6_readInto_17_u at hf
  obtain ⟨s_1, hr_1, hf⟩ := mo_bind hf
  obtain ⟨s_2, hr_2, hf⟩ := mo_bind hf
  obtain ⟨x_3, hl_3, hf⟩ := mo_bind hf
  refine mm_adv 23 (cs' := P_X6_readInto.drop 23) (l' := [(2, .int (0 : Int32)), (0, .ref 6), (1, .ref 17)]) (st' := []) (h' := (xs_H pt ps pg (.ref 17) s_2)) (bc' := 0) (bs' := 0) (fun n g => (And.intro trivial (h_7_clear_17 pt ps pg (.ref 17) s  s_1 _ hr_1 (And.intro trivial (And.intro trivial (And.intro trivial (And.intro trivial (h_8_scan pt ps pg (.ref 17) (xs_sI (xs_sI (xs_sI (xs_sI s_1 100 ((0 : Int32))) 101 ((0 : Int32))) 102 ((-1 : Int32))) 103 ((0 : Int32)))  s_2 _ hr_2 g)))))))) ?_
  refine mm_re (l' := [(0, .ref 6), (2, .int (0 : Int32))]) (c := [(0, .ref 6), (2, .int (0 : Int32))]) ?_ rfl rfl
  refine xb_6_readInto_17_u_l23 (pr := pr) h_7_clear_17 h_8_scan h_6_kind h_6_tellSpeaker h_6_tellWord h_6_tellPair h_6_tellLaw h_6_tellNumber h_6_conclude  ((0 : Int32), s_2) x_3 hl_3 ?_
  obtain ⟨s_3, rfl⟩ : ∃ q, q = x_3 := ⟨_, rfl⟩
  refine mm_re (l' := [(0, .ref 6)]) (c := [(0, .ref 6)]) ?_ rfl rfl
  exact xb_6_readInto_17_u_j67 (pr := pr) h_7_clear_17 h_8_scan h_6_kind h_6_tellSpeaker h_6_tellWord h_6_tellPair h_6_tellLaw h_6_tellNumber h_6_conclude s_3 _ _ hf hK
def xk_6_readInto_17_u (C : mm_C) : Prop := ∀ (pt : Value) (ps : Value) (pg : Value) (pr : Value) (s : xs_S)  (v : Int32) (s2 : xs_S) (Q : mm_R), xf_6_readInto_17_u s = some (v, s2) → Q (some (.int v)) (xs_H pt ps pg (.ref 17) s2) → C 166 [.ref 6, .ref 17] (xs_H pt ps pg pr s) Q
-- 11_read_u
noncomputable def xf_11_read_u (s : xs_S)  : Option (Int32 × xs_S) :=
((xf_6_readInto_17_u s ).bind fun (v_1, s_1) =>
(if v_1 = (0 : Int32) then
((xf_11_beginAnew_p017 (xs_sI (xs_sI s_1 4 ((s_1.1 102))) 17 ((0 : Int32))) ).bind fun s_3 =>
some (v_1, s_3))
else
some (v_1, (xs_sI (xs_sI s_1 4 ((s_1.1 102))) 17 ((0 : Int32))))))
set_option maxHeartbeats 4000000 in
theorem xb_11_read_u {C : mm_C} {Q : mm_R} {pr : Value} (h_6_readInto_17_u : xk_6_readInto_17_u C) (h_11_beginAnew_p017 : xk_11_beginAnew_p017 C) (s : xs_S)  (v : Int32) (s2 : xs_S) (hf : xf_11_read_u s = some (v, s2)) (hK : Q (some (.int v)) (xr_end v s2)) : mm_go C mm_Mk mm_Fk P_X11_read Q P_X11_read [(0, .ref 0)] [] (xs_H (.ref 9) (.ref 17) (.ref 9) pr s) 0 0 := by
  unfold xf_11_read_u at hf
  obtain ⟨r_1, hr_1, hf⟩ := mo_bind hf
  obtain ⟨v_1, s_1⟩ := r_1
  by_cases c_2 : v_1 = (0 : Int32)
  · have hf := mo_pos hf c_2
    obtain ⟨s_3, hr_3, hf⟩ := mo_bind hf
    obtain ⟨rfl, rfl⟩ := mo_pair hf
    exact ⟨31, (h_6_readInto_17_u (.ref 9) (.ref 17) (.ref 9) pr s  v_1 s_1 _ hr_1 (And.intro trivial (And.intro trivial (And.intro (fun q => absurd c_2 q) (fun _ => (And.intro trivial (And.intro trivial (h_11_beginAnew_p017 (.ref 9) (.ref 17) (xs_sI (xs_sI s_1 4 ((s_1.1 102))) 17 ((0 : Int32)))  s_3 _ hr_3 (xr_pos (by assumption) hK)))))))))⟩
  · have hf := mo_neg hf c_2
    obtain ⟨rfl, rfl⟩ := mo_pair hf
    exact ⟨19, (h_6_readInto_17_u (.ref 9) (.ref 17) (.ref 9) pr s  v_1 s_1 _ hr_1 (And.intro trivial (And.intro trivial (And.intro (fun _ => (xr_neg (by assumption) hK)) (fun q => absurd c_2 q)))))⟩
def xk_11_read_u (C : mm_C) : Prop := ∀ (pr : Value) (s : xs_S)  (v : Int32) (s2 : xs_S) (Q : mm_R), xf_11_read_u s = some (v, s2) → Q (some (.int v)) (xr_end v s2) → C 227 [.ref 0] (xs_H (.ref 9) (.ref 17) (.ref 9) pr s) Q
-- 10_start
noncomputable def xf_10_start (s : xs_S) (a0 : Int32) (a1 : Int32) (a2 : Int32) : Option (xs_S) :=
(bif mo_in a0 294 then some (xs_sA s 132 (upd (xs_fl 294 (a2) (s.2.1 132)) (a0).toNatClampNeg (a1))) else none)
set_option maxHeartbeats 4000000 in
theorem xb_10_start {C : mm_C} {Q : mm_R} {pt : Value} {ps : Value} {pg : Value} {pr : Value} (h_fillg : xk_fillg C) (s : xs_S) (a0 : Int32) (a1 : Int32) (a2 : Int32) (s2 : xs_S) (hf : xf_10_start s a0 a1 a2 = some s2) (hK : Q (none) (xs_H pt ps pg pr s2)) : mm_go C mm_Mk mm_Fk P_X10_start Q P_X10_start [(0, .ref 131), (1, .int a0), (2, .int a1), (3, .int a2)] [] (xs_H pt ps pg pr s) 0 0 := by
  unfold xf_10_start at hf
  refine mm_adv 1 (cs' := P_X10_start.drop 1) (l' := [(0, .ref 131), (1, .int a0), (2, .int a1), (3, .int a2)]) (st' := [.ref 131]) (h' := (xs_H pt ps pg pr s)) (bc' := 0) (bs' := 0) (fun n g => g) ?_
  obtain ⟨sI, sA, sL, sw⟩ := s
  cases sw with
  | false =>
    obtain ⟨hi_1, hf⟩ := mo_if hf
    obtain rfl := Option.some.inj hf
    exact ⟨9, (h_fillg _ 132 294 _ (a2) _ rfl (by decide) (And.intro hi_1 hK))⟩
  | true =>
    obtain ⟨hi_1, hf⟩ := mo_if hf
    obtain rfl := Option.some.inj hf
    exact ⟨9, (h_fillg _ 133 294 _ (a2) _ rfl (by decide) (And.intro hi_1 hK))⟩
def xk_10_start (C : mm_C) : Prop := ∀ (pt : Value) (ps : Value) (pg : Value) (pr : Value) (s : xs_S) (a0 : Int32) (a1 : Int32) (a2 : Int32) (s2 : xs_S) (Q : mm_R), xf_10_start s a0 a1 a2 = some s2 → Q (none) (xs_H pt ps pg pr s2) → C 220 [.ref 131, .int a0, .int a1, .int a2] (xs_H pt ps pg pr s) Q
-- 10_swap
noncomputable def xf_10_swap (s : xs_S)  : Option (xs_S) :=
some (xs_sw s)
set_option maxHeartbeats 4000000 in
theorem xb_10_swap {C : mm_C} {Q : mm_R} {pt : Value} {ps : Value} {pg : Value} {pr : Value}  (s : xs_S)  (s2 : xs_S) (hf : xf_10_swap s = some s2) (hK : Q (none) (xs_H pt ps pg pr s2)) : mm_go C mm_Mk mm_Fk P_X10_swap Q P_X10_swap [(0, .ref 131)] [] (xs_H pt ps pg pr s) 0 0 := by
  unfold xf_10_swap at hf
  refine mm_adv 1 (cs' := P_X10_swap.drop 1) (l' := [(0, .ref 131)]) (st' := [.ref 131]) (h' := (xs_H pt ps pg pr s)) (bc' := 0) (bs' := 0) (fun n g => g) ?_
  obtain ⟨sI, sA, sL, sw⟩ := s
  cases sw with
  | false =>
    obtain rfl := Option.some.inj hf
    exact ⟨10, (And.intro trivial (And.intro trivial hK))⟩
  | true =>
    obtain rfl := Option.some.inj hf
    exact ⟨10, (And.intro trivial (And.intro trivial hK))⟩
def xk_10_swap (C : mm_C) : Prop := ∀ (pt : Value) (ps : Value) (pg : Value) (pr : Value) (s : xs_S)  (s2 : xs_S) (Q : mm_R), xf_10_swap s = some s2 → Q (none) (xs_H pt ps pg pr s2) → C 223 [.ref 131] (xs_H pt ps pg pr s) Q
-- 10_leanOn
noncomputable def xf_10_leanOn_j64 (s : xs_S) (v1 : Int32) (v2 : Int32) : Option ((Int32 × Int32 × xs_S) ⊕ ((Int32 × xs_S))) :=
some (.inl (v1, (v2 + (1 : Int32)), s))
set_option maxHeartbeats 4000000 in
theorem xb_10_leanOn_j64 {C : mm_C} {Q : mm_R} {pt : Value} {ps : Value} {pr : Value} (h_fillg : xk_fillg C) (h_1_open : xk_1_open C) (h_1_after : xk_1_after C) (h_11_isAwake : xk_11_isAwake C) (h_11_leanOf : xk_11_leanOf C) (h_10_swap : xk_10_swap C) (s : xs_S) (v1 : Int32) (v2 : Int32) (r : (Int32 × Int32 × xs_S) ⊕ ((Int32 × xs_S))) (hf : xf_10_leanOn_j64 s v1 v2 = some r) (hK : mo_sum (mo_c2 (fun y1 => (mo_c2 (fun y2 sy => mm_go C mm_Mk mm_Fk P_X10_leanOn Q (P_X10_leanOn.drop 8) [(0, .ref 131), (1, .int y1), (2, .int y2)] [] (xs_H pt ps (.ref 9) pr sy) 0 0))))  (mo_c2 (fun y1 sy => mm_go C mm_Mk mm_Fk P_X10_leanOn Q (P_X10_leanOn.drop 66) [(0, .ref 131), (1, .int y1)] [] (xs_H pt ps (.ref 9) pr sy) 0 0))  r) : mm_go C mm_Mk mm_Fk P_X10_leanOn Q (P_X10_leanOn.drop 64) [(0, .ref 131), (1, .int v1), (2, .int v2)] [] (xs_H pt ps (.ref 9) pr s) 0 0 := by
  unfold xf_10_leanOn_j64 at hf
  obtain rfl := Option.some.inj hf
  refine mm_adv 2 (cs' := P_X10_leanOn.drop 8) (l' := [(2, .int (v2 + (1 : Int32))), (0, .ref 131), (1, .int v1)]) (st' := []) (h' := (xs_H pt ps (.ref 9) pr s)) (bc' := 0) (bs' := 0) (fun n g => g) ?_
  exact mm_re (c := [(0, .ref 131), (1, .int v1), (2, .int (v2 + (1 : Int32)))]) hK rfl rfl
noncomputable def xf_10_leanOn_j62 (s : xs_S) (v1 : Int32) (v2 : Int32) (v3 : Int32) : Option ((Int32 × Int32 × xs_S) ⊕ ((Int32 × xs_S))) :=
some (.inl (v1, (v3 + (1 : Int32)), s))
set_option maxHeartbeats 4000000 in
theorem xb_10_leanOn_j62 {C : mm_C} {Q : mm_R} {pt : Value} {ps : Value} {pr : Value} (h_fillg : xk_fillg C) (h_1_open : xk_1_open C) (h_1_after : xk_1_after C) (h_11_isAwake : xk_11_isAwake C) (h_11_leanOf : xk_11_leanOf C) (h_10_swap : xk_10_swap C) (s : xs_S) (v1 : Int32) (v2 : Int32) (v3 : Int32) (r : (Int32 × Int32 × xs_S) ⊕ ((Int32 × xs_S))) (hf : xf_10_leanOn_j62 s v1 v2 v3 = some r) (hK : mo_sum (mo_c2 (fun y1 => (mo_c2 (fun y3 sy => mm_go C mm_Mk mm_Fk P_X10_leanOn Q (P_X10_leanOn.drop 24) [(0, .ref 131), (1, .int y1), (2, .int v2), (3, .int y3)] [] (xs_H pt ps (.ref 9) pr sy) 0 0))))  (mo_c2 (fun y1 sy => mm_go C mm_Mk mm_Fk P_X10_leanOn Q (P_X10_leanOn.drop 64) [(0, .ref 131), (1, .int y1), (2, .int v2)] [] (xs_H pt ps (.ref 9) pr sy) 0 0))  r) : mm_go C mm_Mk mm_Fk P_X10_leanOn Q (P_X10_leanOn.drop 62) [(0, .ref 131), (1, .int v1), (2, .int v2), (3, .int v3)] [] (xs_H pt ps (.ref 9) pr s) 0 0 := by
  unfold xf_10_leanOn_j62 at hf
  obtain rfl := Option.some.inj hf
  refine mm_adv 2 (cs' := P_X10_leanOn.drop 24) (l' := [(3, .int (v3 + (1 : Int32))), (0, .ref 131), (1, .int v1), (2, .int v2)]) (st' := []) (h' := (xs_H pt ps (.ref 9) pr s)) (bc' := 0) (bs' := 0) (fun n g => g) ?_
  exact mm_re (c := [(0, .ref 131), (1, .int v1), (2, .int v2), (3, .int (v3 + (1 : Int32)))]) hK rfl rfl
noncomputable def xf_10_leanOn_l24 (v2 : Int32) : (Int32 × Int32 × xs_S) → Option ((Int32 × Int32 × xs_S) ⊕ ((Int32 × xs_S))) := fun (w1, w3, s) =>
(if (7 : Int32) ≤ w3 then
some (.inr (w1, s))
else
((xf_1_after s (v2) (w3) ((0 : Int32))).bind fun (v_6, s_6) =>
(if v_6 = (-1 : Int32) then
(xf_10_leanOn_j62 (s_6) (w1) (v2) (w3))
else
((xf_11_isAwake (v_6)).bind fun v_8 =>
(if v_8 = (0 : Int32) then
((mo_ag 294 (s_6.2.1 132) v2).bind fun x_10 =>
((xf_11_leanOf (v_6)).bind fun v_11 =>
((mo_ag 294 (s_6.2.1 133) v_6).bind fun x_12 =>
(bif mo_in v_6 294 then (xf_10_leanOn_j62 ((xs_sA s_6 133 (upd (s_6.2.1 133) (v_6).toNatClampNeg ((mm_min (x_12) ((mm_max (x_10) (v_11)))))))) ((mm_min (w1) ((mm_max (x_10) (v_11))))) (v2) (w3)) else none))))
else
(xf_10_leanOn_j62 (s_6) (w1) (v2) (w3)))))))
set_option maxHeartbeats 4000000 in
theorem xb_10_leanOn_l24 {C : mm_C} {Q : mm_R} {pt : Value} {ps : Value} {pr : Value} (h_fillg : xk_fillg C) (h_1_open : xk_1_open C) (h_1_after : xk_1_after C) (h_11_isAwake : xk_11_isAwake C) (h_11_leanOf : xk_11_leanOf C) (h_10_swap : xk_10_swap C) (v2 : Int32) (t : Int32 × Int32 × xs_S) (x : (Int32 × xs_S)) (hl : mo_loop (xf_10_leanOn_l24 v2) t = some x) (hK : (mo_c2 (fun y1 sy => mm_go C mm_Mk mm_Fk P_X10_leanOn Q (P_X10_leanOn.drop 64) [(0, .ref 131), (1, .int y1), (2, .int v2)] [] (xs_H pt ps (.ref 9) pr sy) 0 0)) x) : (mo_c2 (fun y1 => (mo_c2 (fun y3 sy => mm_go C mm_Mk mm_Fk P_X10_leanOn Q (P_X10_leanOn.drop 24) [(0, .ref 131), (1, .int y1), (2, .int v2), (3, .int y3)] [] (xs_H pt ps (.ref 9) pr sy) 0 0)))) t := by
  refine mo_loop_go (G := (mo_c2 (fun y1 => (mo_c2 (fun y3 sy => mm_go C mm_Mk mm_Fk P_X10_leanOn Q (P_X10_leanOn.drop 24) [(0, .ref 131), (1, .int y1), (2, .int v2), (3, .int y3)] [] (xs_H pt ps (.ref 9) pr sy) 0 0)))) ) (K := (mo_c2 (fun y1 sy => mm_go C mm_Mk mm_Fk P_X10_leanOn Q (P_X10_leanOn.drop 64) [(0, .ref 131), (1, .int y1), (2, .int v2)] [] (xs_H pt ps (.ref 9) pr sy) 0 0)) ) ?_ t x hl hK
  intro t r hf hK
  obtain ⟨w1, w3, s⟩ := t
  unfold xf_10_leanOn_l24 at hf
  by_cases c_5 : (7 : Int32) ≤ w3
  · have hf := mo_pos hf c_5
    obtain rfl := Option.some.inj hf
    refine mm_adv 3 (cs' := P_X10_leanOn.drop 64) (l' := [(0, .ref 131), (1, .int w1), (2, .int v2), (3, .int w3)]) (st' := []) (h' := (xs_H pt ps (.ref 9) pr s)) (bc' := 0) (bs' := 0) (fun n g => (And.intro (fun _ => g) (fun q => absurd c_5 q))) ?_
    exact mm_re (c := [(0, .ref 131), (1, .int w1), (2, .int v2)]) hK rfl rfl
  · have hf := mo_neg hf c_5
    obtain ⟨r_6, hr_6, hf⟩ := mo_bind hf
    obtain ⟨v_6, s_6⟩ := r_6
    by_cases c_7 : v_6 = (-1 : Int32)
    · have hf := mo_pos hf c_7
      refine mm_adv 13 (cs' := P_X10_leanOn.drop 62) (l' := [(4, .int v_6), (0, .ref 131), (1, .int w1), (2, .int v2), (3, .int w3)]) (st' := []) (h' := (xs_H pt ps (.ref 9) pr s_6)) (bc' := 0) (bs' := 0) (fun n g => (And.intro (fun q => absurd q c_5) (fun _ => (h_1_after pt ps (.ref 9) pr s (v2) (w3) ((0 : Int32)) v_6 s_6 _ hr_6 (And.intro (fun _ => g) (fun q => absurd c_7 q)))))) ?_
      refine mm_re (l' := [(0, .ref 131), (1, .int w1), (2, .int v2), (3, .int w3)]) (c := [(0, .ref 131), (1, .int w1), (2, .int v2), (3, .int w3)]) ?_ rfl rfl
      exact xb_10_leanOn_j62 h_fillg h_1_open h_1_after h_11_isAwake h_11_leanOf h_10_swap s_6 (w1) (v2) (w3) _ hf hK
    · have hf := mo_neg hf c_7
      obtain ⟨v_8, hr_8, hf⟩ := mo_bind hf
      by_cases c_9 : v_8 = (0 : Int32)
      · have hf := mo_pos hf c_9
        refine mm_adv 17 (cs' := P_X10_leanOn.drop 41) (l' := [(4, .int v_6), (0, .ref 131), (1, .int w1), (2, .int v2), (3, .int w3)]) (st' := [.ref 131]) (h' := (xs_H pt ps (.ref 9) pr s_6)) (bc' := 0) (bs' := 0) (fun n g => (And.intro (fun q => absurd q c_5) (fun _ => (h_1_after pt ps (.ref 9) pr s (v2) (w3) ((0 : Int32)) v_6 s_6 _ hr_6 (And.intro (fun q => absurd q c_7) (fun _ => (h_11_isAwake _ (v_6) v_8 _ hr_8 (And.intro (fun q => absurd c_9 q) (fun _ => g))))))))) ?_
        obtain ⟨sI_6, sA_6, sL_6, sw_6⟩ := s_6
        cases sw_6 with
        | false =>
          obtain ⟨x_10, hx_10, hf⟩ := mo_bind hf
          obtain ⟨hi_10, rfl⟩ := mo_ag_inv hx_10
          obtain ⟨v_11, hr_11, hf⟩ := mo_bind hf
          obtain ⟨x_12, hx_12, hf⟩ := mo_bind hf
          obtain ⟨hi_12, rfl⟩ := mo_ag_inv hx_12
          obtain ⟨hi_13, hf⟩ := mo_if hf
          refine mm_adv 21 (cs' := P_X10_leanOn.drop 62) (l' := [(1, .int (mm_min (w1) ((mm_max ((((sI_6, sA_6, sL_6, false).2.1 132) (v2).toNatClampNeg)) (v_11))))), (5, .int (mm_max ((((sI_6, sA_6, sL_6, false).2.1 132) (v2).toNatClampNeg)) (v_11))), (4, .int v_6), (0, .ref 131), (2, .int v2), (3, .int w3)]) (st' := []) (h' := (xs_H pt ps (.ref 9) pr (xs_sA (sI_6, sA_6, sL_6, false) 133 (upd ((sI_6, sA_6, sL_6, false).2.1 133) (v_6).toNatClampNeg ((mm_min ((((sI_6, sA_6, sL_6, false).2.1 133) (v_6).toNatClampNeg)) ((mm_max ((((sI_6, sA_6, sL_6, false).2.1 132) (v2).toNatClampNeg)) (v_11))))))))) (bc' := 0) (bs' := 0) (fun n g => (And.intro hi_10 (h_11_leanOf _ (v_6) v_11 _ hr_11 (And.intro hi_12 (And.intro hi_13 g))))) ?_
          refine mm_re (l' := [(0, .ref 131), (1, .int (mm_min (w1) ((mm_max ((((sI_6, sA_6, sL_6, false).2.1 132) (v2).toNatClampNeg)) (v_11))))), (2, .int v2), (3, .int w3)]) (c := [(0, .ref 131), (1, .int (mm_min (w1) ((mm_max ((((sI_6, sA_6, sL_6, false).2.1 132) (v2).toNatClampNeg)) (v_11))))), (2, .int v2), (3, .int w3)]) ?_ rfl rfl
          exact xb_10_leanOn_j62 h_fillg h_1_open h_1_after h_11_isAwake h_11_leanOf h_10_swap (xs_sA (sI_6, sA_6, sL_6, false) 133 (upd ((sI_6, sA_6, sL_6, false).2.1 133) (v_6).toNatClampNeg ((mm_min ((((sI_6, sA_6, sL_6, false).2.1 133) (v_6).toNatClampNeg)) ((mm_max ((((sI_6, sA_6, sL_6, false).2.1 132) (v2).toNatClampNeg)) (v_11))))))) ((mm_min (w1) ((mm_max ((((sI_6, sA_6, sL_6, false).2.1 132) (v2).toNatClampNeg)) (v_11))))) (v2) (w3) _ hf hK
        | true =>
          obtain ⟨x_10, hx_10, hf⟩ := mo_bind hf
          obtain ⟨hi_10, rfl⟩ := mo_ag_inv hx_10
          obtain ⟨v_11, hr_11, hf⟩ := mo_bind hf
          obtain ⟨x_12, hx_12, hf⟩ := mo_bind hf
          obtain ⟨hi_12, rfl⟩ := mo_ag_inv hx_12
          obtain ⟨hi_13, hf⟩ := mo_if hf
          refine mm_adv 21 (cs' := P_X10_leanOn.drop 62) (l' := [(1, .int (mm_min (w1) ((mm_max ((((sI_6, sA_6, sL_6, true).2.1 132) (v2).toNatClampNeg)) (v_11))))), (5, .int (mm_max ((((sI_6, sA_6, sL_6, true).2.1 132) (v2).toNatClampNeg)) (v_11))), (4, .int v_6), (0, .ref 131), (2, .int v2), (3, .int w3)]) (st' := []) (h' := (xs_H pt ps (.ref 9) pr (xs_sA (sI_6, sA_6, sL_6, true) 133 (upd ((sI_6, sA_6, sL_6, true).2.1 133) (v_6).toNatClampNeg ((mm_min ((((sI_6, sA_6, sL_6, true).2.1 133) (v_6).toNatClampNeg)) ((mm_max ((((sI_6, sA_6, sL_6, true).2.1 132) (v2).toNatClampNeg)) (v_11))))))))) (bc' := 0) (bs' := 0) (fun n g => (And.intro hi_10 (h_11_leanOf _ (v_6) v_11 _ hr_11 (And.intro hi_12 (And.intro hi_13 g))))) ?_
          refine mm_re (l' := [(0, .ref 131), (1, .int (mm_min (w1) ((mm_max ((((sI_6, sA_6, sL_6, true).2.1 132) (v2).toNatClampNeg)) (v_11))))), (2, .int v2), (3, .int w3)]) (c := [(0, .ref 131), (1, .int (mm_min (w1) ((mm_max ((((sI_6, sA_6, sL_6, true).2.1 132) (v2).toNatClampNeg)) (v_11))))), (2, .int v2), (3, .int w3)]) ?_ rfl rfl
          exact xb_10_leanOn_j62 h_fillg h_1_open h_1_after h_11_isAwake h_11_leanOf h_10_swap (xs_sA (sI_6, sA_6, sL_6, true) 133 (upd ((sI_6, sA_6, sL_6, true).2.1 133) (v_6).toNatClampNeg ((mm_min ((((sI_6, sA_6, sL_6, true).2.1 133) (v_6).toNatClampNeg)) ((mm_max ((((sI_6, sA_6, sL_6, true).2.1 132) (v2).toNatClampNeg)) (v_11))))))) ((mm_min (w1) ((mm_max ((((sI_6, sA_6, sL_6, true).2.1 132) (v2).toNatClampNeg)) (v_11))))) (v2) (w3) _ hf hK
      · have hf := mo_neg hf c_9
        refine mm_adv 16 (cs' := P_X10_leanOn.drop 62) (l' := [(4, .int v_6), (0, .ref 131), (1, .int w1), (2, .int v2), (3, .int w3)]) (st' := []) (h' := (xs_H pt ps (.ref 9) pr s_6)) (bc' := 0) (bs' := 0) (fun n g => (And.intro (fun q => absurd q c_5) (fun _ => (h_1_after pt ps (.ref 9) pr s (v2) (w3) ((0 : Int32)) v_6 s_6 _ hr_6 (And.intro (fun q => absurd q c_7) (fun _ => (h_11_isAwake _ (v_6) v_8 _ hr_8 (And.intro (fun _ => g) (fun q => absurd c_9 q))))))))) ?_
        refine mm_re (l' := [(0, .ref 131), (1, .int w1), (2, .int v2), (3, .int w3)]) (c := [(0, .ref 131), (1, .int w1), (2, .int v2), (3, .int w3)]) ?_ rfl rfl
        exact xb_10_leanOn_j62 h_fillg h_1_open h_1_after h_11_isAwake h_11_leanOf h_10_swap s_6 (w1) (v2) (w3) _ hf hK
noncomputable def xf_10_leanOn_l8  : (Int32 × Int32 × xs_S) → Option ((Int32 × Int32 × xs_S) ⊕ ((Int32 × xs_S))) := fun (w1, w2, s) =>
(if (294 : Int32) ≤ w2 then
some (.inr (w1, s))
else
((mo_ag 294 (s.2.1 132) w2).bind fun x_2 =>
(if x_2 = (99 : Int32) then
(xf_10_leanOn_j64 (s) (w1) (w2))
else
((xf_1_open s (w2)).bind fun s_4 =>
((mo_loop (xf_10_leanOn_l24 (w2)) (w1, (0 : Int32), s_4)).bind fun (e1_5, s_5) =>
(xf_10_leanOn_j64 (s_5) (e1_5) (w2)))))))
set_option maxHeartbeats 4000000 in
theorem xb_10_leanOn_l8 {C : mm_C} {Q : mm_R} {pt : Value} {ps : Value} {pr : Value} (h_fillg : xk_fillg C) (h_1_open : xk_1_open C) (h_1_after : xk_1_after C) (h_11_isAwake : xk_11_isAwake C) (h_11_leanOf : xk_11_leanOf C) (h_10_swap : xk_10_swap C)  (t : Int32 × Int32 × xs_S) (x : (Int32 × xs_S)) (hl : mo_loop (xf_10_leanOn_l8 ) t = some x) (hK : (mo_c2 (fun y1 sy => mm_go C mm_Mk mm_Fk P_X10_leanOn Q (P_X10_leanOn.drop 66) [(0, .ref 131), (1, .int y1)] [] (xs_H pt ps (.ref 9) pr sy) 0 0)) x) : (mo_c2 (fun y1 => (mo_c2 (fun y2 sy => mm_go C mm_Mk mm_Fk P_X10_leanOn Q (P_X10_leanOn.drop 8) [(0, .ref 131), (1, .int y1), (2, .int y2)] [] (xs_H pt ps (.ref 9) pr sy) 0 0)))) t := by
  refine mo_loop_go (G := (mo_c2 (fun y1 => (mo_c2 (fun y2 sy => mm_go C mm_Mk mm_Fk P_X10_leanOn Q (P_X10_leanOn.drop 8) [(0, .ref 131), (1, .int y1), (2, .int y2)] [] (xs_H pt ps (.ref 9) pr sy) 0 0)))) ) (K := (mo_c2 (fun y1 sy => mm_go C mm_Mk mm_Fk P_X10_leanOn Q (P_X10_leanOn.drop 66) [(0, .ref 131), (1, .int y1)] [] (xs_H pt ps (.ref 9) pr sy) 0 0)) ) ?_ t x hl hK
  intro t r hf hK
  obtain ⟨w1, w2, s⟩ := t
  unfold xf_10_leanOn_l8 at hf
  by_cases c_1 : (294 : Int32) ≤ w2
  · have hf := mo_pos hf c_1
    obtain rfl := Option.some.inj hf
    refine mm_adv 3 (cs' := P_X10_leanOn.drop 66) (l' := [(0, .ref 131), (1, .int w1), (2, .int w2)]) (st' := []) (h' := (xs_H pt ps (.ref 9) pr s)) (bc' := 0) (bs' := 0) (fun n g => (And.intro (fun _ => g) (fun q => absurd c_1 q))) ?_
    exact mm_re (c := [(0, .ref 131), (1, .int w1)]) hK rfl rfl
  · have hf := mo_neg hf c_1
    refine mm_adv 4 (cs' := P_X10_leanOn.drop 12) (l' := [(0, .ref 131), (1, .int w1), (2, .int w2)]) (st' := [.ref 131]) (h' := (xs_H pt ps (.ref 9) pr s)) (bc' := 0) (bs' := 0) (fun n g => (And.intro (fun q => absurd q c_1) (fun _ => g))) ?_
    obtain ⟨sI, sA, sL, sw⟩ := s
    cases sw with
    | false =>
      obtain ⟨x_2, hx_2, hf⟩ := mo_bind hf
      obtain ⟨hi_2, rfl⟩ := mo_ag_inv hx_2
      by_cases c_3 : (((sI, sA, sL, false).2.1 132) (w2).toNatClampNeg) = (99 : Int32)
      · have hf := mo_pos hf c_3
        refine mm_adv 6 (cs' := P_X10_leanOn.drop 64) (l' := [(0, .ref 131), (1, .int w1), (2, .int w2)]) (st' := []) (h' := (xs_H pt ps (.ref 9) pr (sI, sA, sL, false))) (bc' := 0) (bs' := 0) (fun n g => (And.intro hi_2 (And.intro (fun q => absurd c_3 q) (fun _ => g)))) ?_
        refine mm_re (l' := [(0, .ref 131), (1, .int w1), (2, .int w2)]) (c := [(0, .ref 131), (1, .int w1), (2, .int w2)]) ?_ rfl rfl
        exact xb_10_leanOn_j64 h_fillg h_1_open h_1_after h_11_isAwake h_11_leanOf h_10_swap (sI, sA, sL, false) (w1) (w2) _ hf hK
      · have hf := mo_neg hf c_3
        obtain ⟨s_4, hr_4, hf⟩ := mo_bind hf
        obtain ⟨x_5, hl_5, hf⟩ := mo_bind hf
        refine mm_adv 11 (cs' := P_X10_leanOn.drop 24) (l' := [(3, .int (0 : Int32)), (0, .ref 131), (1, .int w1), (2, .int w2)]) (st' := []) (h' := (xs_H pt ps (.ref 9) pr s_4)) (bc' := 0) (bs' := 0) (fun n g => (And.intro hi_2 (And.intro (fun _ => (h_1_open pt ps pr (sI, sA, sL, false) (w2) s_4 _ hr_4 g)) (fun q => absurd c_3 q)))) ?_
        refine mm_re (l' := [(0, .ref 131), (1, .int w1), (2, .int w2), (3, .int (0 : Int32))]) (c := [(0, .ref 131), (1, .int w1), (2, .int w2), (3, .int (0 : Int32))]) ?_ rfl rfl
        refine xb_10_leanOn_l24 h_fillg h_1_open h_1_after h_11_isAwake h_11_leanOf h_10_swap (w2) (w1, (0 : Int32), s_4) x_5 hl_5 ?_
        obtain ⟨e1_5, s_5⟩ := x_5
        refine mm_re (l' := [(0, .ref 131), (1, .int e1_5), (2, .int w2)]) (c := [(0, .ref 131), (1, .int e1_5), (2, .int w2)]) ?_ rfl rfl
        exact xb_10_leanOn_j64 h_fillg h_1_open h_1_after h_11_isAwake h_11_leanOf h_10_swap s_5 (e1_5) (w2) _ hf hK
    | true =>
      obtain ⟨x_2, hx_2, hf⟩ := mo_bind hf
      obtain ⟨hi_2, rfl⟩ := mo_ag_inv hx_2
      by_cases c_3 : (((sI, sA, sL, true).2.1 132) (w2).toNatClampNeg) = (99 : Int32)
      · have hf := mo_pos hf c_3
        refine mm_adv 6 (cs' := P_X10_leanOn.drop 64) (l' := [(0, .ref 131), (1, .int w1), (2, .int w2)]) (st' := []) (h' := (xs_H pt ps (.ref 9) pr (sI, sA, sL, true))) (bc' := 0) (bs' := 0) (fun n g => (And.intro hi_2 (And.intro (fun q => absurd c_3 q) (fun _ => g)))) ?_
        refine mm_re (l' := [(0, .ref 131), (1, .int w1), (2, .int w2)]) (c := [(0, .ref 131), (1, .int w1), (2, .int w2)]) ?_ rfl rfl
        exact xb_10_leanOn_j64 h_fillg h_1_open h_1_after h_11_isAwake h_11_leanOf h_10_swap (sI, sA, sL, true) (w1) (w2) _ hf hK
      · have hf := mo_neg hf c_3
        obtain ⟨s_4, hr_4, hf⟩ := mo_bind hf
        obtain ⟨x_5, hl_5, hf⟩ := mo_bind hf
        refine mm_adv 11 (cs' := P_X10_leanOn.drop 24) (l' := [(3, .int (0 : Int32)), (0, .ref 131), (1, .int w1), (2, .int w2)]) (st' := []) (h' := (xs_H pt ps (.ref 9) pr s_4)) (bc' := 0) (bs' := 0) (fun n g => (And.intro hi_2 (And.intro (fun _ => (h_1_open pt ps pr (sI, sA, sL, true) (w2) s_4 _ hr_4 g)) (fun q => absurd c_3 q)))) ?_
        refine mm_re (l' := [(0, .ref 131), (1, .int w1), (2, .int w2), (3, .int (0 : Int32))]) (c := [(0, .ref 131), (1, .int w1), (2, .int w2), (3, .int (0 : Int32))]) ?_ rfl rfl
        refine xb_10_leanOn_l24 h_fillg h_1_open h_1_after h_11_isAwake h_11_leanOf h_10_swap (w2) (w1, (0 : Int32), s_4) x_5 hl_5 ?_
        obtain ⟨e1_5, s_5⟩ := x_5
        refine mm_re (l' := [(0, .ref 131), (1, .int e1_5), (2, .int w2)]) (c := [(0, .ref 131), (1, .int e1_5), (2, .int w2)]) ?_ rfl rfl
        exact xb_10_leanOn_j64 h_fillg h_1_open h_1_after h_11_isAwake h_11_leanOf h_10_swap s_5 (e1_5) (w2) _ hf hK
noncomputable def xf_10_leanOn (s : xs_S)  : Option (Int32 × xs_S) :=
((mo_loop (xf_10_leanOn_l8 ) ((99 : Int32), (0 : Int32), (xs_sA s 133 (xs_fl 294 ((99 : Int32)) (s.2.1 133))))).bind fun (e1_1, s_1) =>
((xf_10_swap s_1 ).bind fun s_2 =>
some (e1_1, s_2)))
set_option maxHeartbeats 4000000 in
theorem xb_10_leanOn {C : mm_C} {Q : mm_R} {pt : Value} {ps : Value} {pr : Value} (h_fillg : xk_fillg C) (h_1_open : xk_1_open C) (h_1_after : xk_1_after C) (h_11_isAwake : xk_11_isAwake C) (h_11_leanOf : xk_11_leanOf C) (h_10_swap : xk_10_swap C) (s : xs_S)  (v : Int32) (s2 : xs_S) (hf : xf_10_leanOn s = some (v, s2)) (hK : Q (some (.int v)) (xs_H pt ps (.ref 9) pr s2)) : mm_go C mm_Mk mm_Fk P_X10_leanOn Q P_X10_leanOn [(0, .ref 131)] [] (xs_H pt ps (.ref 9) pr s) 0 0 := by
  unfold xf_10_leanOn at hf
  refine mm_adv 1 (cs' := P_X10_leanOn.drop 1) (l' := [(0, .ref 131)]) (st' := [.ref 131]) (h' := (xs_H pt ps (.ref 9) pr s)) (bc' := 0) (bs' := 0) (fun n g => g) ?_
  obtain ⟨sI, sA, sL, sw⟩ := s
  cases sw with
  | false =>
    obtain ⟨x_1, hl_1, hf⟩ := mo_bind hf
    refine mm_adv 7 (cs' := P_X10_leanOn.drop 8) (l' := [(2, .int (0 : Int32)), (1, .int (99 : Int32)), (0, .ref 131)]) (st' := []) (h' := (xs_H pt ps (.ref 9) pr (xs_sA (sI, sA, sL, false) 133 (xs_fl 294 ((99 : Int32)) ((sI, sA, sL, false).2.1 133))))) (bc' := 0) (bs' := 0) (fun n g => (h_fillg _ 133 294 _ ((99 : Int32)) _ rfl (by decide) g)) ?_
    refine mm_re (l' := [(0, .ref 131), (1, .int (99 : Int32)), (2, .int (0 : Int32))]) (c := [(0, .ref 131), (1, .int (99 : Int32)), (2, .int (0 : Int32))]) ?_ rfl rfl
    refine xb_10_leanOn_l8 h_fillg h_1_open h_1_after h_11_isAwake h_11_leanOf h_10_swap  ((99 : Int32), (0 : Int32), (xs_sA (sI, sA, sL, false) 133 (xs_fl 294 ((99 : Int32)) ((sI, sA, sL, false).2.1 133)))) x_1 hl_1 ?_
    obtain ⟨e1_1, s_1⟩ := x_1
    obtain ⟨s_2, hr_2, hf⟩ := mo_bind hf
    obtain ⟨rfl, rfl⟩ := mo_pair hf
    exact ⟨4, (h_10_swap pt ps (.ref 9) pr s_1  s_2 _ hr_2 hK)⟩
  | true =>
    obtain ⟨x_1, hl_1, hf⟩ := mo_bind hf
    refine mm_adv 7 (cs' := P_X10_leanOn.drop 8) (l' := [(2, .int (0 : Int32)), (1, .int (99 : Int32)), (0, .ref 131)]) (st' := []) (h' := (xs_H pt ps (.ref 9) pr (xs_sA (sI, sA, sL, true) 133 (xs_fl 294 ((99 : Int32)) ((sI, sA, sL, true).2.1 133))))) (bc' := 0) (bs' := 0) (fun n g => (h_fillg _ 132 294 _ ((99 : Int32)) _ rfl (by decide) g)) ?_
    refine mm_re (l' := [(0, .ref 131), (1, .int (99 : Int32)), (2, .int (0 : Int32))]) (c := [(0, .ref 131), (1, .int (99 : Int32)), (2, .int (0 : Int32))]) ?_ rfl rfl
    refine xb_10_leanOn_l8 h_fillg h_1_open h_1_after h_11_isAwake h_11_leanOf h_10_swap  ((99 : Int32), (0 : Int32), (xs_sA (sI, sA, sL, true) 133 (xs_fl 294 ((99 : Int32)) ((sI, sA, sL, true).2.1 133)))) x_1 hl_1 ?_
    obtain ⟨e1_1, s_1⟩ := x_1
    obtain ⟨s_2, hr_2, hf⟩ := mo_bind hf
    obtain ⟨rfl, rfl⟩ := mo_pair hf
    exact ⟨4, (h_10_swap pt ps (.ref 9) pr s_1  s_2 _ hr_2 hK)⟩
def xk_10_leanOn (C : mm_C) : Prop := ∀ (pt : Value) (ps : Value) (pr : Value) (s : xs_S)  (v : Int32) (s2 : xs_S) (Q : mm_R), xf_10_leanOn s = some (v, s2) → Q (some (.int v)) (xs_H pt ps (.ref 9) pr s2) → C 221 [.ref 131] (xs_H pt ps (.ref 9) pr s) Q
-- 10_leastLean
noncomputable def xf_10_leastLean_l15 (v2 : Int32) : (Int32 × Int32 × xs_S) → Option ((Int32 × Int32 × xs_S) ⊕ ((Int32 × xs_S))) := fun (w3, w4, s) =>
(if v2 ≤ w4 then
some (.inr (w3, s))
else
(if w3 = (99 : Int32) then
some (.inr (w3, s))
else
((xf_10_leanOn s ).bind fun (v_7, s_7) =>
some (.inl (v_7, (w4 + (1 : Int32)), s_7)))))
set_option maxHeartbeats 4000000 in
theorem xb_10_leastLean_l15 {C : mm_C} {Q : mm_R} {pt : Value} {ps : Value} {pr : Value} (h_11_isAwake : xk_11_isAwake C) (h_11_leanOf : xk_11_leanOf C) (h_10_start : xk_10_start C) (h_10_leanOn : xk_10_leanOn C) (v2 : Int32) (t : Int32 × Int32 × xs_S) (x : (Int32 × xs_S)) (hl : mo_loop (xf_10_leastLean_l15 v2) t = some x) (hK : (mo_c2 (fun y3 sy => mm_go C mm_Mk mm_Fk P_X10_leastLean Q (P_X10_leastLean.drop 26) [(3, .int y3)] [] (xs_H pt ps (.ref 9) pr sy) 0 0)) x) : (mo_c2 (fun y3 => (mo_c2 (fun y4 sy => mm_go C mm_Mk mm_Fk P_X10_leastLean Q (P_X10_leastLean.drop 15) [(0, .ref 131), (2, .int v2), (3, .int y3), (4, .int y4)] [] (xs_H pt ps (.ref 9) pr sy) 0 0)))) t := by
  refine mo_loop_go (G := (mo_c2 (fun y3 => (mo_c2 (fun y4 sy => mm_go C mm_Mk mm_Fk P_X10_leastLean Q (P_X10_leastLean.drop 15) [(0, .ref 131), (2, .int v2), (3, .int y3), (4, .int y4)] [] (xs_H pt ps (.ref 9) pr sy) 0 0)))) ) (K := (mo_c2 (fun y3 sy => mm_go C mm_Mk mm_Fk P_X10_leastLean Q (P_X10_leastLean.drop 26) [(3, .int y3)] [] (xs_H pt ps (.ref 9) pr sy) 0 0)) ) ?_ t x hl hK
  intro t r hf hK
  obtain ⟨w3, w4, s⟩ := t
  unfold xf_10_leastLean_l15 at hf
  by_cases c_5 : v2 ≤ w4
  · have hf := mo_pos hf c_5
    obtain rfl := Option.some.inj hf
    refine mm_adv 3 (cs' := P_X10_leastLean.drop 26) (l' := [(0, .ref 131), (2, .int v2), (3, .int w3), (4, .int w4)]) (st' := []) (h' := (xs_H pt ps (.ref 9) pr s)) (bc' := 0) (bs' := 0) (fun n g => (And.intro (fun _ => g) (fun q => absurd c_5 q))) ?_
    exact mm_re (c := [(3, .int w3)]) hK rfl rfl
  · have hf := mo_neg hf c_5
    by_cases c_6 : w3 = (99 : Int32)
    · have hf := mo_pos hf c_6
      obtain rfl := Option.some.inj hf
      refine mm_adv 6 (cs' := P_X10_leastLean.drop 26) (l' := [(0, .ref 131), (2, .int v2), (3, .int w3), (4, .int w4)]) (st' := []) (h' := (xs_H pt ps (.ref 9) pr s)) (bc' := 0) (bs' := 0) (fun n g => (And.intro (fun q => absurd q c_5) (fun _ => (And.intro (fun _ => g) (fun q => absurd c_6 q))))) ?_
      exact mm_re (c := [(3, .int w3)]) hK rfl rfl
    · have hf := mo_neg hf c_6
      obtain ⟨r_7, hr_7, hf⟩ := mo_bind hf
      obtain ⟨v_7, s_7⟩ := r_7
      obtain rfl := Option.some.inj hf
      refine mm_adv 11 (cs' := P_X10_leastLean.drop 15) (l' := [(4, .int (w4 + (1 : Int32))), (3, .int v_7), (0, .ref 131), (2, .int v2)]) (st' := []) (h' := (xs_H pt ps (.ref 9) pr s_7)) (bc' := 0) (bs' := 0) (fun n g => (And.intro (fun q => absurd q c_5) (fun _ => (And.intro (fun q => absurd q c_6) (fun _ => (h_10_leanOn pt ps pr s  v_7 s_7 _ hr_7 g)))))) ?_
      exact mm_re (c := [(0, .ref 131), (2, .int v2), (3, .int v_7), (4, .int (w4 + (1 : Int32)))]) hK rfl rfl
noncomputable def xf_10_leastLean (s : xs_S) (a0 : Int32) (a1 : Int32) : Option (Int32 × xs_S) :=
((xf_11_isAwake (a0)).bind fun v_1 =>
(if v_1 = (0 : Int32) then
((xf_11_leanOf (a0)).bind fun v_3 =>
((xf_10_start s (a0) (v_3) ((99 : Int32))).bind fun s_4 =>
((mo_loop (xf_10_leastLean_l15 (a1)) (v_3, (0 : Int32), s_4)).bind fun (e3_5, s_5) =>
(if e3_5 = (99 : Int32) then
some ((-2 : Int32), s_5)
else
some (e3_5, s_5)))))
else
some ((-2 : Int32), s)))
set_option maxHeartbeats 4000000 in
theorem xb_10_leastLean {C : mm_C} {Q : mm_R} {pt : Value} {ps : Value} {pr : Value} (h_11_isAwake : xk_11_isAwake C) (h_11_leanOf : xk_11_leanOf C) (h_10_start : xk_10_start C) (h_10_leanOn : xk_10_leanOn C) (s : xs_S) (a0 : Int32) (a1 : Int32) (v : Int32) (s2 : xs_S) (hf : xf_10_leastLean s a0 a1 = some (v, s2)) (hK : Q (some (.int v)) (xs_H pt ps (.ref 9) pr s2)) : mm_go C mm_Mk mm_Fk P_X10_leastLean Q P_X10_leastLean [(0, .ref 131), (1, .int a0), (2, .int a1)] [] (xs_H pt ps (.ref 9) pr s) 0 0 := by
  unfold xf_10_leastLean at hf
  obtain ⟨v_1, hr_1, hf⟩ := mo_bind hf
  by_cases c_2 : v_1 = (0 : Int32)
  · have hf := mo_pos hf c_2
    obtain ⟨v_3, hr_3, hf⟩ := mo_bind hf
    obtain ⟨s_4, hr_4, hf⟩ := mo_bind hf
    obtain ⟨x_5, hl_5, hf⟩ := mo_bind hf
    refine mm_adv 13 (cs' := P_X10_leastLean.drop 15) (l' := [(4, .int (0 : Int32)), (3, .int v_3), (0, .ref 131), (1, .int a0), (2, .int a1)]) (st' := []) (h' := (xs_H pt ps (.ref 9) pr s_4)) (bc' := 0) (bs' := 0) (fun n g => (h_11_isAwake _ (a0) v_1 _ hr_1 (And.intro (fun _ => (h_11_leanOf _ (a0) v_3 _ hr_3 (h_10_start pt ps (.ref 9) pr s (a0) (v_3) ((99 : Int32)) s_4 _ hr_4 g))) (fun q => absurd c_2 q)))) ?_
    refine mm_re (l' := [(0, .ref 131), (2, .int a1), (3, .int v_3), (4, .int (0 : Int32))]) (c := [(0, .ref 131), (2, .int a1), (3, .int v_3), (4, .int (0 : Int32))]) ?_ rfl rfl
    refine xb_10_leastLean_l15 h_11_isAwake h_11_leanOf h_10_start h_10_leanOn (a1) (v_3, (0 : Int32), s_4) x_5 hl_5 ?_
    obtain ⟨e3_5, s_5⟩ := x_5
    by_cases c_6 : e3_5 = (99 : Int32)
    · have hf := mo_pos hf c_6
      obtain ⟨rfl, rfl⟩ := mo_pair hf
      exact ⟨6, (And.intro (fun q => absurd c_6 q) (fun _ => hK))⟩
    · have hf := mo_neg hf c_6
      obtain ⟨rfl, rfl⟩ := mo_pair hf
      exact ⟨5, (And.intro (fun _ => hK) (fun q => absurd c_6 q))⟩
  · have hf := mo_neg hf c_2
    obtain ⟨rfl, rfl⟩ := mo_pair hf
    exact ⟨5, (h_11_isAwake _ (a0) v_1 _ hr_1 (And.intro (fun q => absurd q c_2) (fun _ => hK)))⟩
def xk_10_leastLean (C : mm_C) : Prop := ∀ (pt : Value) (ps : Value) (pr : Value) (s : xs_S) (a0 : Int32) (a1 : Int32) (v : Int32) (s2 : xs_S) (Q : mm_R), xf_10_leastLean s a0 a1 = some (v, s2) → Q (some (.int v)) (xs_H pt ps (.ref 9) pr s2) → C 217 [.ref 131, .int a0, .int a1] (xs_H pt ps (.ref 9) pr s) Q
-- 11_even
noncomputable def xf_11_even (s : xs_S) (a0 : Int32) : Option (Int32 × xs_S) :=
(if a0 < (0 : Int32) then
some ((-1 : Int32), s)
else
(if a0 ≤ (40 : Int32) then
((xf_10_leastLean s ((s.1 400)) (a0)).bind fun (v_3, s_3) =>
some (v_3, s_3))
else
some ((-1 : Int32), s)))
set_option maxHeartbeats 4000000 in
theorem xb_11_even {C : mm_C} {Q : mm_R} {pt : Value} {ps : Value} {pr : Value} (h_10_leastLean : xk_10_leastLean C) (s : xs_S) (a0 : Int32) (v : Int32) (s2 : xs_S) (hf : xf_11_even s a0 = some (v, s2)) (hK : Q (some (.int v)) (xs_H pt ps (.ref 9) pr s2)) : mm_go C mm_Mk mm_Fk P_X11_even Q P_X11_even [(0, .ref 0), (1, .int a0)] [] (xs_H pt ps (.ref 9) pr s) 0 0 := by
  unfold xf_11_even at hf
  by_cases c_1 : a0 < (0 : Int32)
  · have hf := mo_pos hf c_1
    obtain ⟨rfl, rfl⟩ := mo_pair hf
    exact ⟨5, (And.intro (fun _ => hK) (fun q => absurd c_1 q))⟩
  · have hf := mo_neg hf c_1
    by_cases c_2 : a0 ≤ (40 : Int32)
    · have hf := mo_pos hf c_2
      obtain ⟨r_3, hr_3, hf⟩ := mo_bind hf
      obtain ⟨v_3, s_3⟩ := r_3
      obtain ⟨rfl, rfl⟩ := mo_pair hf
      exact ⟨13, (And.intro (fun q => absurd q c_1) (fun _ => (And.intro (fun _ => (h_10_leastLean pt ps pr s ((s.1 400)) (a0) v_3 s_3 _ hr_3 hK)) (fun q => absurd c_2 q))))⟩
    · have hf := mo_neg hf c_2
      obtain ⟨rfl, rfl⟩ := mo_pair hf
      exact ⟨8, (And.intro (fun q => absurd q c_1) (fun _ => (And.intro (fun q => absurd q c_2) (fun _ => hK))))⟩
def xk_11_even (C : mm_C) : Prop := ∀ (pt : Value) (ps : Value) (pr : Value) (s : xs_S) (a0 : Int32) (v : Int32) (s2 : xs_S) (Q : mm_R), xf_11_even s a0 = some (v, s2) → Q (some (.int v)) (xs_H pt ps (.ref 9) pr s2) → C 241 [.ref 0, .int a0] (xs_H pt ps (.ref 9) pr s) Q
-- 10_countOn
noncomputable def xf_10_countOn_j64 (s : xs_S) (v1 : Int32) : Option ((Int32 × xs_S) ⊕ ((xs_S))) :=
some (.inl ((v1 + (1 : Int32)), s))
set_option maxHeartbeats 4000000 in
theorem xb_10_countOn_j64 {C : mm_C} {Q : mm_R} {pt : Value} {ps : Value} {pr : Value} (h_fillg : xk_fillg C) (h_1_open : xk_1_open C) (h_1_after : xk_1_after C) (h_11_isAwake : xk_11_isAwake C) (h_10_swap : xk_10_swap C) (s : xs_S) (v1 : Int32) (r : (Int32 × xs_S) ⊕ ((xs_S))) (hf : xf_10_countOn_j64 s v1 = some r) (hK : mo_sum (mo_c2 (fun y1 sy => mm_go C mm_Mk mm_Fk P_X10_countOn Q (P_X10_countOn.drop 9) [(0, .ref 131), (1, .int y1)] [] (xs_H pt ps (.ref 9) pr sy) 0 0))  (fun sy => mm_go C mm_Mk mm_Fk P_X10_countOn Q (P_X10_countOn.drop 66) [(0, .ref 131)] [] (xs_H pt ps (.ref 9) pr sy) 0 0)  r) : mm_go C mm_Mk mm_Fk P_X10_countOn Q (P_X10_countOn.drop 64) [(0, .ref 131), (1, .int v1)] [] (xs_H pt ps (.ref 9) pr s) 0 0 := by
  unfold xf_10_countOn_j64 at hf
  obtain rfl := Option.some.inj hf
  refine mm_adv 2 (cs' := P_X10_countOn.drop 9) (l' := [(1, .int (v1 + (1 : Int32))), (0, .ref 131)]) (st' := []) (h' := (xs_H pt ps (.ref 9) pr s)) (bc' := 0) (bs' := 0) (fun n g => g) ?_
  exact mm_re (c := [(0, .ref 131), (1, .int (v1 + (1 : Int32)))]) hK rfl rfl
noncomputable def xf_10_countOn_j62 (s : xs_S) (v1 : Int32) (v2 : Int32) : Option ((Int32 × xs_S) ⊕ ((xs_S))) :=
some (.inl ((v2 + (1 : Int32)), s))
set_option maxHeartbeats 4000000 in
theorem xb_10_countOn_j62 {C : mm_C} {Q : mm_R} {pt : Value} {ps : Value} {pr : Value} (h_fillg : xk_fillg C) (h_1_open : xk_1_open C) (h_1_after : xk_1_after C) (h_11_isAwake : xk_11_isAwake C) (h_10_swap : xk_10_swap C) (s : xs_S) (v1 : Int32) (v2 : Int32) (r : (Int32 × xs_S) ⊕ ((xs_S))) (hf : xf_10_countOn_j62 s v1 v2 = some r) (hK : mo_sum (mo_c2 (fun y2 sy => mm_go C mm_Mk mm_Fk P_X10_countOn Q (P_X10_countOn.drop 24) [(0, .ref 131), (1, .int v1), (2, .int y2)] [] (xs_H pt ps (.ref 9) pr sy) 0 0))  (fun sy => mm_go C mm_Mk mm_Fk P_X10_countOn Q (P_X10_countOn.drop 64) [(0, .ref 131), (1, .int v1)] [] (xs_H pt ps (.ref 9) pr sy) 0 0)  r) : mm_go C mm_Mk mm_Fk P_X10_countOn Q (P_X10_countOn.drop 62) [(0, .ref 131), (1, .int v1), (2, .int v2)] [] (xs_H pt ps (.ref 9) pr s) 0 0 := by
  unfold xf_10_countOn_j62 at hf
  obtain rfl := Option.some.inj hf
  refine mm_adv 2 (cs' := P_X10_countOn.drop 24) (l' := [(2, .int (v2 + (1 : Int32))), (0, .ref 131), (1, .int v1)]) (st' := []) (h' := (xs_H pt ps (.ref 9) pr s)) (bc' := 0) (bs' := 0) (fun n g => g) ?_
  exact mm_re (c := [(0, .ref 131), (1, .int v1), (2, .int (v2 + (1 : Int32)))]) hK rfl rfl
noncomputable def xf_10_countOn_l24 (v1 : Int32) : (Int32 × xs_S) → Option ((Int32 × xs_S) ⊕ ((xs_S))) := fun (w2, s) =>
(if (7 : Int32) ≤ w2 then
some (.inr (s))
else
((xf_1_after s (v1) (w2) ((0 : Int32))).bind fun (v_6, s_6) =>
(if v_6 = (-1 : Int32) then
(xf_10_countOn_j62 (s_6) (v1) (w2))
else
((xf_11_isAwake (v_6)).bind fun v_8 =>
(if v_8 = (0 : Int32) then
((mo_ag 294 (s_6.2.1 133) v_6).bind fun x_10 =>
((mo_ag 294 (s_6.2.1 132) v1).bind fun x_11 =>
(bif mo_in v_6 294 then (xf_10_countOn_j62 ((xs_sA s_6 133 (upd (s_6.2.1 133) (v_6).toNatClampNeg ((x_10 + x_11))))) (v1) (w2)) else none)))
else
((mo_ag 294 (s_6.2.1 132) v1).bind fun x_13 =>
(xf_10_countOn_j62 ((xs_sI s_6 2099 (((s_6.1 2099) + x_13)))) (v1) (w2))))))))
set_option maxHeartbeats 4000000 in
theorem xb_10_countOn_l24 {C : mm_C} {Q : mm_R} {pt : Value} {ps : Value} {pr : Value} (h_fillg : xk_fillg C) (h_1_open : xk_1_open C) (h_1_after : xk_1_after C) (h_11_isAwake : xk_11_isAwake C) (h_10_swap : xk_10_swap C) (v1 : Int32) (t : Int32 × xs_S) (x : (xs_S)) (hl : mo_loop (xf_10_countOn_l24 v1) t = some x) (hK : (fun sy => mm_go C mm_Mk mm_Fk P_X10_countOn Q (P_X10_countOn.drop 64) [(0, .ref 131), (1, .int v1)] [] (xs_H pt ps (.ref 9) pr sy) 0 0) x) : (mo_c2 (fun y2 sy => mm_go C mm_Mk mm_Fk P_X10_countOn Q (P_X10_countOn.drop 24) [(0, .ref 131), (1, .int v1), (2, .int y2)] [] (xs_H pt ps (.ref 9) pr sy) 0 0)) t := by
  refine mo_loop_go (G := (mo_c2 (fun y2 sy => mm_go C mm_Mk mm_Fk P_X10_countOn Q (P_X10_countOn.drop 24) [(0, .ref 131), (1, .int v1), (2, .int y2)] [] (xs_H pt ps (.ref 9) pr sy) 0 0)) ) (K := (fun sy => mm_go C mm_Mk mm_Fk P_X10_countOn Q (P_X10_countOn.drop 64) [(0, .ref 131), (1, .int v1)] [] (xs_H pt ps (.ref 9) pr sy) 0 0) ) ?_ t x hl hK
  intro t r hf hK
  obtain ⟨w2, s⟩ := t
  unfold xf_10_countOn_l24 at hf
  by_cases c_5 : (7 : Int32) ≤ w2
  · have hf := mo_pos hf c_5
    obtain rfl := Option.some.inj hf
    refine mm_adv 3 (cs' := P_X10_countOn.drop 64) (l' := [(0, .ref 131), (1, .int v1), (2, .int w2)]) (st' := []) (h' := (xs_H pt ps (.ref 9) pr s)) (bc' := 0) (bs' := 0) (fun n g => (And.intro (fun _ => g) (fun q => absurd c_5 q))) ?_
    exact mm_re (c := [(0, .ref 131), (1, .int v1)]) hK rfl rfl
  · have hf := mo_neg hf c_5
    obtain ⟨r_6, hr_6, hf⟩ := mo_bind hf
    obtain ⟨v_6, s_6⟩ := r_6
    by_cases c_7 : v_6 = (-1 : Int32)
    · have hf := mo_pos hf c_7
      refine mm_adv 14 (cs' := P_X10_countOn.drop 62) (l' := [(3, .int v_6), (0, .ref 131), (1, .int v1), (2, .int w2)]) (st' := []) (h' := (xs_H pt ps (.ref 9) pr s_6)) (bc' := 0) (bs' := 0) (fun n g => (And.intro (fun q => absurd q c_5) (fun _ => (h_1_after pt ps (.ref 9) pr s (v1) (w2) ((0 : Int32)) v_6 s_6 _ hr_6 (And.intro (fun q => absurd c_7 q) (fun _ => g)))))) ?_
      refine mm_re (l' := [(0, .ref 131), (1, .int v1), (2, .int w2)]) (c := [(0, .ref 131), (1, .int v1), (2, .int w2)]) ?_ rfl rfl
      exact xb_10_countOn_j62 h_fillg h_1_open h_1_after h_11_isAwake h_10_swap s_6 (v1) (w2) _ hf hK
    · have hf := mo_neg hf c_7
      obtain ⟨v_8, hr_8, hf⟩ := mo_bind hf
      by_cases c_9 : v_8 = (0 : Int32)
      · have hf := mo_pos hf c_9
        refine mm_adv 17 (cs' := P_X10_countOn.drop 52) (l' := [(3, .int v_6), (0, .ref 131), (1, .int v1), (2, .int w2)]) (st' := [.ref 131]) (h' := (xs_H pt ps (.ref 9) pr s_6)) (bc' := 0) (bs' := 0) (fun n g => (And.intro (fun q => absurd q c_5) (fun _ => (h_1_after pt ps (.ref 9) pr s (v1) (w2) ((0 : Int32)) v_6 s_6 _ hr_6 (And.intro (fun _ => (h_11_isAwake _ (v_6) v_8 _ hr_8 (And.intro (fun _ => g) (fun q => absurd c_9 q)))) (fun q => absurd c_7 q)))))) ?_
        obtain ⟨sI_6, sA_6, sL_6, sw_6⟩ := s_6
        cases sw_6 with
        | false =>
          obtain ⟨x_10, hx_10, hf⟩ := mo_bind hf
          obtain ⟨hi_10, rfl⟩ := mo_ag_inv hx_10
          obtain ⟨x_11, hx_11, hf⟩ := mo_bind hf
          obtain ⟨hi_11, rfl⟩ := mo_ag_inv hx_11
          obtain ⟨hi_12, hf⟩ := mo_if hf
          refine mm_adv 10 (cs' := P_X10_countOn.drop 62) (l' := [(3, .int v_6), (0, .ref 131), (1, .int v1), (2, .int w2)]) (st' := []) (h' := (xs_H pt ps (.ref 9) pr (xs_sA (sI_6, sA_6, sL_6, false) 133 (upd ((sI_6, sA_6, sL_6, false).2.1 133) (v_6).toNatClampNeg (((((sI_6, sA_6, sL_6, false).2.1 133) (v_6).toNatClampNeg) + (((sI_6, sA_6, sL_6, false).2.1 132) (v1).toNatClampNeg))))))) (bc' := 0) (bs' := 0) (fun n g => (And.intro hi_10 (And.intro hi_11 (And.intro hi_12 g)))) ?_
          refine mm_re (l' := [(0, .ref 131), (1, .int v1), (2, .int w2)]) (c := [(0, .ref 131), (1, .int v1), (2, .int w2)]) ?_ rfl rfl
          exact xb_10_countOn_j62 h_fillg h_1_open h_1_after h_11_isAwake h_10_swap (xs_sA (sI_6, sA_6, sL_6, false) 133 (upd ((sI_6, sA_6, sL_6, false).2.1 133) (v_6).toNatClampNeg (((((sI_6, sA_6, sL_6, false).2.1 133) (v_6).toNatClampNeg) + (((sI_6, sA_6, sL_6, false).2.1 132) (v1).toNatClampNeg))))) (v1) (w2) _ hf hK
        | true =>
          obtain ⟨x_10, hx_10, hf⟩ := mo_bind hf
          obtain ⟨hi_10, rfl⟩ := mo_ag_inv hx_10
          obtain ⟨x_11, hx_11, hf⟩ := mo_bind hf
          obtain ⟨hi_11, rfl⟩ := mo_ag_inv hx_11
          obtain ⟨hi_12, hf⟩ := mo_if hf
          refine mm_adv 10 (cs' := P_X10_countOn.drop 62) (l' := [(3, .int v_6), (0, .ref 131), (1, .int v1), (2, .int w2)]) (st' := []) (h' := (xs_H pt ps (.ref 9) pr (xs_sA (sI_6, sA_6, sL_6, true) 133 (upd ((sI_6, sA_6, sL_6, true).2.1 133) (v_6).toNatClampNeg (((((sI_6, sA_6, sL_6, true).2.1 133) (v_6).toNatClampNeg) + (((sI_6, sA_6, sL_6, true).2.1 132) (v1).toNatClampNeg))))))) (bc' := 0) (bs' := 0) (fun n g => (And.intro hi_10 (And.intro hi_11 (And.intro hi_12 g)))) ?_
          refine mm_re (l' := [(0, .ref 131), (1, .int v1), (2, .int w2)]) (c := [(0, .ref 131), (1, .int v1), (2, .int w2)]) ?_ rfl rfl
          exact xb_10_countOn_j62 h_fillg h_1_open h_1_after h_11_isAwake h_10_swap (xs_sA (sI_6, sA_6, sL_6, true) 133 (upd ((sI_6, sA_6, sL_6, true).2.1 133) (v_6).toNatClampNeg (((((sI_6, sA_6, sL_6, true).2.1 133) (v_6).toNatClampNeg) + (((sI_6, sA_6, sL_6, true).2.1 132) (v1).toNatClampNeg))))) (v1) (w2) _ hf hK
      · have hf := mo_neg hf c_9
        refine mm_adv 20 (cs' := P_X10_countOn.drop 45) (l' := [(3, .int v_6), (0, .ref 131), (1, .int v1), (2, .int w2)]) (st' := [.ref 131, .int (s_6.1 2099), .ref 131]) (h' := (xs_H pt ps (.ref 9) pr s_6)) (bc' := 0) (bs' := 0) (fun n g => (And.intro (fun q => absurd q c_5) (fun _ => (h_1_after pt ps (.ref 9) pr s (v1) (w2) ((0 : Int32)) v_6 s_6 _ hr_6 (And.intro (fun _ => (h_11_isAwake _ (v_6) v_8 _ hr_8 (And.intro (fun q => absurd q c_9) (fun _ => g)))) (fun q => absurd c_7 q)))))) ?_
        obtain ⟨sI_6, sA_6, sL_6, sw_6⟩ := s_6
        cases sw_6 with
        | false =>
          obtain ⟨x_13, hx_13, hf⟩ := mo_bind hf
          obtain ⟨hi_13, rfl⟩ := mo_ag_inv hx_13
          refine mm_adv 6 (cs' := P_X10_countOn.drop 62) (l' := [(3, .int v_6), (0, .ref 131), (1, .int v1), (2, .int w2)]) (st' := []) (h' := (xs_H pt ps (.ref 9) pr (xs_sI (sI_6, sA_6, sL_6, false) 2099 ((((sI_6, sA_6, sL_6, false).1 2099) + (((sI_6, sA_6, sL_6, false).2.1 132) (v1).toNatClampNeg)))))) (bc' := 0) (bs' := 0) (fun n g => (And.intro hi_13 (And.intro trivial g))) ?_
          refine mm_re (l' := [(0, .ref 131), (1, .int v1), (2, .int w2)]) (c := [(0, .ref 131), (1, .int v1), (2, .int w2)]) ?_ rfl rfl
          exact xb_10_countOn_j62 h_fillg h_1_open h_1_after h_11_isAwake h_10_swap (xs_sI (sI_6, sA_6, sL_6, false) 2099 ((((sI_6, sA_6, sL_6, false).1 2099) + (((sI_6, sA_6, sL_6, false).2.1 132) (v1).toNatClampNeg)))) (v1) (w2) _ hf hK
        | true =>
          obtain ⟨x_13, hx_13, hf⟩ := mo_bind hf
          obtain ⟨hi_13, rfl⟩ := mo_ag_inv hx_13
          refine mm_adv 6 (cs' := P_X10_countOn.drop 62) (l' := [(3, .int v_6), (0, .ref 131), (1, .int v1), (2, .int w2)]) (st' := []) (h' := (xs_H pt ps (.ref 9) pr (xs_sI (sI_6, sA_6, sL_6, true) 2099 ((((sI_6, sA_6, sL_6, true).1 2099) + (((sI_6, sA_6, sL_6, true).2.1 132) (v1).toNatClampNeg)))))) (bc' := 0) (bs' := 0) (fun n g => (And.intro hi_13 (And.intro trivial g))) ?_
          refine mm_re (l' := [(0, .ref 131), (1, .int v1), (2, .int w2)]) (c := [(0, .ref 131), (1, .int v1), (2, .int w2)]) ?_ rfl rfl
          exact xb_10_countOn_j62 h_fillg h_1_open h_1_after h_11_isAwake h_10_swap (xs_sI (sI_6, sA_6, sL_6, true) 2099 ((((sI_6, sA_6, sL_6, true).1 2099) + (((sI_6, sA_6, sL_6, true).2.1 132) (v1).toNatClampNeg)))) (v1) (w2) _ hf hK
noncomputable def xf_10_countOn_l9  : (Int32 × xs_S) → Option ((Int32 × xs_S) ⊕ ((xs_S))) := fun (w1, s) =>
(if (294 : Int32) ≤ w1 then
some (.inr (s))
else
((mo_ag 294 (s.2.1 132) w1).bind fun x_2 =>
(if x_2 = (0 : Int32) then
(xf_10_countOn_j64 (s) (w1))
else
((xf_1_open s (w1)).bind fun s_4 =>
((mo_loop (xf_10_countOn_l24 (w1)) ((0 : Int32), s_4)).bind fun s_5 =>
(xf_10_countOn_j64 (s_5) (w1)))))))
set_option maxHeartbeats 4000000 in
theorem xb_10_countOn_l9 {C : mm_C} {Q : mm_R} {pt : Value} {ps : Value} {pr : Value} (h_fillg : xk_fillg C) (h_1_open : xk_1_open C) (h_1_after : xk_1_after C) (h_11_isAwake : xk_11_isAwake C) (h_10_swap : xk_10_swap C)  (t : Int32 × xs_S) (x : (xs_S)) (hl : mo_loop (xf_10_countOn_l9 ) t = some x) (hK : (fun sy => mm_go C mm_Mk mm_Fk P_X10_countOn Q (P_X10_countOn.drop 66) [(0, .ref 131)] [] (xs_H pt ps (.ref 9) pr sy) 0 0) x) : (mo_c2 (fun y1 sy => mm_go C mm_Mk mm_Fk P_X10_countOn Q (P_X10_countOn.drop 9) [(0, .ref 131), (1, .int y1)] [] (xs_H pt ps (.ref 9) pr sy) 0 0)) t := by
  refine mo_loop_go (G := (mo_c2 (fun y1 sy => mm_go C mm_Mk mm_Fk P_X10_countOn Q (P_X10_countOn.drop 9) [(0, .ref 131), (1, .int y1)] [] (xs_H pt ps (.ref 9) pr sy) 0 0)) ) (K := (fun sy => mm_go C mm_Mk mm_Fk P_X10_countOn Q (P_X10_countOn.drop 66) [(0, .ref 131)] [] (xs_H pt ps (.ref 9) pr sy) 0 0) ) ?_ t x hl hK
  intro t r hf hK
  obtain ⟨w1, s⟩ := t
  unfold xf_10_countOn_l9 at hf
  by_cases c_1 : (294 : Int32) ≤ w1
  · have hf := mo_pos hf c_1
    obtain rfl := Option.some.inj hf
    refine mm_adv 3 (cs' := P_X10_countOn.drop 66) (l' := [(0, .ref 131), (1, .int w1)]) (st' := []) (h' := (xs_H pt ps (.ref 9) pr s)) (bc' := 0) (bs' := 0) (fun n g => (And.intro (fun _ => g) (fun q => absurd c_1 q))) ?_
    exact mm_re (c := [(0, .ref 131)]) hK rfl rfl
  · have hf := mo_neg hf c_1
    refine mm_adv 4 (cs' := P_X10_countOn.drop 13) (l' := [(0, .ref 131), (1, .int w1)]) (st' := [.ref 131]) (h' := (xs_H pt ps (.ref 9) pr s)) (bc' := 0) (bs' := 0) (fun n g => (And.intro (fun q => absurd q c_1) (fun _ => g))) ?_
    obtain ⟨sI, sA, sL, sw⟩ := s
    cases sw with
    | false =>
      obtain ⟨x_2, hx_2, hf⟩ := mo_bind hf
      obtain ⟨hi_2, rfl⟩ := mo_ag_inv hx_2
      by_cases c_3 : (((sI, sA, sL, false).2.1 132) (w1).toNatClampNeg) = (0 : Int32)
      · have hf := mo_pos hf c_3
        refine mm_adv 5 (cs' := P_X10_countOn.drop 64) (l' := [(0, .ref 131), (1, .int w1)]) (st' := []) (h' := (xs_H pt ps (.ref 9) pr (sI, sA, sL, false))) (bc' := 0) (bs' := 0) (fun n g => (And.intro hi_2 (And.intro (fun q => absurd c_3 q) (fun _ => g)))) ?_
        refine mm_re (l' := [(0, .ref 131), (1, .int w1)]) (c := [(0, .ref 131), (1, .int w1)]) ?_ rfl rfl
        exact xb_10_countOn_j64 h_fillg h_1_open h_1_after h_11_isAwake h_10_swap (sI, sA, sL, false) (w1) _ hf hK
      · have hf := mo_neg hf c_3
        obtain ⟨s_4, hr_4, hf⟩ := mo_bind hf
        obtain ⟨x_5, hl_5, hf⟩ := mo_bind hf
        refine mm_adv 10 (cs' := P_X10_countOn.drop 24) (l' := [(2, .int (0 : Int32)), (0, .ref 131), (1, .int w1)]) (st' := []) (h' := (xs_H pt ps (.ref 9) pr s_4)) (bc' := 0) (bs' := 0) (fun n g => (And.intro hi_2 (And.intro (fun _ => (h_1_open pt ps pr (sI, sA, sL, false) (w1) s_4 _ hr_4 g)) (fun q => absurd c_3 q)))) ?_
        refine mm_re (l' := [(0, .ref 131), (1, .int w1), (2, .int (0 : Int32))]) (c := [(0, .ref 131), (1, .int w1), (2, .int (0 : Int32))]) ?_ rfl rfl
        refine xb_10_countOn_l24 h_fillg h_1_open h_1_after h_11_isAwake h_10_swap (w1) ((0 : Int32), s_4) x_5 hl_5 ?_
        obtain ⟨s_5, rfl⟩ : ∃ q, q = x_5 := ⟨_, rfl⟩
        refine mm_re (l' := [(0, .ref 131), (1, .int w1)]) (c := [(0, .ref 131), (1, .int w1)]) ?_ rfl rfl
        exact xb_10_countOn_j64 h_fillg h_1_open h_1_after h_11_isAwake h_10_swap s_5 (w1) _ hf hK
    | true =>
      obtain ⟨x_2, hx_2, hf⟩ := mo_bind hf
      obtain ⟨hi_2, rfl⟩ := mo_ag_inv hx_2
      by_cases c_3 : (((sI, sA, sL, true).2.1 132) (w1).toNatClampNeg) = (0 : Int32)
      · have hf := mo_pos hf c_3
        refine mm_adv 5 (cs' := P_X10_countOn.drop 64) (l' := [(0, .ref 131), (1, .int w1)]) (st' := []) (h' := (xs_H pt ps (.ref 9) pr (sI, sA, sL, true))) (bc' := 0) (bs' := 0) (fun n g => (And.intro hi_2 (And.intro (fun q => absurd c_3 q) (fun _ => g)))) ?_
        refine mm_re (l' := [(0, .ref 131), (1, .int w1)]) (c := [(0, .ref 131), (1, .int w1)]) ?_ rfl rfl
        exact xb_10_countOn_j64 h_fillg h_1_open h_1_after h_11_isAwake h_10_swap (sI, sA, sL, true) (w1) _ hf hK
      · have hf := mo_neg hf c_3
        obtain ⟨s_4, hr_4, hf⟩ := mo_bind hf
        obtain ⟨x_5, hl_5, hf⟩ := mo_bind hf
        refine mm_adv 10 (cs' := P_X10_countOn.drop 24) (l' := [(2, .int (0 : Int32)), (0, .ref 131), (1, .int w1)]) (st' := []) (h' := (xs_H pt ps (.ref 9) pr s_4)) (bc' := 0) (bs' := 0) (fun n g => (And.intro hi_2 (And.intro (fun _ => (h_1_open pt ps pr (sI, sA, sL, true) (w1) s_4 _ hr_4 g)) (fun q => absurd c_3 q)))) ?_
        refine mm_re (l' := [(0, .ref 131), (1, .int w1), (2, .int (0 : Int32))]) (c := [(0, .ref 131), (1, .int w1), (2, .int (0 : Int32))]) ?_ rfl rfl
        refine xb_10_countOn_l24 h_fillg h_1_open h_1_after h_11_isAwake h_10_swap (w1) ((0 : Int32), s_4) x_5 hl_5 ?_
        obtain ⟨s_5, rfl⟩ : ∃ q, q = x_5 := ⟨_, rfl⟩
        refine mm_re (l' := [(0, .ref 131), (1, .int w1)]) (c := [(0, .ref 131), (1, .int w1)]) ?_ rfl rfl
        exact xb_10_countOn_j64 h_fillg h_1_open h_1_after h_11_isAwake h_10_swap s_5 (w1) _ hf hK
noncomputable def xf_10_countOn (s : xs_S)  : Option (xs_S) :=
((mo_loop (xf_10_countOn_l9 ) ((0 : Int32), (xs_sA (xs_sI s 2099 ((0 : Int32))) 133 (xs_fl 294 ((0 : Int32)) (s.2.1 133))))).bind fun s_1 =>
((xf_10_swap s_1 ).bind fun s_2 =>
some s_2))
set_option maxHeartbeats 4000000 in
theorem xb_10_countOn {C : mm_C} {Q : mm_R} {pt : Value} {ps : Value} {pr : Value} (h_fillg : xk_fillg C) (h_1_open : xk_1_open C) (h_1_after : xk_1_after C) (h_11_isAwake : xk_11_isAwake C) (h_10_swap : xk_10_swap C) (s : xs_S)  (s2 : xs_S) (hf : xf_10_countOn s = some s2) (hK : Q (none) (xs_H pt ps (.ref 9) pr s2)) : mm_go C mm_Mk mm_Fk P_X10_countOn Q P_X10_countOn [(0, .ref 131)] [] (xs_H pt ps (.ref 9) pr s) 0 0 := by
  unfold xf_10_countOn at hf
  refine mm_adv 1 (cs' := P_X10_countOn.drop 1) (l' := [(0, .ref 131)]) (st' := [.ref 131]) (h' := (xs_H pt ps (.ref 9) pr s)) (bc' := 0) (bs' := 0) (fun n g => g) ?_
  obtain ⟨sI, sA, sL, sw⟩ := s
  cases sw with
  | false =>
    obtain ⟨x_1, hl_1, hf⟩ := mo_bind hf
    refine mm_adv 8 (cs' := P_X10_countOn.drop 9) (l' := [(1, .int (0 : Int32)), (0, .ref 131)]) (st' := []) (h' := (xs_H pt ps (.ref 9) pr (xs_sA (xs_sI (sI, sA, sL, false) 2099 ((0 : Int32))) 133 (xs_fl 294 ((0 : Int32)) ((sI, sA, sL, false).2.1 133))))) (bc' := 0) (bs' := 0) (fun n g => (h_fillg _ 133 294 _ ((0 : Int32)) _ rfl (by decide) (And.intro trivial g))) ?_
    refine mm_re (l' := [(0, .ref 131), (1, .int (0 : Int32))]) (c := [(0, .ref 131), (1, .int (0 : Int32))]) ?_ rfl rfl
    refine xb_10_countOn_l9 h_fillg h_1_open h_1_after h_11_isAwake h_10_swap  ((0 : Int32), (xs_sA (xs_sI (sI, sA, sL, false) 2099 ((0 : Int32))) 133 (xs_fl 294 ((0 : Int32)) ((sI, sA, sL, false).2.1 133)))) x_1 hl_1 ?_
    obtain ⟨s_1, rfl⟩ : ∃ q, q = x_1 := ⟨_, rfl⟩
    obtain ⟨s_2, hr_2, hf⟩ := mo_bind hf
    obtain rfl := Option.some.inj hf
    exact ⟨3, (h_10_swap pt ps (.ref 9) pr s_1  s_2 _ hr_2 hK)⟩
  | true =>
    obtain ⟨x_1, hl_1, hf⟩ := mo_bind hf
    refine mm_adv 8 (cs' := P_X10_countOn.drop 9) (l' := [(1, .int (0 : Int32)), (0, .ref 131)]) (st' := []) (h' := (xs_H pt ps (.ref 9) pr (xs_sA (xs_sI (sI, sA, sL, true) 2099 ((0 : Int32))) 133 (xs_fl 294 ((0 : Int32)) ((sI, sA, sL, true).2.1 133))))) (bc' := 0) (bs' := 0) (fun n g => (h_fillg _ 132 294 _ ((0 : Int32)) _ rfl (by decide) (And.intro trivial g))) ?_
    refine mm_re (l' := [(0, .ref 131), (1, .int (0 : Int32))]) (c := [(0, .ref 131), (1, .int (0 : Int32))]) ?_ rfl rfl
    refine xb_10_countOn_l9 h_fillg h_1_open h_1_after h_11_isAwake h_10_swap  ((0 : Int32), (xs_sA (xs_sI (sI, sA, sL, true) 2099 ((0 : Int32))) 133 (xs_fl 294 ((0 : Int32)) ((sI, sA, sL, true).2.1 133)))) x_1 hl_1 ?_
    obtain ⟨s_1, rfl⟩ : ∃ q, q = x_1 := ⟨_, rfl⟩
    obtain ⟨s_2, hr_2, hf⟩ := mo_bind hf
    obtain rfl := Option.some.inj hf
    exact ⟨3, (h_10_swap pt ps (.ref 9) pr s_1  s_2 _ hr_2 hK)⟩
def xk_10_countOn (C : mm_C) : Prop := ∀ (pt : Value) (ps : Value) (pr : Value) (s : xs_S)  (s2 : xs_S) (Q : mm_R), xf_10_countOn s = some s2 → Q (none) (xs_H pt ps (.ref 9) pr s2) → C 222 [.ref 131] (xs_H pt ps (.ref 9) pr s) Q
-- 10_asleepRows
noncomputable def xf_10_asleepRows_l12 (v2 : Int32) : (Int32 × xs_S) → Option ((Int32 × xs_S) ⊕ ((xs_S))) := fun (w3, s) =>
(if v2 ≤ w3 then
some (.inr (s))
else
((xf_10_countOn s ).bind fun s_5 =>
some (.inl ((w3 + (1 : Int32)), s_5))))
set_option maxHeartbeats 4000000 in
theorem xb_10_asleepRows_l12 {C : mm_C} {Q : mm_R} {pt : Value} {ps : Value} {pr : Value} (h_11_isAwake : xk_11_isAwake C) (h_10_start : xk_10_start C) (h_10_countOn : xk_10_countOn C) (v2 : Int32) (t : Int32 × xs_S) (x : (xs_S)) (hl : mo_loop (xf_10_asleepRows_l12 v2) t = some x) (hK : (fun sy => mm_go C mm_Mk mm_Fk P_X10_asleepRows Q (P_X10_asleepRows.drop 19) [(0, .ref 131)] [] (xs_H pt ps (.ref 9) pr sy) 0 0) x) : (mo_c2 (fun y3 sy => mm_go C mm_Mk mm_Fk P_X10_asleepRows Q (P_X10_asleepRows.drop 12) [(0, .ref 131), (2, .int v2), (3, .int y3)] [] (xs_H pt ps (.ref 9) pr sy) 0 0)) t := by
  refine mo_loop_go (G := (mo_c2 (fun y3 sy => mm_go C mm_Mk mm_Fk P_X10_asleepRows Q (P_X10_asleepRows.drop 12) [(0, .ref 131), (2, .int v2), (3, .int y3)] [] (xs_H pt ps (.ref 9) pr sy) 0 0)) ) (K := (fun sy => mm_go C mm_Mk mm_Fk P_X10_asleepRows Q (P_X10_asleepRows.drop 19) [(0, .ref 131)] [] (xs_H pt ps (.ref 9) pr sy) 0 0) ) ?_ t x hl hK
  intro t r hf hK
  obtain ⟨w3, s⟩ := t
  unfold xf_10_asleepRows_l12 at hf
  by_cases c_4 : v2 ≤ w3
  · have hf := mo_pos hf c_4
    obtain rfl := Option.some.inj hf
    refine mm_adv 3 (cs' := P_X10_asleepRows.drop 19) (l' := [(0, .ref 131), (2, .int v2), (3, .int w3)]) (st' := []) (h' := (xs_H pt ps (.ref 9) pr s)) (bc' := 0) (bs' := 0) (fun n g => (And.intro (fun _ => g) (fun q => absurd c_4 q))) ?_
    exact mm_re (c := [(0, .ref 131)]) hK rfl rfl
  · have hf := mo_neg hf c_4
    obtain ⟨s_5, hr_5, hf⟩ := mo_bind hf
    obtain rfl := Option.some.inj hf
    refine mm_adv 7 (cs' := P_X10_asleepRows.drop 12) (l' := [(3, .int (w3 + (1 : Int32))), (0, .ref 131), (2, .int v2)]) (st' := []) (h' := (xs_H pt ps (.ref 9) pr s_5)) (bc' := 0) (bs' := 0) (fun n g => (And.intro (fun q => absurd q c_4) (fun _ => (h_10_countOn pt ps pr s  s_5 _ hr_5 g)))) ?_
    exact mm_re (c := [(0, .ref 131), (2, .int v2), (3, .int (w3 + (1 : Int32)))]) hK rfl rfl
noncomputable def xf_10_asleepRows_l23  : (Int32 × Int32 × xs_S) → Option ((Int32 × Int32 × xs_S) ⊕ ((Int32 × xs_S))) := fun (w3, w4, s) =>
(if (294 : Int32) ≤ w4 then
some (.inr (w3, s))
else
((mo_ag 294 (s.2.1 132) w4).bind fun x_6 =>
some (.inl ((w3 + x_6), (w4 + (1 : Int32)), s))))
set_option maxHeartbeats 4000000 in
theorem xb_10_asleepRows_l23 {C : mm_C} {Q : mm_R} {pt : Value} {ps : Value} {pr : Value} (h_11_isAwake : xk_11_isAwake C) (h_10_start : xk_10_start C) (h_10_countOn : xk_10_countOn C)  (t : Int32 × Int32 × xs_S) (x : (Int32 × xs_S)) (hl : mo_loop (xf_10_asleepRows_l23 ) t = some x) (hK : (mo_c2 (fun y3 sy => mm_go C mm_Mk mm_Fk P_X10_asleepRows Q (P_X10_asleepRows.drop 35) [(3, .int y3)] [] (xs_H pt ps (.ref 9) pr sy) 0 0)) x) : (mo_c2 (fun y3 => (mo_c2 (fun y4 sy => mm_go C mm_Mk mm_Fk P_X10_asleepRows Q (P_X10_asleepRows.drop 23) [(0, .ref 131), (3, .int y3), (4, .int y4)] [] (xs_H pt ps (.ref 9) pr sy) 0 0)))) t := by
  refine mo_loop_go (G := (mo_c2 (fun y3 => (mo_c2 (fun y4 sy => mm_go C mm_Mk mm_Fk P_X10_asleepRows Q (P_X10_asleepRows.drop 23) [(0, .ref 131), (3, .int y3), (4, .int y4)] [] (xs_H pt ps (.ref 9) pr sy) 0 0)))) ) (K := (mo_c2 (fun y3 sy => mm_go C mm_Mk mm_Fk P_X10_asleepRows Q (P_X10_asleepRows.drop 35) [(3, .int y3)] [] (xs_H pt ps (.ref 9) pr sy) 0 0)) ) ?_ t x hl hK
  intro t r hf hK
  obtain ⟨w3, w4, s⟩ := t
  unfold xf_10_asleepRows_l23 at hf
  by_cases c_5 : (294 : Int32) ≤ w4
  · have hf := mo_pos hf c_5
    obtain rfl := Option.some.inj hf
    refine mm_adv 3 (cs' := P_X10_asleepRows.drop 35) (l' := [(0, .ref 131), (3, .int w3), (4, .int w4)]) (st' := []) (h' := (xs_H pt ps (.ref 9) pr s)) (bc' := 0) (bs' := 0) (fun n g => (And.intro (fun _ => g) (fun q => absurd c_5 q))) ?_
    exact mm_re (c := [(3, .int w3)]) hK rfl rfl
  · have hf := mo_neg hf c_5
    refine mm_adv 5 (cs' := P_X10_asleepRows.drop 28) (l' := [(0, .ref 131), (3, .int w3), (4, .int w4)]) (st' := [.ref 131, .int w3]) (h' := (xs_H pt ps (.ref 9) pr s)) (bc' := 0) (bs' := 0) (fun n g => (And.intro (fun q => absurd q c_5) (fun _ => g))) ?_
    obtain ⟨sI, sA, sL, sw⟩ := s
    cases sw with
    | false =>
      obtain ⟨x_6, hx_6, hf⟩ := mo_bind hf
      obtain ⟨hi_6, rfl⟩ := mo_ag_inv hx_6
      obtain rfl := Option.some.inj hf
      refine mm_adv 7 (cs' := P_X10_asleepRows.drop 23) (l' := [(4, .int (w4 + (1 : Int32))), (3, .int (w3 + (((sI, sA, sL, false).2.1 132) (w4).toNatClampNeg))), (0, .ref 131)]) (st' := []) (h' := (xs_H pt ps (.ref 9) pr (sI, sA, sL, false))) (bc' := 0) (bs' := 0) (fun n g => (And.intro hi_6 g)) ?_
      exact mm_re (c := [(0, .ref 131), (3, .int (w3 + (((sI, sA, sL, false).2.1 132) (w4).toNatClampNeg))), (4, .int (w4 + (1 : Int32)))]) hK rfl rfl
    | true =>
      obtain ⟨x_6, hx_6, hf⟩ := mo_bind hf
      obtain ⟨hi_6, rfl⟩ := mo_ag_inv hx_6
      obtain rfl := Option.some.inj hf
      refine mm_adv 7 (cs' := P_X10_asleepRows.drop 23) (l' := [(4, .int (w4 + (1 : Int32))), (3, .int (w3 + (((sI, sA, sL, true).2.1 132) (w4).toNatClampNeg))), (0, .ref 131)]) (st' := []) (h' := (xs_H pt ps (.ref 9) pr (sI, sA, sL, true))) (bc' := 0) (bs' := 0) (fun n g => (And.intro hi_6 g)) ?_
      exact mm_re (c := [(0, .ref 131), (3, .int (w3 + (((sI, sA, sL, true).2.1 132) (w4).toNatClampNeg))), (4, .int (w4 + (1 : Int32)))]) hK rfl rfl
noncomputable def xf_10_asleepRows (s : xs_S) (a0 : Int32) (a1 : Int32) : Option (Int32 × xs_S) :=
((xf_11_isAwake (a0)).bind fun v_1 =>
(if v_1 = (0 : Int32) then
((xf_10_start s (a0) ((1 : Int32)) ((0 : Int32))).bind fun s_3 =>
((mo_loop (xf_10_asleepRows_l12 (a1)) ((0 : Int32), s_3)).bind fun s_4 =>
((mo_loop (xf_10_asleepRows_l23 ) ((0 : Int32), (0 : Int32), s_4)).bind fun (e3_5, s_5) =>
some (e3_5, s_5))))
else
some ((0 : Int32), s)))
set_option maxHeartbeats 4000000 in
theorem xb_10_asleepRows {C : mm_C} {Q : mm_R} {pt : Value} {ps : Value} {pr : Value} (h_11_isAwake : xk_11_isAwake C) (h_10_start : xk_10_start C) (h_10_countOn : xk_10_countOn C) (s : xs_S) (a0 : Int32) (a1 : Int32) (v : Int32) (s2 : xs_S) (hf : xf_10_asleepRows s a0 a1 = some (v, s2)) (hK : Q (some (.int v)) (xs_H pt ps (.ref 9) pr s2)) : mm_go C mm_Mk mm_Fk P_X10_asleepRows Q P_X10_asleepRows [(0, .ref 131), (1, .int a0), (2, .int a1)] [] (xs_H pt ps (.ref 9) pr s) 0 0 := by
  unfold xf_10_asleepRows at hf
  obtain ⟨v_1, hr_1, hf⟩ := mo_bind hf
  by_cases c_2 : v_1 = (0 : Int32)
  · have hf := mo_pos hf c_2
    obtain ⟨s_3, hr_3, hf⟩ := mo_bind hf
    obtain ⟨x_4, hl_4, hf⟩ := mo_bind hf
    refine mm_adv 10 (cs' := P_X10_asleepRows.drop 12) (l' := [(3, .int (0 : Int32)), (0, .ref 131), (1, .int a0), (2, .int a1)]) (st' := []) (h' := (xs_H pt ps (.ref 9) pr s_3)) (bc' := 0) (bs' := 0) (fun n g => (h_11_isAwake _ (a0) v_1 _ hr_1 (And.intro (fun _ => (h_10_start pt ps (.ref 9) pr s (a0) ((1 : Int32)) ((0 : Int32)) s_3 _ hr_3 g)) (fun q => absurd c_2 q)))) ?_
    refine mm_re (l' := [(0, .ref 131), (2, .int a1), (3, .int (0 : Int32))]) (c := [(0, .ref 131), (2, .int a1), (3, .int (0 : Int32))]) ?_ rfl rfl
    refine xb_10_asleepRows_l12 h_11_isAwake h_10_start h_10_countOn (a1) ((0 : Int32), s_3) x_4 hl_4 ?_
    obtain ⟨s_4, rfl⟩ : ∃ q, q = x_4 := ⟨_, rfl⟩
    obtain ⟨x_5, hl_5, hf⟩ := mo_bind hf
    refine mm_adv 4 (cs' := P_X10_asleepRows.drop 23) (l' := [(4, .int (0 : Int32)), (3, .int (0 : Int32)), (0, .ref 131)]) (st' := []) (h' := (xs_H pt ps (.ref 9) pr s_4)) (bc' := 0) (bs' := 0) (fun n g => g) ?_
    refine mm_re (l' := [(0, .ref 131), (3, .int (0 : Int32)), (4, .int (0 : Int32))]) (c := [(0, .ref 131), (3, .int (0 : Int32)), (4, .int (0 : Int32))]) ?_ rfl rfl
    refine xb_10_asleepRows_l23 h_11_isAwake h_10_start h_10_countOn  ((0 : Int32), (0 : Int32), s_4) x_5 hl_5 ?_
    obtain ⟨e3_5, s_5⟩ := x_5
    obtain ⟨rfl, rfl⟩ := mo_pair hf
    exact ⟨2, hK⟩
  · have hf := mo_neg hf c_2
    obtain ⟨rfl, rfl⟩ := mo_pair hf
    exact ⟨5, (h_11_isAwake _ (a0) v_1 _ hr_1 (And.intro (fun q => absurd q c_2) (fun _ => hK)))⟩
def xk_10_asleepRows (C : mm_C) : Prop := ∀ (pt : Value) (ps : Value) (pr : Value) (s : xs_S) (a0 : Int32) (a1 : Int32) (v : Int32) (s2 : xs_S) (Q : mm_R), xf_10_asleepRows s a0 a1 = some (v, s2) → Q (some (.int v)) (xs_H pt ps (.ref 9) pr s2) → C 218 [.ref 131, .int a0, .int a1] (xs_H pt ps (.ref 9) pr s) Q
-- 11_ways
noncomputable def xf_11_ways (s : xs_S) (a0 : Int32) : Option (Int32 × xs_S) :=
(if a0 < (0 : Int32) then
some ((-1 : Int32), s)
else
(if a0 ≤ (7 : Int32) then
((xf_10_asleepRows s ((s.1 400)) (a0)).bind fun (v_3, s_3) =>
some (v_3, s_3))
else
some ((-1 : Int32), s)))
set_option maxHeartbeats 4000000 in
theorem xb_11_ways {C : mm_C} {Q : mm_R} {pt : Value} {ps : Value} {pr : Value} (h_10_asleepRows : xk_10_asleepRows C) (s : xs_S) (a0 : Int32) (v : Int32) (s2 : xs_S) (hf : xf_11_ways s a0 = some (v, s2)) (hK : Q (some (.int v)) (xs_H pt ps (.ref 9) pr s2)) : mm_go C mm_Mk mm_Fk P_X11_ways Q P_X11_ways [(0, .ref 0), (1, .int a0)] [] (xs_H pt ps (.ref 9) pr s) 0 0 := by
  unfold xf_11_ways at hf
  by_cases c_1 : a0 < (0 : Int32)
  · have hf := mo_pos hf c_1
    obtain ⟨rfl, rfl⟩ := mo_pair hf
    exact ⟨5, (And.intro (fun _ => hK) (fun q => absurd c_1 q))⟩
  · have hf := mo_neg hf c_1
    by_cases c_2 : a0 ≤ (7 : Int32)
    · have hf := mo_pos hf c_2
      obtain ⟨r_3, hr_3, hf⟩ := mo_bind hf
      obtain ⟨v_3, s_3⟩ := r_3
      obtain ⟨rfl, rfl⟩ := mo_pair hf
      exact ⟨13, (And.intro (fun q => absurd q c_1) (fun _ => (And.intro (fun _ => (h_10_asleepRows pt ps pr s ((s.1 400)) (a0) v_3 s_3 _ hr_3 hK)) (fun q => absurd c_2 q))))⟩
    · have hf := mo_neg hf c_2
      obtain ⟨rfl, rfl⟩ := mo_pair hf
      exact ⟨8, (And.intro (fun q => absurd q c_1) (fun _ => (And.intro (fun q => absurd q c_2) (fun _ => hK))))⟩
def xk_11_ways (C : mm_C) : Prop := ∀ (pt : Value) (ps : Value) (pr : Value) (s : xs_S) (a0 : Int32) (v : Int32) (s2 : xs_S) (Q : mm_R), xf_11_ways s a0 = some (v, s2) → Q (some (.int v)) (xs_H pt ps (.ref 9) pr s2) → C 242 [.ref 0, .int a0] (xs_H pt ps (.ref 9) pr s) Q
-- 10_wakingRows
noncomputable def xf_10_wakingRows_l9 (v2 : Int32) : (Int32 × Int32 × xs_S) → Option ((Int32 × Int32 × xs_S) ⊕ ((Int32 × xs_S))) := fun (w3, w4, s) =>
(if v2 ≤ w4 then
some (.inr (w3, s))
else
((xf_10_countOn s ).bind fun s_3 =>
some (.inl ((w3 + (s_3.1 2099)), (w4 + (1 : Int32)), s_3))))
set_option maxHeartbeats 4000000 in
theorem xb_10_wakingRows_l9 {C : mm_C} {Q : mm_R} {pt : Value} {ps : Value} {pr : Value} (h_10_start : xk_10_start C) (h_10_countOn : xk_10_countOn C) (v2 : Int32) (t : Int32 × Int32 × xs_S) (x : (Int32 × xs_S)) (hl : mo_loop (xf_10_wakingRows_l9 v2) t = some x) (hK : (mo_c2 (fun y3 sy => mm_go C mm_Mk mm_Fk P_X10_wakingRows Q (P_X10_wakingRows.drop 21) [(3, .int y3)] [] (xs_H pt ps (.ref 9) pr sy) 0 0)) x) : (mo_c2 (fun y3 => (mo_c2 (fun y4 sy => mm_go C mm_Mk mm_Fk P_X10_wakingRows Q (P_X10_wakingRows.drop 9) [(0, .ref 131), (2, .int v2), (3, .int y3), (4, .int y4)] [] (xs_H pt ps (.ref 9) pr sy) 0 0)))) t := by
  refine mo_loop_go (G := (mo_c2 (fun y3 => (mo_c2 (fun y4 sy => mm_go C mm_Mk mm_Fk P_X10_wakingRows Q (P_X10_wakingRows.drop 9) [(0, .ref 131), (2, .int v2), (3, .int y3), (4, .int y4)] [] (xs_H pt ps (.ref 9) pr sy) 0 0)))) ) (K := (mo_c2 (fun y3 sy => mm_go C mm_Mk mm_Fk P_X10_wakingRows Q (P_X10_wakingRows.drop 21) [(3, .int y3)] [] (xs_H pt ps (.ref 9) pr sy) 0 0)) ) ?_ t x hl hK
  intro t r hf hK
  obtain ⟨w3, w4, s⟩ := t
  unfold xf_10_wakingRows_l9 at hf
  by_cases c_2 : v2 ≤ w4
  · have hf := mo_pos hf c_2
    obtain rfl := Option.some.inj hf
    refine mm_adv 3 (cs' := P_X10_wakingRows.drop 21) (l' := [(0, .ref 131), (2, .int v2), (3, .int w3), (4, .int w4)]) (st' := []) (h' := (xs_H pt ps (.ref 9) pr s)) (bc' := 0) (bs' := 0) (fun n g => (And.intro (fun _ => g) (fun q => absurd c_2 q))) ?_
    exact mm_re (c := [(3, .int w3)]) hK rfl rfl
  · have hf := mo_neg hf c_2
    obtain ⟨s_3, hr_3, hf⟩ := mo_bind hf
    obtain rfl := Option.some.inj hf
    refine mm_adv 12 (cs' := P_X10_wakingRows.drop 9) (l' := [(4, .int (w4 + (1 : Int32))), (3, .int (w3 + (s_3.1 2099))), (0, .ref 131), (2, .int v2)]) (st' := []) (h' := (xs_H pt ps (.ref 9) pr s_3)) (bc' := 0) (bs' := 0) (fun n g => (And.intro (fun q => absurd q c_2) (fun _ => (h_10_countOn pt ps pr s  s_3 _ hr_3 g)))) ?_
    exact mm_re (c := [(0, .ref 131), (2, .int v2), (3, .int (w3 + (s_3.1 2099))), (4, .int (w4 + (1 : Int32)))]) hK rfl rfl
noncomputable def xf_10_wakingRows (s : xs_S) (a0 : Int32) (a1 : Int32) : Option (Int32 × xs_S) :=
((xf_10_start s (a0) ((1 : Int32)) ((0 : Int32))).bind fun s_1 =>
((mo_loop (xf_10_wakingRows_l9 (a1)) ((0 : Int32), (0 : Int32), s_1)).bind fun (e3_2, s_2) =>
some (e3_2, s_2)))
set_option maxHeartbeats 4000000 in
theorem xb_10_wakingRows {C : mm_C} {Q : mm_R} {pt : Value} {ps : Value} {pr : Value} (h_10_start : xk_10_start C) (h_10_countOn : xk_10_countOn C) (s : xs_S) (a0 : Int32) (a1 : Int32) (v : Int32) (s2 : xs_S) (hf : xf_10_wakingRows s a0 a1 = some (v, s2)) (hK : Q (some (.int v)) (xs_H pt ps (.ref 9) pr s2)) : mm_go C mm_Mk mm_Fk P_X10_wakingRows Q P_X10_wakingRows [(0, .ref 131), (1, .int a0), (2, .int a1)] [] (xs_H pt ps (.ref 9) pr s) 0 0 := by
  unfold xf_10_wakingRows at hf
  obtain ⟨s_1, hr_1, hf⟩ := mo_bind hf
  obtain ⟨x_2, hl_2, hf⟩ := mo_bind hf
  refine mm_adv 9 (cs' := P_X10_wakingRows.drop 9) (l' := [(4, .int (0 : Int32)), (3, .int (0 : Int32)), (0, .ref 131), (1, .int a0), (2, .int a1)]) (st' := []) (h' := (xs_H pt ps (.ref 9) pr s_1)) (bc' := 0) (bs' := 0) (fun n g => (h_10_start pt ps (.ref 9) pr s (a0) ((1 : Int32)) ((0 : Int32)) s_1 _ hr_1 g)) ?_
  refine mm_re (l' := [(0, .ref 131), (2, .int a1), (3, .int (0 : Int32)), (4, .int (0 : Int32))]) (c := [(0, .ref 131), (2, .int a1), (3, .int (0 : Int32)), (4, .int (0 : Int32))]) ?_ rfl rfl
  refine xb_10_wakingRows_l9 h_10_start h_10_countOn (a1) ((0 : Int32), (0 : Int32), s_1) x_2 hl_2 ?_
  obtain ⟨e3_2, s_2⟩ := x_2
  obtain ⟨rfl, rfl⟩ := mo_pair hf
  exact ⟨2, hK⟩
def xk_10_wakingRows (C : mm_C) : Prop := ∀ (pt : Value) (ps : Value) (pr : Value) (s : xs_S) (a0 : Int32) (a1 : Int32) (v : Int32) (s2 : xs_S) (Q : mm_R), xf_10_wakingRows s a0 a1 = some (v, s2) → Q (some (.int v)) (xs_H pt ps (.ref 9) pr s2) → C 219 [.ref 131, .int a0, .int a1] (xs_H pt ps (.ref 9) pr s) Q
-- 11_waking
noncomputable def xf_11_waking (s : xs_S) (a0 : Int32) : Option (Int32 × xs_S) :=
(if a0 < (0 : Int32) then
some ((-1 : Int32), s)
else
(if a0 ≤ (7 : Int32) then
((xf_10_wakingRows s ((s.1 400)) (a0)).bind fun (v_3, s_3) =>
some (v_3, s_3))
else
some ((-1 : Int32), s)))
set_option maxHeartbeats 4000000 in
theorem xb_11_waking {C : mm_C} {Q : mm_R} {pt : Value} {ps : Value} {pr : Value} (h_10_wakingRows : xk_10_wakingRows C) (s : xs_S) (a0 : Int32) (v : Int32) (s2 : xs_S) (hf : xf_11_waking s a0 = some (v, s2)) (hK : Q (some (.int v)) (xs_H pt ps (.ref 9) pr s2)) : mm_go C mm_Mk mm_Fk P_X11_waking Q P_X11_waking [(0, .ref 0), (1, .int a0)] [] (xs_H pt ps (.ref 9) pr s) 0 0 := by
  unfold xf_11_waking at hf
  by_cases c_1 : a0 < (0 : Int32)
  · have hf := mo_pos hf c_1
    obtain ⟨rfl, rfl⟩ := mo_pair hf
    exact ⟨5, (And.intro (fun _ => hK) (fun q => absurd c_1 q))⟩
  · have hf := mo_neg hf c_1
    by_cases c_2 : a0 ≤ (7 : Int32)
    · have hf := mo_pos hf c_2
      obtain ⟨r_3, hr_3, hf⟩ := mo_bind hf
      obtain ⟨v_3, s_3⟩ := r_3
      obtain ⟨rfl, rfl⟩ := mo_pair hf
      exact ⟨13, (And.intro (fun q => absurd q c_1) (fun _ => (And.intro (fun _ => (h_10_wakingRows pt ps pr s ((s.1 400)) (a0) v_3 s_3 _ hr_3 hK)) (fun q => absurd c_2 q))))⟩
    · have hf := mo_neg hf c_2
      obtain ⟨rfl, rfl⟩ := mo_pair hf
      exact ⟨8, (And.intro (fun q => absurd q c_1) (fun _ => (And.intro (fun q => absurd q c_2) (fun _ => hK))))⟩
def xk_11_waking (C : mm_C) : Prop := ∀ (pt : Value) (ps : Value) (pr : Value) (s : xs_S) (a0 : Int32) (v : Int32) (s2 : xs_S) (Q : mm_R), xf_11_waking s a0 = some (v, s2) → Q (some (.int v)) (xs_H pt ps (.ref 9) pr s2) → C 243 [.ref 0, .int a0] (xs_H pt ps (.ref 9) pr s) Q
-- 1_lift_p2n
noncomputable def xf_1_lift_p2n (s : xs_S)  : Option (xs_S) :=
some s
set_option maxHeartbeats 4000000 in
theorem xb_1_lift_p2n {C : mm_C} {Q : mm_R} {pt : Value} {ps : Value} {pr : Value}  (s : xs_S)  (s2 : xs_S) (hf : xf_1_lift_p2n s = some s2) (hK : Q (none) (xs_H pt ps (.null) pr s2)) : mm_go C mm_Mk mm_Fk P_X1_lift Q P_X1_lift [(0, .ref 117)] [] (xs_H pt ps (.null) pr s) 0 0 := by
  unfold xf_1_lift_p2n at hf
  obtain rfl := Option.some.inj hf
  exact ⟨4, (And.intro trivial hK)⟩
def xk_1_lift_p2n (C : mm_C) : Prop := ∀ (pt : Value) (ps : Value) (pr : Value) (s : xs_S)  (s2 : xs_S) (Q : mm_R), xf_1_lift_p2n s = some s2 → Q (none) (xs_H pt ps (.null) pr s2) → C 136 [.ref 117] (xs_H pt ps (.null) pr s) Q
-- 11_beginAnew_p2n
noncomputable def xf_11_beginAnew_p2n_l15  : (Int32 × xs_S) → Option ((Int32 × xs_S) ⊕ ((xs_S))) := fun (w1, s) =>
(if (3 : Int32) ≤ w1 then
some (.inr (s))
else
(bif mo_in w1 3 then some (.inl ((w1 + (1 : Int32)), (xs_sA s 116 (upd (s.2.1 116) (w1).toNatClampNeg ((vp_nar .boolean (0 : Int32))))))) else none))
set_option maxHeartbeats 4000000 in
theorem xb_11_beginAnew_p2n_l15 {C : mm_C} {Q : mm_R} {ps : Value} {pr : Value} (h_2_begin_25_9 : xk_2_begin_25_9 C) (h_7_fill_53178_138 : xk_7_fill_53178_138 C) (h_1_lift_p2n : xk_1_lift_p2n C) (h_1_lay_9_p2n : xk_1_lay_9_p2n C)  (t : Int32 × xs_S) (x : (xs_S)) (hl : mo_loop (xf_11_beginAnew_p2n_l15 ) t = some x) (hK : (fun sy => mm_go C mm_Mk mm_Fk P_X11_beginAnew Q (P_X11_beginAnew.drop 25) [(0, .ref 0)] [] (xs_H (.ref 9) ps (.null) pr sy) 0 0) x) : (mo_c2 (fun y1 sy => mm_go C mm_Mk mm_Fk P_X11_beginAnew Q (P_X11_beginAnew.drop 15) [(0, .ref 0), (1, .int y1)] [] (xs_H (.ref 9) ps (.null) pr sy) 0 0)) t := by
  refine mo_loop_go (G := (mo_c2 (fun y1 sy => mm_go C mm_Mk mm_Fk P_X11_beginAnew Q (P_X11_beginAnew.drop 15) [(0, .ref 0), (1, .int y1)] [] (xs_H (.ref 9) ps (.null) pr sy) 0 0)) ) (K := (fun sy => mm_go C mm_Mk mm_Fk P_X11_beginAnew Q (P_X11_beginAnew.drop 25) [(0, .ref 0)] [] (xs_H (.ref 9) ps (.null) pr sy) 0 0) ) ?_ t x hl hK
  intro t r hf hK
  obtain ⟨w1, s⟩ := t
  unfold xf_11_beginAnew_p2n_l15 at hf
  by_cases c_2 : (3 : Int32) ≤ w1
  · have hf := mo_pos hf c_2
    obtain rfl := Option.some.inj hf
    refine mm_adv 3 (cs' := P_X11_beginAnew.drop 25) (l' := [(0, .ref 0), (1, .int w1)]) (st' := []) (h' := (xs_H (.ref 9) ps (.null) pr s)) (bc' := 0) (bs' := 0) (fun n g => (And.intro (fun _ => g) (fun q => absurd c_2 q))) ?_
    exact mm_re (c := [(0, .ref 0)]) hK rfl rfl
  · have hf := mo_neg hf c_2
    obtain ⟨hi_3, hf⟩ := mo_if hf
    obtain rfl := Option.some.inj hf
    refine mm_adv 10 (cs' := P_X11_beginAnew.drop 15) (l' := [(1, .int (w1 + (1 : Int32))), (0, .ref 0)]) (st' := []) (h' := (xs_H (.ref 9) ps (.null) pr (xs_sA s 116 (upd (s.2.1 116) (w1).toNatClampNeg ((vp_nar .boolean (0 : Int32))))))) (bc' := 0) (bs' := 0) (fun n g => (And.intro (fun q => absurd q c_2) (fun _ => (And.intro hi_3 g)))) ?_
    exact mm_re (c := [(0, .ref 0), (1, .int (w1 + (1 : Int32)))]) hK rfl rfl
noncomputable def xf_11_beginAnew_p2n (s : xs_S)  : Option (xs_S) :=
((xf_2_begin_25_9 s ).bind fun s_1 =>
((mo_loop (xf_11_beginAnew_p2n_l15 ) ((0 : Int32), (xs_sI (xs_sI s_1 434 ((0 : Int32))) 1924 ((0 : Int32))))).bind fun s_2 =>
((xf_7_fill_53178_138 s_2 ((-1 : Int32))).bind fun s_3 =>
((xf_1_lift_p2n s_3 ).bind fun s_4 =>
((xf_1_lay_9_p2n s_4 ((s_4.1 401)) ((s_4.1 402))).bind fun s_5 =>
some s_5)))))
set_option maxHeartbeats 4000000 in
theorem xb_11_beginAnew_p2n {C : mm_C} {Q : mm_R} {ps : Value} {pr : Value} (h_2_begin_25_9 : xk_2_begin_25_9 C) (h_7_fill_53178_138 : xk_7_fill_53178_138 C) (h_1_lift_p2n : xk_1_lift_p2n C) (h_1_lay_9_p2n : xk_1_lay_9_p2n C) (s : xs_S)  (s2 : xs_S) (hf : xf_11_beginAnew_p2n s = some s2) (hK : Q (none) (xs_H (.ref 9) ps (.ref 9) pr s2)) : mm_go C mm_Mk mm_Fk P_X11_beginAnew Q P_X11_beginAnew [(0, .ref 0)] [] (xs_H (.ref 9) ps (.null) pr s) 0 0 := by
  unfold xf_11_beginAnew_p2n at hf
  obtain ⟨s_1, hr_1, hf⟩ := mo_bind hf
  obtain ⟨x_2, hl_2, hf⟩ := mo_bind hf
  refine mm_adv 15 (cs' := P_X11_beginAnew.drop 15) (l' := [(1, .int (0 : Int32)), (0, .ref 0)]) (st' := []) (h' := (xs_H (.ref 9) ps (.null) pr (xs_sI (xs_sI s_1 434 ((0 : Int32))) 1924 ((0 : Int32))))) (bc' := 0) (bs' := 0) (fun n g => (h_2_begin_25_9 (.ref 9) ps (.null) pr s  s_1 _ hr_1 (And.intro trivial (And.intro trivial g)))) ?_
  refine mm_re (l' := [(0, .ref 0), (1, .int (0 : Int32))]) (c := [(0, .ref 0), (1, .int (0 : Int32))]) ?_ rfl rfl
  refine xb_11_beginAnew_p2n_l15 h_2_begin_25_9 h_7_fill_53178_138 h_1_lift_p2n h_1_lay_9_p2n  ((0 : Int32), (xs_sI (xs_sI s_1 434 ((0 : Int32))) 1924 ((0 : Int32)))) x_2 hl_2 ?_
  obtain ⟨s_2, rfl⟩ : ∃ q, q = x_2 := ⟨_, rfl⟩
  obtain ⟨s_3, hr_3, hf⟩ := mo_bind hf
  obtain ⟨s_4, hr_4, hf⟩ := mo_bind hf
  obtain ⟨s_5, hr_5, hf⟩ := mo_bind hf
  obtain rfl := Option.some.inj hf
  exact ⟨19, (h_7_fill_53178_138 (.ref 9) ps (.null) pr s_2 ((-1 : Int32)) s_3 _ hr_3 (h_1_lift_p2n (.ref 9) ps pr s_3  s_4 _ hr_4 (h_1_lay_9_p2n (.ref 9) ps pr s_4 ((s_4.1 401)) ((s_4.1 402)) s_5 _ hr_5 hK)))⟩
def xk_11_beginAnew_p2n (C : mm_C) : Prop := ∀ (ps : Value) (pr : Value) (s : xs_S)  (s2 : xs_S) (Q : mm_R), xf_11_beginAnew_p2n s = some s2 → Q (none) (xs_H (.ref 9) ps (.ref 9) pr s2) → C 261 [.ref 0] (xs_H (.ref 9) ps (.null) pr s) Q
set_option maxRecDepth 100000 in
theorem xt_6_readInto_17_u (d : Nat) : xk_6_readInto_17_u (mm_ct xB mm_Mk mm_Fk mm_PC (d + 28)) := fun pt ps pg pr s v s2 Q hf hK => Or.inr (xb_6_readInto_17_u (xt_7_clear_17 xB (d + 24)) (xt_8_scan (d + 24)) (xt_6_kind xB (d + 26)) (xt_6_tellSpeaker xB (d + 23)) (xt_6_tellWord xB (d + 23)) (xt_6_tellPair xB (d + 23)) (xt_6_tellLaw xB (d + 0)) (xt_6_tellNumber xB (d + 23)) (xt_6_conclude xB (d + 25)) s v s2 hf hK)
set_option maxRecDepth 100000 in
theorem xt_11_read_u (d : Nat) : xk_11_read_u (mm_ct xB mm_Mk mm_Fk mm_PC (d + 29)) := fun pr s v s2 Q hf hK => Or.inr (xb_11_read_u (xt_6_readInto_17_u (d + 0)) (xt_11_beginAnew_p017 xB (d + 24)) s v s2 hf hK)
set_option maxRecDepth 100000 in
theorem xt_10_start (B : mm_C) (d : Nat) : xk_10_start (mm_ct B mm_Mk mm_Fk mm_PC (d + 2)) := fun pt ps pg pr s a0 a1 a2 s2 Q hf hK => Or.inr (xb_10_start (xt_fillg B (d + 0)) s a0 a1 a2 s2 hf hK)
set_option maxRecDepth 100000 in
theorem xt_10_swap (B : mm_C) (d : Nat) : xk_10_swap (mm_ct B mm_Mk mm_Fk mm_PC (d + 1)) := fun pt ps pg pr s s2 Q hf hK => Or.inr (xb_10_swap  s s2 hf hK)
set_option maxRecDepth 100000 in
theorem xt_10_leanOn (B : mm_C) (d : Nat) : xk_10_leanOn (mm_ct B mm_Mk mm_Fk mm_PC (d + 5)) := fun pt ps pr s v s2 Q hf hK => Or.inr (xb_10_leanOn (xt_fillg B (d + 3)) (xt_1_open B (d + 0)) (xt_1_after B (d + 3)) (xt_11_isAwake B (d + 2)) (xt_11_leanOf B (d + 2)) (xt_10_swap B (d + 3)) s v s2 hf hK)
set_option maxRecDepth 100000 in
theorem xt_10_leastLean (B : mm_C) (d : Nat) : xk_10_leastLean (mm_ct B mm_Mk mm_Fk mm_PC (d + 6)) := fun pt ps pr s a0 a1 v s2 Q hf hK => Or.inr (xb_10_leastLean (xt_11_isAwake B (d + 3)) (xt_11_leanOf B (d + 3)) (xt_10_start B (d + 3)) (xt_10_leanOn B (d + 0)) s a0 a1 v s2 hf hK)
set_option maxRecDepth 100000 in
theorem xt_11_even (B : mm_C) (d : Nat) : xk_11_even (mm_ct B mm_Mk mm_Fk mm_PC (d + 7)) := fun pt ps pr s a0 v s2 Q hf hK => Or.inr (xb_11_even (xt_10_leastLean B (d + 0)) s a0 v s2 hf hK)
set_option maxRecDepth 100000 in
theorem xt_10_countOn (B : mm_C) (d : Nat) : xk_10_countOn (mm_ct B mm_Mk mm_Fk mm_PC (d + 5)) := fun pt ps pr s s2 Q hf hK => Or.inr (xb_10_countOn (xt_fillg B (d + 3)) (xt_1_open B (d + 0)) (xt_1_after B (d + 3)) (xt_11_isAwake B (d + 2)) (xt_10_swap B (d + 3)) s s2 hf hK)
set_option maxRecDepth 100000 in
theorem xt_10_asleepRows (B : mm_C) (d : Nat) : xk_10_asleepRows (mm_ct B mm_Mk mm_Fk mm_PC (d + 6)) := fun pt ps pr s a0 a1 v s2 Q hf hK => Or.inr (xb_10_asleepRows (xt_11_isAwake B (d + 3)) (xt_10_start B (d + 3)) (xt_10_countOn B (d + 0)) s a0 a1 v s2 hf hK)
set_option maxRecDepth 100000 in
theorem xt_11_ways (B : mm_C) (d : Nat) : xk_11_ways (mm_ct B mm_Mk mm_Fk mm_PC (d + 7)) := fun pt ps pr s a0 v s2 Q hf hK => Or.inr (xb_11_ways (xt_10_asleepRows B (d + 0)) s a0 v s2 hf hK)
set_option maxRecDepth 100000 in
theorem xt_10_wakingRows (B : mm_C) (d : Nat) : xk_10_wakingRows (mm_ct B mm_Mk mm_Fk mm_PC (d + 6)) := fun pt ps pr s a0 a1 v s2 Q hf hK => Or.inr (xb_10_wakingRows (xt_10_start B (d + 3)) (xt_10_countOn B (d + 0)) s a0 a1 v s2 hf hK)
set_option maxRecDepth 100000 in
theorem xt_11_waking (B : mm_C) (d : Nat) : xk_11_waking (mm_ct B mm_Mk mm_Fk mm_PC (d + 7)) := fun pt ps pr s a0 v s2 Q hf hK => Or.inr (xb_11_waking (xt_10_wakingRows B (d + 0)) s a0 v s2 hf hK)
set_option maxRecDepth 100000 in
theorem xt_1_lift_p2n (B : mm_C) (d : Nat) : xk_1_lift_p2n (mm_ct B mm_Mk mm_Fk mm_PC (d + 1)) := fun pt ps pr s s2 Q hf hK => Or.inr (xb_1_lift_p2n  s s2 hf hK)
set_option maxRecDepth 100000 in
theorem xt_11_beginAnew_p2n (B : mm_C) (d : Nat) : xk_11_beginAnew_p2n (mm_ct B mm_Mk mm_Fk mm_PC (d + 4)) := fun ps pr s s2 Q hf hK => Or.inr (xb_11_beginAnew_p2n (xt_2_begin_25_9 B (d + 0)) (xt_7_fill_53178_138 B (d + 2)) (xt_1_lift_p2n B (d + 2)) (xt_1_lay_9_p2n B (d + 1)) s s2 hf hK)
