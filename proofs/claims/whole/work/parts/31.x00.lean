/-! the class, method by method, 0 -/
-- 8_append
noncomputable def xf_8_append_l2 (v1 : Int32) : (Int32 × xs_S) → Option ((Int32 × xs_S) ⊕ ((xs_S))) := fun (w2, s) =>
(if w2 < (0 : Int32) then
some (.inr (s))
else
(if (2000 : Int32) ≤ (s.1 17) then
some (.inr (s))
else
(bif mo_in (s.1 17) 2000 then some (.inl ((w2 + (-8 : Int32)), (xs_sA (xs_sI s 17 (((s.1 17) + (1 : Int32)))) 2 (upd (s.2.1 2) ((s.1 17)).toNatClampNeg ((vp_nar .byte (((v1).toUInt32 >>> ((w2).toUInt32 &&& Int32.toUInt32 31)).toInt32).toInt8.toInt32)))))) else none)))
set_option maxHeartbeats 4000000 in
theorem xb_8_append_l2 {C : mm_C} {Q : mm_R} {pt : Value} {ps : Value} {pg : Value} {pr : Value}  (v1 : Int32) (t : Int32 × xs_S) (x : (xs_S)) (hl : mo_loop (xf_8_append_l2 v1) t = some x) (hK : (fun sy => mm_go C mm_Mk mm_Fk P_X8_append Q (P_X8_append.drop 25) [] [] (xs_H pt ps pg pr sy) 0 0) x) : (mo_c2 (fun y2 sy => mm_go C mm_Mk mm_Fk P_X8_append Q (P_X8_append.drop 2) [(0, .ref 1), (1, .int v1), (2, .int y2)] [] (xs_H pt ps pg pr sy) 0 0)) t := by
  refine mo_loop_go (G := (mo_c2 (fun y2 sy => mm_go C mm_Mk mm_Fk P_X8_append Q (P_X8_append.drop 2) [(0, .ref 1), (1, .int v1), (2, .int y2)] [] (xs_H pt ps pg pr sy) 0 0)) ) (K := (fun sy => mm_go C mm_Mk mm_Fk P_X8_append Q (P_X8_append.drop 25) [] [] (xs_H pt ps pg pr sy) 0 0) ) ?_ t x hl hK
  intro t r hf hK
  obtain ⟨w2, s⟩ := t
  unfold xf_8_append_l2 at hf
  by_cases c_1 : w2 < (0 : Int32)
  · have hf := mo_pos hf c_1
    obtain rfl := Option.some.inj hf
    refine mm_adv 2 (cs' := P_X8_append.drop 25) (l' := [(0, .ref 1), (1, .int v1), (2, .int w2)]) (st' := []) (h' := (xs_H pt ps pg pr s)) (bc' := 0) (bs' := 0) (fun n g => (And.intro (fun _ => g) (fun q => absurd c_1 q))) ?_
    exact mm_re (c := []) hK rfl rfl
  · have hf := mo_neg hf c_1
    by_cases c_2 : (2000 : Int32) ≤ (s.1 17)
    · have hf := mo_pos hf c_2
      obtain rfl := Option.some.inj hf
      refine mm_adv 6 (cs' := P_X8_append.drop 25) (l' := [(0, .ref 1), (1, .int v1), (2, .int w2)]) (st' := []) (h' := (xs_H pt ps pg pr s)) (bc' := 0) (bs' := 0) (fun n g => (And.intro (fun q => absurd q c_1) (fun _ => (And.intro (fun _ => g) (fun q => absurd c_2 q))))) ?_
      exact mm_re (c := []) hK rfl rfl
    · have hf := mo_neg hf c_2
      obtain ⟨hi_3, hf⟩ := mo_if hf
      obtain rfl := Option.some.inj hf
      refine mm_adv 23 (cs' := P_X8_append.drop 2) (l' := [(2, .int (w2 + (-8 : Int32))), (0, .ref 1), (1, .int v1)]) (st' := []) (h' := (xs_H pt ps pg pr (xs_sA (xs_sI s 17 (((s.1 17) + (1 : Int32)))) 2 (upd (s.2.1 2) ((s.1 17)).toNatClampNeg ((vp_nar .byte (((v1).toUInt32 >>> ((w2).toUInt32 &&& Int32.toUInt32 31)).toInt32).toInt8.toInt32)))))) (bc' := 0) (bs' := 0) (fun n g => (And.intro (fun q => absurd q c_1) (fun _ => (And.intro (fun q => absurd q c_2) (fun _ => (And.intro hi_3 (And.intro trivial g))))))) ?_
      exact mm_re (c := [(0, .ref 1), (1, .int v1), (2, .int (w2 + (-8 : Int32)))]) hK rfl rfl
noncomputable def xf_8_append (s : xs_S) (a0 : Int32) : Option (xs_S) :=
((mo_loop (xf_8_append_l2 (a0)) ((24 : Int32), s)).bind fun s_4 =>
some s_4)
set_option maxHeartbeats 4000000 in
theorem xb_8_append {C : mm_C} {Q : mm_R} {pt : Value} {ps : Value} {pg : Value} {pr : Value}  (s : xs_S) (a0 : Int32) (s2 : xs_S) (hf : xf_8_append s a0 = some s2) (hK : Q (none) (xs_H pt ps pg pr s2)) : mm_go C mm_Mk mm_Fk P_X8_append Q P_X8_append [(0, .ref 1), (1, .int a0)] [] (xs_H pt ps pg pr s) 0 0 := by
  unfold xf_8_append at hf
  obtain ⟨x_4, hl_4, hf⟩ := mo_bind hf
  refine mm_adv 2 (cs' := P_X8_append.drop 2) (l' := [(2, .int (24 : Int32)), (0, .ref 1), (1, .int a0)]) (st' := []) (h' := (xs_H pt ps pg pr s)) (bc' := 0) (bs' := 0) (fun n g => g) ?_
  refine mm_re (l' := [(0, .ref 1), (1, .int a0), (2, .int (24 : Int32))]) (c := [(0, .ref 1), (1, .int a0), (2, .int (24 : Int32))]) ?_ rfl rfl
  refine xb_8_append_l2  (a0) ((24 : Int32), s) x_4 hl_4 ?_
  obtain ⟨s_4, rfl⟩ : ∃ q, q = x_4 := ⟨_, rfl⟩
  obtain rfl := Option.some.inj hf
  exact ⟨1, hK⟩
def xk_8_append (C : mm_C) : Prop := ∀ (pt : Value) (ps : Value) (pg : Value) (pr : Value) (s : xs_S) (a0 : Int32) (s2 : xs_S) (Q : mm_R), xf_8_append s a0 = some s2 → Q (none) (xs_H pt ps pg pr s2) → C 196 [.ref 1, .int a0] (xs_H pt ps pg pr s) Q
set_option maxRecDepth 100000 in
theorem xt_8_append (B : mm_C) (d : Nat) : xk_8_append (mm_ct B mm_Mk mm_Fk mm_PC (d + 1)) := fun pt ps pg pr s a0 s2 Q hf hK => Or.inr (xb_8_append  s a0 s2 hf hK)
-- 11_feed
noncomputable def xf_11_feed (s : xs_S) (a0 : Int32) (a1 : Int32) (a2 : Int32) (a3 : Int32) (a4 : Int32) : Option (Int32 × xs_S) :=
(if ((s.1 17) + (20 : Int32)) ≤ (2000 : Int32) then
((xf_8_append s (a0)).bind fun s_2 =>
((xf_8_append s_2 (a1)).bind fun s_3 =>
((xf_8_append s_3 (a2)).bind fun s_4 =>
((xf_8_append s_4 (a3)).bind fun s_5 =>
((xf_8_append s_5 (a4)).bind fun s_6 =>
some ((s_6.1 17), s_6))))))
else
some ((-1 : Int32), s))
set_option maxHeartbeats 4000000 in
theorem xb_11_feed {C : mm_C} {Q : mm_R} {pt : Value} {ps : Value} {pg : Value} {pr : Value} (h_8_append : xk_8_append C) (s : xs_S) (a0 : Int32) (a1 : Int32) (a2 : Int32) (a3 : Int32) (a4 : Int32) (v : Int32) (s2 : xs_S) (hf : xf_11_feed s a0 a1 a2 a3 a4 = some (v, s2)) (hK : Q (some (.int v)) (xs_H pt ps pg pr s2)) : mm_go C mm_Mk mm_Fk P_X11_feed Q P_X11_feed [(0, .ref 0), (1, .int a0), (2, .int a1), (3, .int a2), (4, .int a3), (5, .int a4)] [] (xs_H pt ps pg pr s) 0 0 := by
  unfold xf_11_feed at hf
  by_cases c_1 : ((s.1 17) + (20 : Int32)) ≤ (2000 : Int32)
  · have hf := mo_pos hf c_1
    obtain ⟨s_2, hr_2, hf⟩ := mo_bind hf
    obtain ⟨s_3, hr_3, hf⟩ := mo_bind hf
    obtain ⟨s_4, hr_4, hf⟩ := mo_bind hf
    obtain ⟨s_5, hr_5, hf⟩ := mo_bind hf
    obtain ⟨s_6, hr_6, hf⟩ := mo_bind hf
    obtain ⟨rfl, rfl⟩ := mo_pair hf
    exact ⟨31, (And.intro (fun _ => (h_8_append pt ps pg pr s (a0) s_2 _ hr_2 (h_8_append pt ps pg pr s_2 (a1) s_3 _ hr_3 (h_8_append pt ps pg pr s_3 (a2) s_4 _ hr_4 (h_8_append pt ps pg pr s_4 (a3) s_5 _ hr_5 (h_8_append pt ps pg pr s_5 (a4) s_6 _ hr_6 hK)))))) (fun q => absurd c_1 q))⟩
  · have hf := mo_neg hf c_1
    obtain ⟨rfl, rfl⟩ := mo_pair hf
    exact ⟨9, (And.intro (fun q => absurd q c_1) (fun _ => hK))⟩
def xk_11_feed (C : mm_C) : Prop := ∀ (pt : Value) (ps : Value) (pg : Value) (pr : Value) (s : xs_S) (a0 : Int32) (a1 : Int32) (a2 : Int32) (a3 : Int32) (a4 : Int32) (v : Int32) (s2 : xs_S) (Q : mm_R), xf_11_feed s a0 a1 a2 a3 a4 = some (v, s2) → Q (some (.int v)) (xs_H pt ps pg pr s2) → C 225 [.ref 0, .int a0, .int a1, .int a2, .int a3, .int a4] (xs_H pt ps pg pr s) Q
set_option maxRecDepth 100000 in
theorem xt_11_feed (B : mm_C) (d : Nat) : xk_11_feed (mm_ct B mm_Mk mm_Fk mm_PC (d + 2)) := fun pt ps pg pr s a0 a1 a2 a3 a4 v s2 Q hf hK => Or.inr (xb_11_feed (xt_8_append B (d + 0)) s a0 a1 a2 a3 a4 v s2 hf hK)
-- 11_back
noncomputable def xf_11_back (s : xs_S) (a0 : Int32) : Option (Int32 × xs_S) :=
(if a0 < (0 : Int32) then
some ((-1 : Int32), s)
else
(if a0 ≤ (s.1 17) then
some (((s.1 17) - a0), (xs_sI s 17 (((s.1 17) - a0))))
else
some ((-1 : Int32), s)))
set_option maxHeartbeats 4000000 in
theorem xb_11_back {C : mm_C} {Q : mm_R} {pt : Value} {ps : Value} {pg : Value} {pr : Value}  (s : xs_S) (a0 : Int32) (v : Int32) (s2 : xs_S) (hf : xf_11_back s a0 = some (v, s2)) (hK : Q (some (.int v)) (xs_H pt ps pg pr s2)) : mm_go C mm_Mk mm_Fk P_X11_back Q P_X11_back [(0, .ref 0), (1, .int a0)] [] (xs_H pt ps pg pr s) 0 0 := by
  unfold xf_11_back at hf
  by_cases c_1 : a0 < (0 : Int32)
  · have hf := mo_pos hf c_1
    obtain ⟨rfl, rfl⟩ := mo_pair hf
    exact ⟨4, (And.intro (fun _ => hK) (fun q => absurd c_1 q))⟩
  · have hf := mo_neg hf c_1
    by_cases c_2 : a0 ≤ (s.1 17)
    · have hf := mo_pos hf c_2
      obtain ⟨rfl, rfl⟩ := mo_pair hf
      exact ⟨18, (And.intro (fun q => absurd q c_1) (fun _ => (And.intro (fun _ => (And.intro trivial hK)) (fun q => absurd c_2 q))))⟩
    · have hf := mo_neg hf c_2
      obtain ⟨rfl, rfl⟩ := mo_pair hf
      exact ⟨9, (And.intro (fun q => absurd q c_1) (fun _ => (And.intro (fun q => absurd q c_2) (fun _ => hK))))⟩
def xk_11_back (C : mm_C) : Prop := ∀ (pt : Value) (ps : Value) (pg : Value) (pr : Value) (s : xs_S) (a0 : Int32) (v : Int32) (s2 : xs_S) (Q : mm_R), xf_11_back s a0 = some (v, s2) → Q (some (.int v)) (xs_H pt ps pg pr s2) → C 226 [.ref 0, .int a0] (xs_H pt ps pg pr s) Q
set_option maxRecDepth 100000 in
theorem xt_11_back (B : mm_C) (d : Nat) : xk_11_back (mm_ct B mm_Mk mm_Fk mm_PC (d + 1)) := fun pt ps pg pr s a0 v s2 Q hf hK => Or.inr (xb_11_back  s a0 v s2 hf hK)
-- 7_fill_53178_22
noncomputable def xf_7_fill_53178_22_l5 (v1 : Int32) (v3 : Int32) : (Int32 × xs_S) → Option ((Int32 × xs_S) ⊕ ((xs_S))) := fun (w2, s) =>
(if v3 ≤ w2 then
some (.inr (s))
else
(bif mo_in w2 4 then some (.inl ((w2 + (1 : Int32)), (xs_sA s 22 (upd (s.2.1 22) (w2).toNatClampNeg (v1))))) else none))
set_option maxHeartbeats 4000000 in
theorem xb_7_fill_53178_22_l5 {C : mm_C} {Q : mm_R} {pt : Value} {ps : Value} {pg : Value} {pr : Value}  (v1 : Int32) (v3 : Int32) (t : Int32 × xs_S) (x : (xs_S)) (hl : mo_loop (xf_7_fill_53178_22_l5 v1 v3) t = some x) (hK : (fun sy => mm_go C mm_Mk mm_Fk P_J7_fill_53178 Q (P_J7_fill_53178.drop 14) [] [] (xs_H pt ps pg pr sy) 0 0) x) : (mo_c2 (fun y2 sy => mm_go C mm_Mk mm_Fk P_J7_fill_53178 Q (P_J7_fill_53178.drop 5) [(0, .ref 22), (1, .int v1), (2, .int y2), (3, .int v3)] [] (xs_H pt ps pg pr sy) 0 0)) t := by
  refine mo_loop_go (G := (mo_c2 (fun y2 sy => mm_go C mm_Mk mm_Fk P_J7_fill_53178 Q (P_J7_fill_53178.drop 5) [(0, .ref 22), (1, .int v1), (2, .int y2), (3, .int v3)] [] (xs_H pt ps pg pr sy) 0 0)) ) (K := (fun sy => mm_go C mm_Mk mm_Fk P_J7_fill_53178 Q (P_J7_fill_53178.drop 14) [] [] (xs_H pt ps pg pr sy) 0 0) ) ?_ t x hl hK
  intro t r hf hK
  obtain ⟨w2, s⟩ := t
  unfold xf_7_fill_53178_22_l5 at hf
  by_cases c_1 : v3 ≤ w2
  · have hf := mo_pos hf c_1
    obtain rfl := Option.some.inj hf
    refine mm_adv 3 (cs' := P_J7_fill_53178.drop 14) (l' := [(0, .ref 22), (1, .int v1), (2, .int w2), (3, .int v3)]) (st' := []) (h' := (xs_H pt ps pg pr s)) (bc' := 0) (bs' := 0) (fun n g => (And.intro (fun _ => g) (fun q => absurd c_1 q))) ?_
    exact mm_re (c := []) hK rfl rfl
  · have hf := mo_neg hf c_1
    obtain ⟨hi_2, hf⟩ := mo_if hf
    obtain rfl := Option.some.inj hf
    refine mm_adv 9 (cs' := P_J7_fill_53178.drop 5) (l' := [(2, .int (w2 + (1 : Int32))), (0, .ref 22), (1, .int v1), (3, .int v3)]) (st' := []) (h' := (xs_H pt ps pg pr (xs_sA s 22 (upd (s.2.1 22) (w2).toNatClampNeg (v1))))) (bc' := 0) (bs' := 0) (fun n g => (And.intro (fun q => absurd q c_1) (fun _ => (And.intro hi_2 g)))) ?_
    exact mm_re (c := [(0, .ref 22), (1, .int v1), (2, .int (w2 + (1 : Int32))), (3, .int v3)]) hK rfl rfl
noncomputable def xf_7_fill_53178_22 (s : xs_S) (a1 : Int32) : Option (xs_S) :=
((mo_loop (xf_7_fill_53178_22_l5 (a1) ((Int32.ofNat 4))) ((0 : Int32), s)).bind fun s_3 =>
some s_3)
set_option maxHeartbeats 4000000 in
theorem xb_7_fill_53178_22 {C : mm_C} {Q : mm_R} {pt : Value} {ps : Value} {pg : Value} {pr : Value}  (s : xs_S) (a1 : Int32) (s2 : xs_S) (hf : xf_7_fill_53178_22 s a1 = some s2) (hK : Q (none) (xs_H pt ps pg pr s2)) : mm_go C mm_Mk mm_Fk P_J7_fill_53178 Q P_J7_fill_53178 [(0, .ref 22), (1, .int a1)] [] (xs_H pt ps pg pr s) 0 0 := by
  unfold xf_7_fill_53178_22 at hf
  obtain ⟨x_3, hl_3, hf⟩ := mo_bind hf
  refine mm_adv 5 (cs' := P_J7_fill_53178.drop 5) (l' := [(3, .int (Int32.ofNat 4)), (2, .int (0 : Int32)), (0, .ref 22), (1, .int a1)]) (st' := []) (h' := (xs_H pt ps pg pr s)) (bc' := 0) (bs' := 0) (fun n g => g) ?_
  refine mm_re (l' := [(0, .ref 22), (1, .int a1), (2, .int (0 : Int32)), (3, .int (Int32.ofNat 4))]) (c := [(0, .ref 22), (1, .int a1), (2, .int (0 : Int32)), (3, .int (Int32.ofNat 4))]) ?_ rfl rfl
  refine xb_7_fill_53178_22_l5  (a1) ((Int32.ofNat 4)) ((0 : Int32), s) x_3 hl_3 ?_
  obtain ⟨s_3, rfl⟩ : ∃ q, q = x_3 := ⟨_, rfl⟩
  obtain rfl := Option.some.inj hf
  exact ⟨1, hK⟩
def xk_7_fill_53178_22 (C : mm_C) : Prop := ∀ (pt : Value) (ps : Value) (pg : Value) (pr : Value) (s : xs_S) (a1 : Int32) (s2 : xs_S) (Q : mm_R), xf_7_fill_53178_22 s a1 = some s2 → Q (none) (xs_H pt ps pg pr s2) → C 123 [.ref 22, .int a1] (xs_H pt ps pg pr s) Q
set_option maxRecDepth 100000 in
theorem xt_7_fill_53178_22 (B : mm_C) (d : Nat) : xk_7_fill_53178_22 (mm_ct B mm_Mk mm_Fk mm_PC (d + 1)) := fun pt ps pg pr s a1 s2 Q hf hK => Or.inr (xb_7_fill_53178_22  s a1 s2 hf hK)
-- 3_clear_20
noncomputable def xf_3_clear_20 (s : xs_S)  : Option (xs_S) :=
((xf_7_fill_53178_22 (xs_sI s 321 ((0 : Int32))) ((-1 : Int32))).bind fun s_1 =>
some s_1)
set_option maxHeartbeats 4000000 in
theorem xb_3_clear_20 {C : mm_C} {Q : mm_R} {pt : Value} {ps : Value} {pg : Value} {pr : Value} (h_7_fill_53178_22 : xk_7_fill_53178_22 C) (s : xs_S)  (s2 : xs_S) (hf : xf_3_clear_20 s = some s2) (hK : Q (none) (xs_H pt ps pg pr s2)) : mm_go C mm_Mk mm_Fk P_X3_clear Q P_X3_clear [(0, .ref 20)] [] (xs_H pt ps pg pr s) 0 0 := by
  unfold xf_3_clear_20 at hf
  obtain ⟨s_1, hr_1, hf⟩ := mo_bind hf
  obtain rfl := Option.some.inj hf
  exact ⟨8, (And.intro trivial (h_7_fill_53178_22 pt ps pg pr (xs_sI s 321 ((0 : Int32))) ((-1 : Int32)) s_1 _ hr_1 hK))⟩
def xk_3_clear_20 (C : mm_C) : Prop := ∀ (pt : Value) (ps : Value) (pg : Value) (pr : Value) (s : xs_S)  (s2 : xs_S) (Q : mm_R), xf_3_clear_20 s = some s2 → Q (none) (xs_H pt ps pg pr s2) → C 151 [.ref 20] (xs_H pt ps pg pr s) Q
set_option maxRecDepth 100000 in
theorem xt_3_clear_20 (B : mm_C) (d : Nat) : xk_3_clear_20 (mm_ct B mm_Mk mm_Fk mm_PC (d + 2)) := fun pt ps pg pr s s2 Q hf hK => Or.inr (xb_3_clear_20 (xt_7_fill_53178_22 B (d + 0)) s s2 hf hK)
-- 7_clear_17
noncomputable def xf_7_clear_17 (s : xs_S)  : Option (xs_S) :=
((xf_3_clear_20 s ).bind fun s_1 =>
some (xs_sI (xs_sI (xs_sI (xs_sI (xs_sI (xs_sI s_1 275 ((0 : Int32))) 276 ((0 : Int32))) 277 ((-1 : Int32))) 278 ((-1 : Int32))) 279 ((10 : Int32))) 280 ((0 : Int32))))
set_option maxHeartbeats 4000000 in
theorem xb_7_clear_17 {C : mm_C} {Q : mm_R} {pt : Value} {ps : Value} {pg : Value} {pr : Value} (h_3_clear_20 : xk_3_clear_20 C) (s : xs_S)  (s2 : xs_S) (hf : xf_7_clear_17 s = some s2) (hK : Q (none) (xs_H pt ps pg pr s2)) : mm_go C mm_Mk mm_Fk P_X7_clear Q P_X7_clear [(0, .ref 17)] [] (xs_H pt ps pg pr s) 0 0 := by
  unfold xf_7_clear_17 at hf
  obtain ⟨s_1, hr_1, hf⟩ := mo_bind hf
  obtain rfl := Option.some.inj hf
  exact ⟨22, (h_3_clear_20 pt ps pg pr s  s_1 _ hr_1 (And.intro trivial (And.intro trivial (And.intro trivial (And.intro trivial (And.intro trivial (And.intro trivial hK)))))))⟩
def xk_7_clear_17 (C : mm_C) : Prop := ∀ (pt : Value) (ps : Value) (pg : Value) (pr : Value) (s : xs_S)  (s2 : xs_S) (Q : mm_R), xf_7_clear_17 s = some s2 → Q (none) (xs_H pt ps pg pr s2) → C 188 [.ref 17] (xs_H pt ps pg pr s) Q
set_option maxRecDepth 100000 in
theorem xt_7_clear_17 (B : mm_C) (d : Nat) : xk_7_clear_17 (mm_ct B mm_Mk mm_Fk mm_PC (d + 3)) := fun pt ps pg pr s s2 Q hf hK => Or.inr (xb_7_clear_17 (xt_3_clear_20 B (d + 0)) s s2 hf hK)
-- 8_isBlank
noncomputable def xf_8_isBlank (a0 : Int32) : Option (Int32) :=
(if a0 = (9 : Int32) then
some ((1 : Int32))
else
(if a0 = (10 : Int32) then
some ((1 : Int32))
else
(if a0 = (13 : Int32) then
some ((1 : Int32))
else
(if a0 = (32 : Int32) then
some ((1 : Int32))
else
some ((0 : Int32))))))
set_option maxHeartbeats 4000000 in
theorem xb_8_isBlank {C : mm_C} {Q : mm_R}  {h : mm_H} (a0 : Int32) (v : Int32) (hf : xf_8_isBlank a0 = some v) (hK : Q (some (.int v)) h) : mm_go C mm_Mk mm_Fk P_X8_isBlank Q P_X8_isBlank [(0, .int a0)] [] h 0 0 := by
  unfold xf_8_isBlank at hf
  by_cases c_1 : a0 = (9 : Int32)
  · have hf := mo_pos hf c_1
    obtain rfl := Option.some.inj hf
    exact ⟨6, (And.intro (fun _ => (And.intro rfl hK)) (fun q => absurd c_1 q))⟩
  · have hf := mo_neg hf c_1
    by_cases c_2 : a0 = (10 : Int32)
    · have hf := mo_pos hf c_2
      obtain rfl := Option.some.inj hf
      exact ⟨9, (And.intro (fun q => absurd q c_1) (fun _ => (And.intro (fun _ => (And.intro rfl hK)) (fun q => absurd c_2 q))))⟩
    · have hf := mo_neg hf c_2
      by_cases c_3 : a0 = (13 : Int32)
      · have hf := mo_pos hf c_3
        obtain rfl := Option.some.inj hf
        exact ⟨12, (And.intro (fun q => absurd q c_1) (fun _ => (And.intro (fun q => absurd q c_2) (fun _ => (And.intro (fun _ => (And.intro rfl hK)) (fun q => absurd c_3 q))))))⟩
      · have hf := mo_neg hf c_3
        by_cases c_4 : a0 = (32 : Int32)
        · have hf := mo_pos hf c_4
          obtain rfl := Option.some.inj hf
          exact ⟨15, (And.intro (fun q => absurd q c_1) (fun _ => (And.intro (fun q => absurd q c_2) (fun _ => (And.intro (fun q => absurd q c_3) (fun _ => (And.intro (fun q => absurd c_4 q) (fun _ => (And.intro rfl hK)))))))))⟩
        · have hf := mo_neg hf c_4
          obtain rfl := Option.some.inj hf
          exact ⟨14, (And.intro (fun q => absurd q c_1) (fun _ => (And.intro (fun q => absurd q c_2) (fun _ => (And.intro (fun q => absurd q c_3) (fun _ => (And.intro (fun _ => (And.intro rfl hK)) (fun q => absurd c_4 q))))))))⟩
def xk_8_isBlank (C : mm_C) : Prop := ∀ (h : mm_H) (a0 : Int32) (v : Int32) (Q : mm_R), xf_8_isBlank a0 = some v → Q (some (.int v)) h → C 205 [.int a0] h Q
set_option maxRecDepth 100000 in
theorem xt_8_isBlank (B : mm_C) (d : Nat) : xk_8_isBlank (mm_ct B mm_Mk mm_Fk mm_PC (d + 1)) := fun h a0 v Q hf hK => Or.inr (xb_8_isBlank  a0 v hf hK)
-- 8_afterBlanks
noncomputable def xf_8_afterBlanks_l2  : (Int32 × xs_S) → Option ((Int32 × xs_S) ⊕ ((Int32 × xs_S))) := fun (w2, s) =>
(if (s.1 17) ≤ w2 then
some (.inr (w2, s))
else
((mo_ag 2000 (s.2.1 2) w2).bind fun x_2 =>
((xf_8_isBlank (x_2)).bind fun v_3 =>
(if v_3 = (0 : Int32) then
some (.inr (w2, s))
else
some (.inl ((w2 + (1 : Int32)), s))))))
set_option maxHeartbeats 4000000 in
theorem xb_8_afterBlanks_l2 {C : mm_C} {Q : mm_R} {pt : Value} {ps : Value} {pg : Value} {pr : Value} (h_8_isBlank : xk_8_isBlank C)  (t : Int32 × xs_S) (x : (Int32 × xs_S)) (hl : mo_loop (xf_8_afterBlanks_l2 ) t = some x) (hK : (mo_c2 (fun y2 sy => mm_go C mm_Mk mm_Fk P_X8_afterBlanks Q (P_X8_afterBlanks.drop 14) [(2, .int y2)] [] (xs_H pt ps pg pr sy) 0 0)) x) : (mo_c2 (fun y2 sy => mm_go C mm_Mk mm_Fk P_X8_afterBlanks Q (P_X8_afterBlanks.drop 2) [(0, .ref 1), (2, .int y2)] [] (xs_H pt ps pg pr sy) 0 0)) t := by
  refine mo_loop_go (G := (mo_c2 (fun y2 sy => mm_go C mm_Mk mm_Fk P_X8_afterBlanks Q (P_X8_afterBlanks.drop 2) [(0, .ref 1), (2, .int y2)] [] (xs_H pt ps pg pr sy) 0 0)) ) (K := (mo_c2 (fun y2 sy => mm_go C mm_Mk mm_Fk P_X8_afterBlanks Q (P_X8_afterBlanks.drop 14) [(2, .int y2)] [] (xs_H pt ps pg pr sy) 0 0)) ) ?_ t x hl hK
  intro t r hf hK
  obtain ⟨w2, s⟩ := t
  unfold xf_8_afterBlanks_l2 at hf
  by_cases c_1 : (s.1 17) ≤ w2
  · have hf := mo_pos hf c_1
    obtain rfl := Option.some.inj hf
    refine mm_adv 4 (cs' := P_X8_afterBlanks.drop 14) (l' := [(0, .ref 1), (2, .int w2)]) (st' := []) (h' := (xs_H pt ps pg pr s)) (bc' := 0) (bs' := 0) (fun n g => (And.intro (fun _ => g) (fun q => absurd c_1 q))) ?_
    exact mm_re (c := [(2, .int w2)]) hK rfl rfl
  · have hf := mo_neg hf c_1
    obtain ⟨x_2, hx_2, hf⟩ := mo_bind hf
    obtain ⟨hi_2, rfl⟩ := mo_ag_inv hx_2
    obtain ⟨v_3, hr_3, hf⟩ := mo_bind hf
    by_cases c_4 : v_3 = (0 : Int32)
    · have hf := mo_pos hf c_4
      obtain rfl := Option.some.inj hf
      refine mm_adv 10 (cs' := P_X8_afterBlanks.drop 14) (l' := [(0, .ref 1), (2, .int w2)]) (st' := []) (h' := (xs_H pt ps pg pr s)) (bc' := 0) (bs' := 0) (fun n g => (And.intro (fun q => absurd q c_1) (fun _ => (And.intro hi_2 (h_8_isBlank _ (((s.2.1 2) (w2).toNatClampNeg)) v_3 _ hr_3 (And.intro (fun _ => g) (fun q => absurd c_4 q))))))) ?_
      exact mm_re (c := [(2, .int w2)]) hK rfl rfl
    · have hf := mo_neg hf c_4
      obtain rfl := Option.some.inj hf
      refine mm_adv 12 (cs' := P_X8_afterBlanks.drop 2) (l' := [(2, .int (w2 + (1 : Int32))), (0, .ref 1)]) (st' := []) (h' := (xs_H pt ps pg pr s)) (bc' := 0) (bs' := 0) (fun n g => (And.intro (fun q => absurd q c_1) (fun _ => (And.intro hi_2 (h_8_isBlank _ (((s.2.1 2) (w2).toNatClampNeg)) v_3 _ hr_3 (And.intro (fun q => absurd q c_4) (fun _ => g))))))) ?_
      exact mm_re (c := [(0, .ref 1), (2, .int (w2 + (1 : Int32)))]) hK rfl rfl
noncomputable def xf_8_afterBlanks (s : xs_S) (a0 : Int32) : Option (Int32 × xs_S) :=
((mo_loop (xf_8_afterBlanks_l2 ) (a0, s)).bind fun (e2_5, s_5) =>
some (e2_5, s_5))
set_option maxHeartbeats 4000000 in
theorem xb_8_afterBlanks {C : mm_C} {Q : mm_R} {pt : Value} {ps : Value} {pg : Value} {pr : Value} (h_8_isBlank : xk_8_isBlank C) (s : xs_S) (a0 : Int32) (v : Int32) (s2 : xs_S) (hf : xf_8_afterBlanks s a0 = some (v, s2)) (hK : Q (some (.int v)) (xs_H pt ps pg pr s2)) : mm_go C mm_Mk mm_Fk P_X8_afterBlanks Q P_X8_afterBlanks [(0, .ref 1), (1, .int a0)] [] (xs_H pt ps pg pr s) 0 0 := by
  unfold xf_8_afterBlanks at hf
  obtain ⟨x_5, hl_5, hf⟩ := mo_bind hf
  refine mm_adv 2 (cs' := P_X8_afterBlanks.drop 2) (l' := [(2, .int a0), (0, .ref 1), (1, .int a0)]) (st' := []) (h' := (xs_H pt ps pg pr s)) (bc' := 0) (bs' := 0) (fun n g => g) ?_
  refine mm_re (l' := [(0, .ref 1), (2, .int a0)]) (c := [(0, .ref 1), (2, .int a0)]) ?_ rfl rfl
  refine xb_8_afterBlanks_l2 h_8_isBlank  (a0, s) x_5 hl_5 ?_
  obtain ⟨e2_5, s_5⟩ := x_5
  obtain ⟨rfl, rfl⟩ := mo_pair hf
  exact ⟨2, hK⟩
def xk_8_afterBlanks (C : mm_C) : Prop := ∀ (pt : Value) (ps : Value) (pg : Value) (pr : Value) (s : xs_S) (a0 : Int32) (v : Int32) (s2 : xs_S) (Q : mm_R), xf_8_afterBlanks s a0 = some (v, s2) → Q (some (.int v)) (xs_H pt ps pg pr s2) → C 199 [.ref 1, .int a0] (xs_H pt ps pg pr s) Q
set_option maxRecDepth 100000 in
theorem xt_8_afterBlanks (B : mm_C) (d : Nat) : xk_8_afterBlanks (mm_ct B mm_Mk mm_Fk mm_PC (d + 2)) := fun pt ps pg pr s a0 v s2 Q hf hK => Or.inr (xb_8_afterBlanks (xt_8_isBlank B (d + 0)) s a0 v s2 hf hK)
-- 8_isLetter
noncomputable def xf_8_isLetter (a0 : Int32) : Option (Int32) :=
(if a0 < (97 : Int32) then
some ((0 : Int32))
else
(if (122 : Int32) < a0 then
some ((0 : Int32))
else
some ((1 : Int32))))
set_option maxHeartbeats 4000000 in
theorem xb_8_isLetter {C : mm_C} {Q : mm_R}  {h : mm_H} (a0 : Int32) (v : Int32) (hf : xf_8_isLetter a0 = some v) (hK : Q (some (.int v)) h) : mm_go C mm_Mk mm_Fk P_X8_isLetter Q P_X8_isLetter [(0, .int a0)] [] h 0 0 := by
  unfold xf_8_isLetter at hf
  by_cases c_1 : a0 < (97 : Int32)
  · have hf := mo_pos hf c_1
    obtain rfl := Option.some.inj hf
    exact ⟨5, (And.intro (fun _ => (And.intro rfl hK)) (fun q => absurd c_1 q))⟩
  · have hf := mo_neg hf c_1
    by_cases c_2 : (122 : Int32) < a0
    · have hf := mo_pos hf c_2
      obtain rfl := Option.some.inj hf
      exact ⟨8, (And.intro (fun q => absurd q c_1) (fun _ => (And.intro (fun _ => (And.intro rfl hK)) (fun q => absurd c_2 q))))⟩
    · have hf := mo_neg hf c_2
      obtain rfl := Option.some.inj hf
      exact ⟨9, (And.intro (fun q => absurd q c_1) (fun _ => (And.intro (fun q => absurd q c_2) (fun _ => (And.intro rfl hK)))))⟩
def xk_8_isLetter (C : mm_C) : Prop := ∀ (h : mm_H) (a0 : Int32) (v : Int32) (Q : mm_R), xf_8_isLetter a0 = some v → Q (some (.int v)) h → C 206 [.int a0] h Q
set_option maxRecDepth 100000 in
theorem xt_8_isLetter (B : mm_C) (d : Nat) : xk_8_isLetter (mm_ct B mm_Mk mm_Fk mm_PC (d + 1)) := fun h a0 v Q hf hK => Or.inr (xb_8_isLetter  a0 v hf hK)
-- 8_isDigit
noncomputable def xf_8_isDigit (a0 : Int32) : Option (Int32) :=
(if a0 < (48 : Int32) then
some ((0 : Int32))
else
(if (57 : Int32) < a0 then
some ((0 : Int32))
else
some ((1 : Int32))))
set_option maxHeartbeats 4000000 in
theorem xb_8_isDigit {C : mm_C} {Q : mm_R}  {h : mm_H} (a0 : Int32) (v : Int32) (hf : xf_8_isDigit a0 = some v) (hK : Q (some (.int v)) h) : mm_go C mm_Mk mm_Fk P_X8_isDigit Q P_X8_isDigit [(0, .int a0)] [] h 0 0 := by
  unfold xf_8_isDigit at hf
  by_cases c_1 : a0 < (48 : Int32)
  · have hf := mo_pos hf c_1
    obtain rfl := Option.some.inj hf
    exact ⟨5, (And.intro (fun _ => (And.intro rfl hK)) (fun q => absurd c_1 q))⟩
  · have hf := mo_neg hf c_1
    by_cases c_2 : (57 : Int32) < a0
    · have hf := mo_pos hf c_2
      obtain rfl := Option.some.inj hf
      exact ⟨8, (And.intro (fun q => absurd q c_1) (fun _ => (And.intro (fun _ => (And.intro rfl hK)) (fun q => absurd c_2 q))))⟩
    · have hf := mo_neg hf c_2
      obtain rfl := Option.some.inj hf
      exact ⟨9, (And.intro (fun q => absurd q c_1) (fun _ => (And.intro (fun q => absurd q c_2) (fun _ => (And.intro rfl hK)))))⟩
def xk_8_isDigit (C : mm_C) : Prop := ∀ (h : mm_H) (a0 : Int32) (v : Int32) (Q : mm_R), xf_8_isDigit a0 = some v → Q (some (.int v)) h → C 207 [.int a0] h Q
set_option maxRecDepth 100000 in
theorem xt_8_isDigit (B : mm_C) (d : Nat) : xk_8_isDigit (mm_ct B mm_Mk mm_Fk mm_PC (d + 1)) := fun h a0 v Q hf hK => Or.inr (xb_8_isDigit  a0 v hf hK)
-- 8_endOf
noncomputable def xf_8_endOf_l28  : (Int32 × xs_S) → Option ((Int32 × xs_S) ⊕ ((Int32 × xs_S))) := fun (w2, s) =>
(if (s.1 17) ≤ w2 then
some (.inr (w2, s))
else
((mo_ag 2000 (s.2.1 2) w2).bind fun x_8 =>
((xf_8_isDigit (x_8)).bind fun v_9 =>
(if v_9 = (0 : Int32) then
some (.inr (w2, s))
else
some (.inl ((w2 + (1 : Int32)), s))))))
set_option maxHeartbeats 4000000 in
theorem xb_8_endOf_l28 {C : mm_C} {Q : mm_R} {pt : Value} {ps : Value} {pg : Value} {pr : Value} (h_8_isLetter : xk_8_isLetter C) (h_8_isDigit : xk_8_isDigit C)  (t : Int32 × xs_S) (x : (Int32 × xs_S)) (hl : mo_loop (xf_8_endOf_l28 ) t = some x) (hK : (mo_c2 (fun y2 sy => mm_go C mm_Mk mm_Fk P_X8_endOf Q (P_X8_endOf.drop 40) [(2, .int y2)] [] (xs_H pt ps pg pr sy) 0 0)) x) : (mo_c2 (fun y2 sy => mm_go C mm_Mk mm_Fk P_X8_endOf Q (P_X8_endOf.drop 28) [(0, .ref 1), (2, .int y2)] [] (xs_H pt ps pg pr sy) 0 0)) t := by
  refine mo_loop_go (G := (mo_c2 (fun y2 sy => mm_go C mm_Mk mm_Fk P_X8_endOf Q (P_X8_endOf.drop 28) [(0, .ref 1), (2, .int y2)] [] (xs_H pt ps pg pr sy) 0 0)) ) (K := (mo_c2 (fun y2 sy => mm_go C mm_Mk mm_Fk P_X8_endOf Q (P_X8_endOf.drop 40) [(2, .int y2)] [] (xs_H pt ps pg pr sy) 0 0)) ) ?_ t x hl hK
  intro t r hf hK
  obtain ⟨w2, s⟩ := t
  unfold xf_8_endOf_l28 at hf
  by_cases c_7 : (s.1 17) ≤ w2
  · have hf := mo_pos hf c_7
    obtain rfl := Option.some.inj hf
    refine mm_adv 4 (cs' := P_X8_endOf.drop 40) (l' := [(0, .ref 1), (2, .int w2)]) (st' := []) (h' := (xs_H pt ps pg pr s)) (bc' := 0) (bs' := 0) (fun n g => (And.intro (fun _ => g) (fun q => absurd c_7 q))) ?_
    exact mm_re (c := [(2, .int w2)]) hK rfl rfl
  · have hf := mo_neg hf c_7
    obtain ⟨x_8, hx_8, hf⟩ := mo_bind hf
    obtain ⟨hi_8, rfl⟩ := mo_ag_inv hx_8
    obtain ⟨v_9, hr_9, hf⟩ := mo_bind hf
    by_cases c_10 : v_9 = (0 : Int32)
    · have hf := mo_pos hf c_10
      obtain rfl := Option.some.inj hf
      refine mm_adv 10 (cs' := P_X8_endOf.drop 40) (l' := [(0, .ref 1), (2, .int w2)]) (st' := []) (h' := (xs_H pt ps pg pr s)) (bc' := 0) (bs' := 0) (fun n g => (And.intro (fun q => absurd q c_7) (fun _ => (And.intro hi_8 (h_8_isDigit _ (((s.2.1 2) (w2).toNatClampNeg)) v_9 _ hr_9 (And.intro (fun _ => g) (fun q => absurd c_10 q))))))) ?_
      exact mm_re (c := [(2, .int w2)]) hK rfl rfl
    · have hf := mo_neg hf c_10
      obtain rfl := Option.some.inj hf
      refine mm_adv 12 (cs' := P_X8_endOf.drop 28) (l' := [(2, .int (w2 + (1 : Int32))), (0, .ref 1)]) (st' := []) (h' := (xs_H pt ps pg pr s)) (bc' := 0) (bs' := 0) (fun n g => (And.intro (fun q => absurd q c_7) (fun _ => (And.intro hi_8 (h_8_isDigit _ (((s.2.1 2) (w2).toNatClampNeg)) v_9 _ hr_9 (And.intro (fun q => absurd q c_10) (fun _ => g))))))) ?_
      exact mm_re (c := [(0, .ref 1), (2, .int (w2 + (1 : Int32)))]) hK rfl rfl
noncomputable def xf_8_endOf_l10  : (Int32 × xs_S) → Option ((Int32 × xs_S) ⊕ ((Int32 × xs_S))) := fun (w2, s) =>
(if (s.1 17) ≤ w2 then
some (.inr (w2, s))
else
((mo_ag 2000 (s.2.1 2) w2).bind fun x_13 =>
((xf_8_isLetter (x_13)).bind fun v_14 =>
(if v_14 = (0 : Int32) then
some (.inr (w2, s))
else
some (.inl ((w2 + (1 : Int32)), s))))))
set_option maxHeartbeats 4000000 in
theorem xb_8_endOf_l10 {C : mm_C} {Q : mm_R} {pt : Value} {ps : Value} {pg : Value} {pr : Value} (h_8_isLetter : xk_8_isLetter C) (h_8_isDigit : xk_8_isDigit C)  (t : Int32 × xs_S) (x : (Int32 × xs_S)) (hl : mo_loop (xf_8_endOf_l10 ) t = some x) (hK : (mo_c2 (fun y2 sy => mm_go C mm_Mk mm_Fk P_X8_endOf Q (P_X8_endOf.drop 40) [(2, .int y2)] [] (xs_H pt ps pg pr sy) 0 0)) x) : (mo_c2 (fun y2 sy => mm_go C mm_Mk mm_Fk P_X8_endOf Q (P_X8_endOf.drop 10) [(0, .ref 1), (2, .int y2)] [] (xs_H pt ps pg pr sy) 0 0)) t := by
  refine mo_loop_go (G := (mo_c2 (fun y2 sy => mm_go C mm_Mk mm_Fk P_X8_endOf Q (P_X8_endOf.drop 10) [(0, .ref 1), (2, .int y2)] [] (xs_H pt ps pg pr sy) 0 0)) ) (K := (mo_c2 (fun y2 sy => mm_go C mm_Mk mm_Fk P_X8_endOf Q (P_X8_endOf.drop 40) [(2, .int y2)] [] (xs_H pt ps pg pr sy) 0 0)) ) ?_ t x hl hK
  intro t r hf hK
  obtain ⟨w2, s⟩ := t
  unfold xf_8_endOf_l10 at hf
  by_cases c_12 : (s.1 17) ≤ w2
  · have hf := mo_pos hf c_12
    obtain rfl := Option.some.inj hf
    refine mm_adv 4 (cs' := P_X8_endOf.drop 40) (l' := [(0, .ref 1), (2, .int w2)]) (st' := []) (h' := (xs_H pt ps pg pr s)) (bc' := 0) (bs' := 0) (fun n g => (And.intro (fun _ => g) (fun q => absurd c_12 q))) ?_
    exact mm_re (c := [(2, .int w2)]) hK rfl rfl
  · have hf := mo_neg hf c_12
    obtain ⟨x_13, hx_13, hf⟩ := mo_bind hf
    obtain ⟨hi_13, rfl⟩ := mo_ag_inv hx_13
    obtain ⟨v_14, hr_14, hf⟩ := mo_bind hf
    by_cases c_15 : v_14 = (0 : Int32)
    · have hf := mo_pos hf c_15
      obtain rfl := Option.some.inj hf
      refine mm_adv 10 (cs' := P_X8_endOf.drop 40) (l' := [(0, .ref 1), (2, .int w2)]) (st' := []) (h' := (xs_H pt ps pg pr s)) (bc' := 0) (bs' := 0) (fun n g => (And.intro (fun q => absurd q c_12) (fun _ => (And.intro hi_13 (h_8_isLetter _ (((s.2.1 2) (w2).toNatClampNeg)) v_14 _ hr_14 (And.intro (fun _ => g) (fun q => absurd c_15 q))))))) ?_
      exact mm_re (c := [(2, .int w2)]) hK rfl rfl
    · have hf := mo_neg hf c_15
      obtain rfl := Option.some.inj hf
      refine mm_adv 12 (cs' := P_X8_endOf.drop 10) (l' := [(2, .int (w2 + (1 : Int32))), (0, .ref 1)]) (st' := []) (h' := (xs_H pt ps pg pr s)) (bc' := 0) (bs' := 0) (fun n g => (And.intro (fun q => absurd q c_12) (fun _ => (And.intro hi_13 (h_8_isLetter _ (((s.2.1 2) (w2).toNatClampNeg)) v_14 _ hr_14 (And.intro (fun q => absurd q c_15) (fun _ => g))))))) ?_
      exact mm_re (c := [(0, .ref 1), (2, .int (w2 + (1 : Int32)))]) hK rfl rfl
noncomputable def xf_8_endOf (s : xs_S) (a0 : Int32) : Option (Int32 × xs_S) :=
((mo_ag 2000 (s.2.1 2) a0).bind fun x_1 =>
((xf_8_isLetter (x_1)).bind fun v_2 =>
(if v_2 = (0 : Int32) then
((mo_ag 2000 (s.2.1 2) a0).bind fun x_4 =>
((xf_8_isDigit (x_4)).bind fun v_5 =>
(if v_5 = (0 : Int32) then
some ((a0 + (1 : Int32)), s)
else
((mo_loop (xf_8_endOf_l28 ) ((a0 + (1 : Int32)), s)).bind fun (e2_11, s_11) =>
some (e2_11, s_11)))))
else
((mo_loop (xf_8_endOf_l10 ) ((a0 + (1 : Int32)), s)).bind fun (e2_16, s_16) =>
some (e2_16, s_16)))))
set_option maxHeartbeats 4000000 in
theorem xb_8_endOf {C : mm_C} {Q : mm_R} {pt : Value} {ps : Value} {pg : Value} {pr : Value} (h_8_isLetter : xk_8_isLetter C) (h_8_isDigit : xk_8_isDigit C) (s : xs_S) (a0 : Int32) (v : Int32) (s2 : xs_S) (hf : xf_8_endOf s a0 = some (v, s2)) (hK : Q (some (.int v)) (xs_H pt ps pg pr s2)) : mm_go C mm_Mk mm_Fk P_X8_endOf Q P_X8_endOf [(0, .ref 1), (1, .int a0)] [] (xs_H pt ps pg pr s) 0 0 := by
  unfold xf_8_endOf at hf
  obtain ⟨x_1, hx_1, hf⟩ := mo_bind hf
  obtain ⟨hi_1, rfl⟩ := mo_ag_inv hx_1
  obtain ⟨v_2, hr_2, hf⟩ := mo_bind hf
  by_cases c_3 : v_2 = (0 : Int32)
  · have hf := mo_pos hf c_3
    obtain ⟨x_4, hx_4, hf⟩ := mo_bind hf
    obtain ⟨hi_4, rfl⟩ := mo_ag_inv hx_4
    obtain ⟨v_5, hr_5, hf⟩ := mo_bind hf
    by_cases c_6 : v_5 = (0 : Int32)
    · have hf := mo_pos hf c_6
      obtain ⟨rfl, rfl⟩ := mo_pair hf
      exact ⟨18, (And.intro hi_1 (h_8_isLetter _ (((s.2.1 2) (a0).toNatClampNeg)) v_2 _ hr_2 (And.intro (fun _ => (And.intro hi_4 (h_8_isDigit _ (((s.2.1 2) (a0).toNatClampNeg)) v_5 _ hr_5 (And.intro (fun _ => hK) (fun q => absurd c_6 q))))) (fun q => absurd c_3 q))))⟩
    · have hf := mo_neg hf c_6
      obtain ⟨x_11, hl_11, hf⟩ := mo_bind hf
      refine mm_adv 16 (cs' := P_X8_endOf.drop 28) (l' := [(2, .int (a0 + (1 : Int32))), (0, .ref 1), (1, .int a0)]) (st' := []) (h' := (xs_H pt ps pg pr s)) (bc' := 0) (bs' := 0) (fun n g => (And.intro hi_1 (h_8_isLetter _ (((s.2.1 2) (a0).toNatClampNeg)) v_2 _ hr_2 (And.intro (fun _ => (And.intro hi_4 (h_8_isDigit _ (((s.2.1 2) (a0).toNatClampNeg)) v_5 _ hr_5 (And.intro (fun q => absurd q c_6) (fun _ => g))))) (fun q => absurd c_3 q))))) ?_
      refine mm_re (l' := [(0, .ref 1), (2, .int (a0 + (1 : Int32)))]) (c := [(0, .ref 1), (2, .int (a0 + (1 : Int32)))]) ?_ rfl rfl
      refine xb_8_endOf_l28 h_8_isLetter h_8_isDigit  ((a0 + (1 : Int32)), s) x_11 hl_11 ?_
      obtain ⟨e2_11, s_11⟩ := x_11
      obtain ⟨rfl, rfl⟩ := mo_pair hf
      exact ⟨2, hK⟩
  · have hf := mo_neg hf c_3
    obtain ⟨x_16, hl_16, hf⟩ := mo_bind hf
    refine mm_adv 10 (cs' := P_X8_endOf.drop 10) (l' := [(2, .int (a0 + (1 : Int32))), (0, .ref 1), (1, .int a0)]) (st' := []) (h' := (xs_H pt ps pg pr s)) (bc' := 0) (bs' := 0) (fun n g => (And.intro hi_1 (h_8_isLetter _ (((s.2.1 2) (a0).toNatClampNeg)) v_2 _ hr_2 (And.intro (fun q => absurd q c_3) (fun _ => g))))) ?_
    refine mm_re (l' := [(0, .ref 1), (2, .int (a0 + (1 : Int32)))]) (c := [(0, .ref 1), (2, .int (a0 + (1 : Int32)))]) ?_ rfl rfl
    refine xb_8_endOf_l10 h_8_isLetter h_8_isDigit  ((a0 + (1 : Int32)), s) x_16 hl_16 ?_
    obtain ⟨e2_16, s_16⟩ := x_16
    obtain ⟨rfl, rfl⟩ := mo_pair hf
    exact ⟨2, hK⟩
def xk_8_endOf (C : mm_C) : Prop := ∀ (pt : Value) (ps : Value) (pg : Value) (pr : Value) (s : xs_S) (a0 : Int32) (v : Int32) (s2 : xs_S) (Q : mm_R), xf_8_endOf s a0 = some (v, s2) → Q (some (.int v)) (xs_H pt ps pg pr s2) → C 200 [.ref 1, .int a0] (xs_H pt ps pg pr s) Q
set_option maxRecDepth 100000 in
theorem xt_8_endOf (B : mm_C) (d : Nat) : xk_8_endOf (mm_ct B mm_Mk mm_Fk mm_PC (d + 2)) := fun pt ps pg pr s a0 v s2 Q hf hK => Or.inr (xb_8_endOf (xt_8_isLetter B (d + 0)) (xt_8_isDigit B (d + 0)) s a0 v s2 hf hK)
-- 11_place
noncomputable def xf_11_place (s : xs_S)  : Option (Int32 × xs_S) :=
some ((s.1 4), s)
set_option maxHeartbeats 4000000 in
theorem xb_11_place {C : mm_C} {Q : mm_R} {pt : Value} {ps : Value} {pg : Value} {pr : Value}  (s : xs_S)  (v : Int32) (s2 : xs_S) (hf : xf_11_place s = some (v, s2)) (hK : Q (some (.int v)) (xs_H pt ps pg pr s2)) : mm_go C mm_Mk mm_Fk P_X11_place Q P_X11_place [(0, .ref 0)] [] (xs_H pt ps pg pr s) 0 0 := by
  unfold xf_11_place at hf
  obtain ⟨rfl, rfl⟩ := mo_pair hf
  exact ⟨3, hK⟩
def xk_11_place (C : mm_C) : Prop := ∀ (pt : Value) (ps : Value) (pg : Value) (pr : Value) (s : xs_S)  (v : Int32) (s2 : xs_S) (Q : mm_R), xf_11_place s = some (v, s2) → Q (some (.int v)) (xs_H pt ps pg pr s2) → C 228 [.ref 0] (xs_H pt ps pg pr s) Q
set_option maxRecDepth 100000 in
theorem xt_11_place (B : mm_C) (d : Nat) : xk_11_place (mm_ct B mm_Mk mm_Fk mm_PC (d + 1)) := fun pt ps pg pr s v s2 Q hf hK => Or.inr (xb_11_place  s v s2 hf hK)
-- 7_hasSpeaker_9
noncomputable def xf_7_hasSpeaker_9 (s : xs_S) (a0 : Int32) : Option (Int32 × xs_S) :=
(if a0 < (0 : Int32) then
some ((0 : Int32), s)
else
(if (s.1 147) ≤ a0 then
some ((0 : Int32), s)
else
some ((1 : Int32), s)))
set_option maxHeartbeats 4000000 in
theorem xb_7_hasSpeaker_9 {C : mm_C} {Q : mm_R} {pt : Value} {ps : Value} {pg : Value} {pr : Value}  (s : xs_S) (a0 : Int32) (v : Int32) (s2 : xs_S) (hf : xf_7_hasSpeaker_9 s a0 = some (v, s2)) (hK : Q (some (.int v)) (xs_H pt ps pg pr s2)) : mm_go C mm_Mk mm_Fk P_X7_hasSpeaker Q P_X7_hasSpeaker [(0, .ref 9), (1, .int a0)] [] (xs_H pt ps pg pr s) 0 0 := by
  unfold xf_7_hasSpeaker_9 at hf
  by_cases c_1 : a0 < (0 : Int32)
  · have hf := mo_pos hf c_1
    obtain ⟨rfl, rfl⟩ := mo_pair hf
    exact ⟨4, (And.intro (fun _ => (And.intro rfl hK)) (fun q => absurd c_1 q))⟩
  · have hf := mo_neg hf c_1
    by_cases c_2 : (s.1 147) ≤ a0
    · have hf := mo_pos hf c_2
      obtain ⟨rfl, rfl⟩ := mo_pair hf
      exact ⟨8, (And.intro (fun q => absurd q c_1) (fun _ => (And.intro (fun _ => (And.intro rfl hK)) (fun q => absurd c_2 q))))⟩
    · have hf := mo_neg hf c_2
      obtain ⟨rfl, rfl⟩ := mo_pair hf
      exact ⟨9, (And.intro (fun q => absurd q c_1) (fun _ => (And.intro (fun q => absurd q c_2) (fun _ => (And.intro rfl hK)))))⟩
def xk_7_hasSpeaker_9 (C : mm_C) : Prop := ∀ (pt : Value) (ps : Value) (pg : Value) (pr : Value) (s : xs_S) (a0 : Int32) (v : Int32) (s2 : xs_S) (Q : mm_R), xf_7_hasSpeaker_9 s a0 = some (v, s2) → Q (some (.int v)) (xs_H pt ps pg pr s2) → C 189 [.ref 9, .int a0] (xs_H pt ps pg pr s) Q
set_option maxRecDepth 100000 in
theorem xt_7_hasSpeaker_9 (B : mm_C) (d : Nat) : xk_7_hasSpeaker_9 (mm_ct B mm_Mk mm_Fk mm_PC (d + 1)) := fun pt ps pg pr s a0 v s2 Q hf hK => Or.inr (xb_7_hasSpeaker_9  s a0 v s2 hf hK)
-- 11_speaker
noncomputable def xf_11_speaker (s : xs_S) (a0 : Int32) (a1 : Int32) : Option (Int32 × xs_S) :=
((xf_7_hasSpeaker_9 s (a0)).bind fun (v_1, s_1) =>
(if v_1 = (0 : Int32) then
some ((-1 : Int32), s_1)
else
(if a1 = (0 : Int32) then
((mo_ag 5 (s_1.2.1 10) a0).bind fun x_4 =>
some (x_4, s_1))
else
(if a1 = (1 : Int32) then
(if a0 = (s_1.1 401) then
some ((0 : Int32), s_1)
else
(if a0 = (s_1.1 402) then
some ((1 : Int32), s_1)
else
some ((-2 : Int32), s_1)))
else
(if a1 = (2 : Int32) then
((mo_ag 5 (s_1.2.1 26) a0).bind fun x_7 =>
some (x_7, s_1))
else
some ((-1 : Int32), s_1))))))
set_option maxHeartbeats 4000000 in
theorem xb_11_speaker {C : mm_C} {Q : mm_R} {ps : Value} {pg : Value} {pr : Value} (h_7_hasSpeaker_9 : xk_7_hasSpeaker_9 C) (s : xs_S) (a0 : Int32) (a1 : Int32) (v : Int32) (s2 : xs_S) (hf : xf_11_speaker s a0 a1 = some (v, s2)) (hK : Q (some (.int v)) (xs_H (.ref 9) ps pg pr s2)) : mm_go C mm_Mk mm_Fk P_X11_speaker Q P_X11_speaker [(0, .ref 0), (1, .int a0), (2, .int a1)] [] (xs_H (.ref 9) ps pg pr s) 0 0 := by
  unfold xf_11_speaker at hf
  obtain ⟨r_1, hr_1, hf⟩ := mo_bind hf
  obtain ⟨v_1, s_1⟩ := r_1
  by_cases c_2 : v_1 = (0 : Int32)
  · have hf := mo_pos hf c_2
    obtain ⟨rfl, rfl⟩ := mo_pair hf
    exact ⟨7, (h_7_hasSpeaker_9 (.ref 9) ps pg pr s (a0) v_1 s_1 _ hr_1 (And.intro (fun q => absurd c_2 q) (fun _ => hK)))⟩
  · have hf := mo_neg hf c_2
    by_cases c_3_0 : a1 = (0 : Int32)
    · have hf := mo_pos hf c_3_0
      obtain ⟨x_4, hx_4, hf⟩ := mo_bind hf
      obtain ⟨hi_4, rfl⟩ := mo_ag_inv hx_4
      obtain ⟨rfl, rfl⟩ := mo_pair hf
      exact ⟨13, (h_7_hasSpeaker_9 (.ref 9) ps pg pr s (a0) v_1 s_1 _ hr_1 (And.intro (fun _ => (And.intro (fun _ => (And.intro hi_4 hK)) (fun q => absurd c_3_0 q))) (fun q => absurd c_2 q)))⟩
    replace hf := mo_neg hf c_3_0
    by_cases c_3_1 : a1 = (1 : Int32)
    · have hf := mo_pos hf c_3_1
      by_cases c_5 : a0 = (s_1.1 401)
      · have hf := mo_pos hf c_5
        obtain ⟨rfl, rfl⟩ := mo_pair hf
        exact ⟨14, (h_7_hasSpeaker_9 (.ref 9) ps pg pr s (a0) v_1 s_1 _ hr_1 (And.intro (fun _ => (And.intro (fun q => absurd q c_3_0) (fun _ => (And.intro (fun _ => (And.intro (fun q => absurd c_5 q) (fun _ => hK))) (fun q => absurd c_3_1 q))))) (fun q => absurd c_2 q)))⟩
      · have hf := mo_neg hf c_5
        by_cases c_6 : a0 = (s_1.1 402)
        · have hf := mo_pos hf c_6
          obtain ⟨rfl, rfl⟩ := mo_pair hf
          exact ⟨20, (h_7_hasSpeaker_9 (.ref 9) ps pg pr s (a0) v_1 s_1 _ hr_1 (And.intro (fun _ => (And.intro (fun q => absurd q c_3_0) (fun _ => (And.intro (fun _ => (And.intro (fun _ => (And.intro (fun q => absurd c_6 q) (fun _ => hK))) (fun q => absurd c_5 q))) (fun q => absurd c_3_1 q))))) (fun q => absurd c_2 q)))⟩
        · have hf := mo_neg hf c_6
          obtain ⟨rfl, rfl⟩ := mo_pair hf
          exact ⟨19, (h_7_hasSpeaker_9 (.ref 9) ps pg pr s (a0) v_1 s_1 _ hr_1 (And.intro (fun _ => (And.intro (fun q => absurd q c_3_0) (fun _ => (And.intro (fun _ => (And.intro (fun _ => (And.intro (fun _ => hK) (fun q => absurd c_6 q))) (fun q => absurd c_5 q))) (fun q => absurd c_3_1 q))))) (fun q => absurd c_2 q)))⟩
    replace hf := mo_neg hf c_3_1
    by_cases c_3_2 : a1 = (2 : Int32)
    · have hf := mo_pos hf c_3_2
      obtain ⟨x_7, hx_7, hf⟩ := mo_bind hf
      obtain ⟨hi_7, rfl⟩ := mo_ag_inv hx_7
      obtain ⟨rfl, rfl⟩ := mo_pair hf
      exact ⟨13, (h_7_hasSpeaker_9 (.ref 9) ps pg pr s (a0) v_1 s_1 _ hr_1 (And.intro (fun _ => (And.intro (fun q => absurd q c_3_0) (fun _ => (And.intro (fun q => absurd q c_3_1) (fun _ => (And.intro (fun _ => (And.intro hi_7 hK)) (fun q => absurd c_3_2 q))))))) (fun q => absurd c_2 q)))⟩
    replace hf := mo_neg hf c_3_2
    obtain ⟨rfl, rfl⟩ := mo_pair hf
    exact ⟨9, (h_7_hasSpeaker_9 (.ref 9) ps pg pr s (a0) v_1 s_1 _ hr_1 (And.intro (fun _ => (And.intro (fun q => absurd q c_3_0) (fun _ => (And.intro (fun q => absurd q c_3_1) (fun _ => (And.intro (fun q => absurd q c_3_2) (fun _ => hK))))))) (fun q => absurd c_2 q)))⟩
def xk_11_speaker (C : mm_C) : Prop := ∀ (ps : Value) (pg : Value) (pr : Value) (s : xs_S) (a0 : Int32) (a1 : Int32) (v : Int32) (s2 : xs_S) (Q : mm_R), xf_11_speaker s a0 a1 = some (v, s2) → Q (some (.int v)) (xs_H (.ref 9) ps pg pr s2) → C 229 [.ref 0, .int a0, .int a1] (xs_H (.ref 9) ps pg pr s) Q
set_option maxRecDepth 100000 in
theorem xt_11_speaker (B : mm_C) (d : Nat) : xk_11_speaker (mm_ct B mm_Mk mm_Fk mm_PC (d + 2)) := fun ps pg pr s a0 a1 v s2 Q hf hK => Or.inr (xb_11_speaker (xt_7_hasSpeaker_9 B (d + 0)) s a0 a1 v s2 hf hK)
-- 7_hasWord_9
noncomputable def xf_7_hasWord_9 (s : xs_S) (a0 : Int32) : Option (Int32 × xs_S) :=
(if a0 < (0 : Int32) then
some ((0 : Int32), s)
else
(if (s.1 148) ≤ a0 then
some ((0 : Int32), s)
else
some ((1 : Int32), s)))
set_option maxHeartbeats 4000000 in
theorem xb_7_hasWord_9 {C : mm_C} {Q : mm_R} {pt : Value} {ps : Value} {pg : Value} {pr : Value}  (s : xs_S) (a0 : Int32) (v : Int32) (s2 : xs_S) (hf : xf_7_hasWord_9 s a0 = some (v, s2)) (hK : Q (some (.int v)) (xs_H pt ps pg pr s2)) : mm_go C mm_Mk mm_Fk P_X7_hasWord Q P_X7_hasWord [(0, .ref 9), (1, .int a0)] [] (xs_H pt ps pg pr s) 0 0 := by
  unfold xf_7_hasWord_9 at hf
  by_cases c_1 : a0 < (0 : Int32)
  · have hf := mo_pos hf c_1
    obtain ⟨rfl, rfl⟩ := mo_pair hf
    exact ⟨4, (And.intro (fun _ => (And.intro rfl hK)) (fun q => absurd c_1 q))⟩
  · have hf := mo_neg hf c_1
    by_cases c_2 : (s.1 148) ≤ a0
    · have hf := mo_pos hf c_2
      obtain ⟨rfl, rfl⟩ := mo_pair hf
      exact ⟨8, (And.intro (fun q => absurd q c_1) (fun _ => (And.intro (fun _ => (And.intro rfl hK)) (fun q => absurd c_2 q))))⟩
    · have hf := mo_neg hf c_2
      obtain ⟨rfl, rfl⟩ := mo_pair hf
      exact ⟨9, (And.intro (fun q => absurd q c_1) (fun _ => (And.intro (fun q => absurd q c_2) (fun _ => (And.intro rfl hK)))))⟩
def xk_7_hasWord_9 (C : mm_C) : Prop := ∀ (pt : Value) (ps : Value) (pg : Value) (pr : Value) (s : xs_S) (a0 : Int32) (v : Int32) (s2 : xs_S) (Q : mm_R), xf_7_hasWord_9 s a0 = some (v, s2) → Q (some (.int v)) (xs_H pt ps pg pr s2) → C 190 [.ref 9, .int a0] (xs_H pt ps pg pr s) Q
set_option maxRecDepth 100000 in
theorem xt_7_hasWord_9 (B : mm_C) (d : Nat) : xk_7_hasWord_9 (mm_ct B mm_Mk mm_Fk mm_PC (d + 1)) := fun pt ps pg pr s a0 v s2 Q hf hK => Or.inr (xb_7_hasWord_9  s a0 v s2 hf hK)
-- 1_hasPair
noncomputable def xf_1_hasPair (s : xs_S)  : Option (Int32 × xs_S) :=
(if (s.1 1873) < (0 : Int32) then
some ((0 : Int32), s)
else
(if (s.1 1874) < (0 : Int32) then
some ((0 : Int32), s)
else
some ((1 : Int32), s)))
set_option maxHeartbeats 4000000 in
theorem xb_1_hasPair {C : mm_C} {Q : mm_R} {pt : Value} {ps : Value} {pr : Value}  (s : xs_S)  (v : Int32) (s2 : xs_S) (hf : xf_1_hasPair s = some (v, s2)) (hK : Q (some (.int v)) (xs_H pt ps (.ref 9) pr s2)) : mm_go C mm_Mk mm_Fk P_X1_hasPair Q P_X1_hasPair [(0, .ref 117)] [] (xs_H pt ps (.ref 9) pr s) 0 0 := by
  unfold xf_1_hasPair at hf
  by_cases c_1 : (s.1 1873) < (0 : Int32)
  · have hf := mo_pos hf c_1
    obtain ⟨rfl, rfl⟩ := mo_pair hf
    exact ⟨8, (And.intro (fun _ => (And.intro rfl hK)) (fun q => absurd c_1 q))⟩
  · have hf := mo_neg hf c_1
    by_cases c_2 : (s.1 1874) < (0 : Int32)
    · have hf := mo_pos hf c_2
      obtain ⟨rfl, rfl⟩ := mo_pair hf
      exact ⟨11, (And.intro (fun q => absurd q c_1) (fun _ => (And.intro (fun _ => (And.intro rfl hK)) (fun q => absurd c_2 q))))⟩
    · have hf := mo_neg hf c_2
      obtain ⟨rfl, rfl⟩ := mo_pair hf
      exact ⟨12, (And.intro (fun q => absurd q c_1) (fun _ => (And.intro (fun q => absurd q c_2) (fun _ => (And.intro rfl hK)))))⟩
def xk_1_hasPair (C : mm_C) : Prop := ∀ (pt : Value) (ps : Value) (pr : Value) (s : xs_S)  (v : Int32) (s2 : xs_S) (Q : mm_R), xf_1_hasPair s = some (v, s2) → Q (some (.int v)) (xs_H pt ps (.ref 9) pr s2) → C 144 [.ref 117] (xs_H pt ps (.ref 9) pr s) Q
set_option maxRecDepth 100000 in
theorem xt_1_hasPair (B : mm_C) (d : Nat) : xk_1_hasPair (mm_ct B mm_Mk mm_Fk mm_PC (d + 1)) := fun pt ps pr s v s2 Q hf hK => Or.inr (xb_1_hasPair  s v s2 hf hK)
-- 11_slopeOf
noncomputable def xf_11_slopeOf (a0 : Int32) : Option (Int32) :=
some ((a0 / (14 : Int32)))
set_option maxHeartbeats 4000000 in
theorem xb_11_slopeOf {C : mm_C} {Q : mm_R}  {h : mm_H} (a0 : Int32) (v : Int32) (hf : xf_11_slopeOf a0 = some v) (hK : Q (some (.int v)) h) : mm_go C mm_Mk mm_Fk P_X11_slopeOf Q P_X11_slopeOf [(0, .int a0)] [] h 0 0 := by
  unfold xf_11_slopeOf at hf
  obtain rfl := Option.some.inj hf
  exact ⟨4, (And.intro (by decide) hK)⟩
def xk_11_slopeOf (C : mm_C) : Prop := ∀ (h : mm_H) (a0 : Int32) (v : Int32) (Q : mm_R), xf_11_slopeOf a0 = some v → Q (some (.int v)) h → C 270 [.int a0] h Q
set_option maxRecDepth 100000 in
theorem xt_11_slopeOf (B : mm_C) (d : Nat) : xk_11_slopeOf (mm_ct B mm_Mk mm_Fk mm_PC (d + 1)) := fun h a0 v Q hf hK => Or.inr (xb_11_slopeOf  a0 v hf hK)
-- 11_isAwake
noncomputable def xf_11_isAwake (a0 : Int32) : Option (Int32) :=
((xf_11_slopeOf (a0)).bind fun v_1 =>
(if v_1 ≤ (0 : Int32) then
some ((1 : Int32))
else
(if v_1 < (20 : Int32) then
some ((0 : Int32))
else
some ((1 : Int32)))))
set_option maxHeartbeats 4000000 in
theorem xb_11_isAwake {C : mm_C} {Q : mm_R} (h_11_slopeOf : xk_11_slopeOf C) {h : mm_H} (a0 : Int32) (v : Int32) (hf : xf_11_isAwake a0 = some v) (hK : Q (some (.int v)) h) : mm_go C mm_Mk mm_Fk P_X11_isAwake Q P_X11_isAwake [(0, .int a0)] [] h 0 0 := by
  unfold xf_11_isAwake at hf
  obtain ⟨v_1, hr_1, hf⟩ := mo_bind hf
  by_cases c_2 : v_1 ≤ (0 : Int32)
  · have hf := mo_pos hf c_2
    obtain rfl := Option.some.inj hf
    exact ⟨8, (h_11_slopeOf _ (a0) v_1 _ hr_1 (And.intro (fun _ => (And.intro rfl hK)) (fun q => absurd c_2 q)))⟩
  · have hf := mo_neg hf c_2
    by_cases c_3 : v_1 < (20 : Int32)
    · have hf := mo_pos hf c_3
      obtain rfl := Option.some.inj hf
      exact ⟨10, (h_11_slopeOf _ (a0) v_1 _ hr_1 (And.intro (fun q => absurd q c_2) (fun _ => (And.intro (fun _ => (And.intro rfl hK)) (fun q => absurd c_3 q)))))⟩
    · have hf := mo_neg hf c_3
      obtain rfl := Option.some.inj hf
      exact ⟨11, (h_11_slopeOf _ (a0) v_1 _ hr_1 (And.intro (fun q => absurd q c_2) (fun _ => (And.intro (fun q => absurd q c_3) (fun _ => (And.intro rfl hK))))))⟩
def xk_11_isAwake (C : mm_C) : Prop := ∀ (h : mm_H) (a0 : Int32) (v : Int32) (Q : mm_R), xf_11_isAwake a0 = some v → Q (some (.int v)) h → C 273 [.int a0] h Q
set_option maxRecDepth 100000 in
theorem xt_11_isAwake (B : mm_C) (d : Nat) : xk_11_isAwake (mm_ct B mm_Mk mm_Fk mm_PC (d + 2)) := fun h a0 v Q hf hK => Or.inr (xb_11_isAwake (xt_11_slopeOf B (d + 0)) a0 v hf hK)
-- 11_lastOf
noncomputable def xf_11_lastOf (a0 : Int32) : Option (Int32) :=
some (((a0 - a0 / (7 : Int32) * (7 : Int32)) - (1 : Int32)))
set_option maxHeartbeats 4000000 in
theorem xb_11_lastOf {C : mm_C} {Q : mm_R}  {h : mm_H} (a0 : Int32) (v : Int32) (hf : xf_11_lastOf a0 = some v) (hK : Q (some (.int v)) h) : mm_go C mm_Mk mm_Fk P_X11_lastOf Q P_X11_lastOf [(0, .int a0)] [] h 0 0 := by
  unfold xf_11_lastOf at hf
  obtain rfl := Option.some.inj hf
  exact ⟨6, (And.intro (by decide) hK)⟩
def xk_11_lastOf (C : mm_C) : Prop := ∀ (h : mm_H) (a0 : Int32) (v : Int32) (Q : mm_R), xf_11_lastOf a0 = some v → Q (some (.int v)) h → C 272 [.int a0] h Q
set_option maxRecDepth 100000 in
theorem xt_11_lastOf (B : mm_C) (d : Nat) : xk_11_lastOf (mm_ct B mm_Mk mm_Fk mm_PC (d + 1)) := fun h a0 v Q hf hK => Or.inr (xb_11_lastOf  a0 v hf hK)
-- 11_turnOf
noncomputable def xf_11_turnOf (a0 : Int32) : Option (Int32) :=
some (((a0 / (7 : Int32)) - (a0 / (7 : Int32)) / (2 : Int32) * (2 : Int32)))
set_option maxHeartbeats 4000000 in
theorem xb_11_turnOf {C : mm_C} {Q : mm_R}  {h : mm_H} (a0 : Int32) (v : Int32) (hf : xf_11_turnOf a0 = some v) (hK : Q (some (.int v)) h) : mm_go C mm_Mk mm_Fk P_X11_turnOf Q P_X11_turnOf [(0, .int a0)] [] h 0 0 := by
  unfold xf_11_turnOf at hf
  obtain rfl := Option.some.inj hf
  exact ⟨6, (And.intro (by decide) (And.intro (by decide) hK))⟩
def xk_11_turnOf (C : mm_C) : Prop := ∀ (h : mm_H) (a0 : Int32) (v : Int32) (Q : mm_R), xf_11_turnOf a0 = some v → Q (some (.int v)) h → C 271 [.int a0] h Q
set_option maxRecDepth 100000 in
theorem xt_11_turnOf (B : mm_C) (d : Nat) : xk_11_turnOf (mm_ct B mm_Mk mm_Fk mm_PC (d + 1)) := fun h a0 v Q hf hK => Or.inr (xb_11_turnOf  a0 v hf hK)
-- 7_tongueOf_9
noncomputable def xf_7_tongueOf_9 (s : xs_S) (a0 : Int32) : Option (Int32 × xs_S) :=
((xf_7_hasSpeaker_9 s (a0)).bind fun (v_1, s_1) =>
(if v_1 = (0 : Int32) then
some ((0 : Int32), s_1)
else
((mo_ag 5 (s_1.2.1 10) a0).bind fun x_3 =>
some (x_3, s_1))))
set_option maxHeartbeats 4000000 in
theorem xb_7_tongueOf_9 {C : mm_C} {Q : mm_R} {pt : Value} {ps : Value} {pg : Value} {pr : Value} (h_7_hasSpeaker_9 : xk_7_hasSpeaker_9 C) (s : xs_S) (a0 : Int32) (v : Int32) (s2 : xs_S) (hf : xf_7_tongueOf_9 s a0 = some (v, s2)) (hK : Q (some (.int v)) (xs_H pt ps pg pr s2)) : mm_go C mm_Mk mm_Fk P_X7_tongueOf Q P_X7_tongueOf [(0, .ref 9), (1, .int a0)] [] (xs_H pt ps pg pr s) 0 0 := by
  unfold xf_7_tongueOf_9 at hf
  obtain ⟨r_1, hr_1, hf⟩ := mo_bind hf
  obtain ⟨v_1, s_1⟩ := r_1
  by_cases c_2 : v_1 = (0 : Int32)
  · have hf := mo_pos hf c_2
    obtain ⟨rfl, rfl⟩ := mo_pair hf
    exact ⟨6, (h_7_hasSpeaker_9 pt ps pg pr s (a0) v_1 s_1 _ hr_1 (And.intro (fun _ => hK) (fun q => absurd c_2 q)))⟩
  · have hf := mo_neg hf c_2
    obtain ⟨x_3, hx_3, hf⟩ := mo_bind hf
    obtain ⟨hi_3, rfl⟩ := mo_ag_inv hx_3
    obtain ⟨rfl, rfl⟩ := mo_pair hf
    exact ⟨10, (h_7_hasSpeaker_9 pt ps pg pr s (a0) v_1 s_1 _ hr_1 (And.intro (fun q => absurd q c_2) (fun _ => (And.intro hi_3 hK))))⟩
def xk_7_tongueOf_9 (C : mm_C) : Prop := ∀ (pt : Value) (ps : Value) (pg : Value) (pr : Value) (s : xs_S) (a0 : Int32) (v : Int32) (s2 : xs_S) (Q : mm_R), xf_7_tongueOf_9 s a0 = some (v, s2) → Q (some (.int v)) (xs_H pt ps pg pr s2) → C 194 [.ref 9, .int a0] (xs_H pt ps pg pr s) Q
set_option maxRecDepth 100000 in
theorem xt_7_tongueOf_9 (B : mm_C) (d : Nat) : xk_7_tongueOf_9 (mm_ct B mm_Mk mm_Fk mm_PC (d + 2)) := fun pt ps pg pr s a0 v s2 Q hf hK => Or.inr (xb_7_tongueOf_9 (xt_7_hasSpeaker_9 B (d + 0)) s a0 v s2 hf hK)
