/-! the class, method by method, 9 -/
-- 6_bitCount_0f7a4
noncomputable def xf_6_bitCount_0f7a4 (a0 : Int32) : Option (Int32) :=
some (((((((((a0 - (((a0).toUInt32 >>> (((1 : Int32)).toUInt32 &&& Int32.toUInt32 31)).toInt32 &&& (1431655765 : Int32))) &&& (858993459 : Int32)) + ((((a0 - (((a0).toUInt32 >>> (((1 : Int32)).toUInt32 &&& Int32.toUInt32 31)).toInt32 &&& (1431655765 : Int32)))).toUInt32 >>> (((2 : Int32)).toUInt32 &&& Int32.toUInt32 31)).toInt32 &&& (858993459 : Int32))) + (((((a0 - (((a0).toUInt32 >>> (((1 : Int32)).toUInt32 &&& Int32.toUInt32 31)).toInt32 &&& (1431655765 : Int32))) &&& (858993459 : Int32)) + ((((a0 - (((a0).toUInt32 >>> (((1 : Int32)).toUInt32 &&& Int32.toUInt32 31)).toInt32 &&& (1431655765 : Int32)))).toUInt32 >>> (((2 : Int32)).toUInt32 &&& Int32.toUInt32 31)).toInt32 &&& (858993459 : Int32)))).toUInt32 >>> (((4 : Int32)).toUInt32 &&& Int32.toUInt32 31)).toInt32) &&& (252645135 : Int32)) + (((((((a0 - (((a0).toUInt32 >>> (((1 : Int32)).toUInt32 &&& Int32.toUInt32 31)).toInt32 &&& (1431655765 : Int32))) &&& (858993459 : Int32)) + ((((a0 - (((a0).toUInt32 >>> (((1 : Int32)).toUInt32 &&& Int32.toUInt32 31)).toInt32 &&& (1431655765 : Int32)))).toUInt32 >>> (((2 : Int32)).toUInt32 &&& Int32.toUInt32 31)).toInt32 &&& (858993459 : Int32))) + (((((a0 - (((a0).toUInt32 >>> (((1 : Int32)).toUInt32 &&& Int32.toUInt32 31)).toInt32 &&& (1431655765 : Int32))) &&& (858993459 : Int32)) + ((((a0 - (((a0).toUInt32 >>> (((1 : Int32)).toUInt32 &&& Int32.toUInt32 31)).toInt32 &&& (1431655765 : Int32)))).toUInt32 >>> (((2 : Int32)).toUInt32 &&& Int32.toUInt32 31)).toInt32 &&& (858993459 : Int32)))).toUInt32 >>> (((4 : Int32)).toUInt32 &&& Int32.toUInt32 31)).toInt32) &&& (252645135 : Int32))).toUInt32 >>> (((8 : Int32)).toUInt32 &&& Int32.toUInt32 31)).toInt32) + ((((((((a0 - (((a0).toUInt32 >>> (((1 : Int32)).toUInt32 &&& Int32.toUInt32 31)).toInt32 &&& (1431655765 : Int32))) &&& (858993459 : Int32)) + ((((a0 - (((a0).toUInt32 >>> (((1 : Int32)).toUInt32 &&& Int32.toUInt32 31)).toInt32 &&& (1431655765 : Int32)))).toUInt32 >>> (((2 : Int32)).toUInt32 &&& Int32.toUInt32 31)).toInt32 &&& (858993459 : Int32))) + (((((a0 - (((a0).toUInt32 >>> (((1 : Int32)).toUInt32 &&& Int32.toUInt32 31)).toInt32 &&& (1431655765 : Int32))) &&& (858993459 : Int32)) + ((((a0 - (((a0).toUInt32 >>> (((1 : Int32)).toUInt32 &&& Int32.toUInt32 31)).toInt32 &&& (1431655765 : Int32)))).toUInt32 >>> (((2 : Int32)).toUInt32 &&& Int32.toUInt32 31)).toInt32 &&& (858993459 : Int32)))).toUInt32 >>> (((4 : Int32)).toUInt32 &&& Int32.toUInt32 31)).toInt32) &&& (252645135 : Int32)) + (((((((a0 - (((a0).toUInt32 >>> (((1 : Int32)).toUInt32 &&& Int32.toUInt32 31)).toInt32 &&& (1431655765 : Int32))) &&& (858993459 : Int32)) + ((((a0 - (((a0).toUInt32 >>> (((1 : Int32)).toUInt32 &&& Int32.toUInt32 31)).toInt32 &&& (1431655765 : Int32)))).toUInt32 >>> (((2 : Int32)).toUInt32 &&& Int32.toUInt32 31)).toInt32 &&& (858993459 : Int32))) + (((((a0 - (((a0).toUInt32 >>> (((1 : Int32)).toUInt32 &&& Int32.toUInt32 31)).toInt32 &&& (1431655765 : Int32))) &&& (858993459 : Int32)) + ((((a0 - (((a0).toUInt32 >>> (((1 : Int32)).toUInt32 &&& Int32.toUInt32 31)).toInt32 &&& (1431655765 : Int32)))).toUInt32 >>> (((2 : Int32)).toUInt32 &&& Int32.toUInt32 31)).toInt32 &&& (858993459 : Int32)))).toUInt32 >>> (((4 : Int32)).toUInt32 &&& Int32.toUInt32 31)).toInt32) &&& (252645135 : Int32))).toUInt32 >>> (((8 : Int32)).toUInt32 &&& Int32.toUInt32 31)).toInt32)).toUInt32 >>> (((16 : Int32)).toUInt32 &&& Int32.toUInt32 31)).toInt32) &&& (63 : Int32)))
set_option maxHeartbeats 4000000 in
theorem xb_6_bitCount_0f7a4 {C : mm_C} {Q : mm_R}  {h : mm_H} (a0 : Int32) (v : Int32) (hf : xf_6_bitCount_0f7a4 a0 = some v) (hK : Q (some (.int v)) h) : mm_go C mm_Mk mm_Fk P_J6_bitCount_0f7a4 Q P_J6_bitCount_0f7a4 [(0, .int a0)] [] h 0 0 := by
  unfold xf_6_bitCount_0f7a4 at hf
  obtain rfl := Option.some.inj hf
  exact ⟨42, hK⟩
def xk_6_bitCount_0f7a4 (C : mm_C) : Prop := ∀ (h : mm_H) (a0 : Int32) (v : Int32) (Q : mm_R), xf_6_bitCount_0f7a4 a0 = some v → Q (some (.int v)) h → C 122 [.int a0] h Q
-- 11_stir
noncomputable def xf_11_stir (a0 : Int32) (a1 : Int32) : Option (Int32) :=
some (((((a0 ^^^ a1) * (1103515245 : Int32)) + (12345 : Int32)) ^^^ (((((a0 ^^^ a1) * (1103515245 : Int32)) + (12345 : Int32))).toUInt32 >>> (((15 : Int32)).toUInt32 &&& Int32.toUInt32 31)).toInt32))
set_option maxHeartbeats 4000000 in
theorem xb_11_stir {C : mm_C} {Q : mm_R}  {h : mm_H} (a0 : Int32) (a1 : Int32) (v : Int32) (hf : xf_11_stir a0 a1 = some v) (hK : Q (some (.int v)) h) : mm_go C mm_Mk mm_Fk P_X11_stir Q P_X11_stir [(0, .int a0), (1, .int a1)] [] h 0 0 := by
  unfold xf_11_stir at hf
  obtain rfl := Option.some.inj hf
  exact ⟨14, hK⟩
def xk_11_stir (C : mm_C) : Prop := ∀ (h : mm_H) (a0 : Int32) (a1 : Int32) (v : Int32) (Q : mm_R), xf_11_stir a0 a1 = some v → Q (some (.int v)) h → C 277 [.int a0, .int a1] h Q
-- 11_lot
noncomputable def xf_11_lot (a0 : Int32) (a1 : Int32) (a2 : Int32) : Option (Int32) :=
(if (1 : Int32) ≤ a0 then
((xf_11_stir (a1) ((199 : Int32))).bind fun v_2 =>
((xf_11_stir (v_2) (a2)).bind fun v_3 =>
(if a0 = 0 then none else some ((((v_3).toUInt32 >>> (((1 : Int32)).toUInt32 &&& Int32.toUInt32 31)).toInt32 - ((v_3).toUInt32 >>> (((1 : Int32)).toUInt32 &&& Int32.toUInt32 31)).toInt32 / a0 * a0)))))
else
some ((0 : Int32)))
set_option maxHeartbeats 4000000 in
theorem xb_11_lot {C : mm_C} {Q : mm_R} (h_11_stir : xk_11_stir C) {h : mm_H} (a0 : Int32) (a1 : Int32) (a2 : Int32) (v : Int32) (hf : xf_11_lot a0 a1 a2 = some v) (hK : Q (some (.int v)) h) : mm_go C mm_Mk mm_Fk P_X11_lot Q P_X11_lot [(0, .int a0), (1, .int a1), (2, .int a2)] [] h 0 0 := by
  unfold xf_11_lot at hf
  by_cases c_1 : (1 : Int32) ≤ a0
  · have hf := mo_pos hf c_1
    obtain ⟨v_2, hr_2, hf⟩ := mo_bind hf
    obtain ⟨v_3, hr_3, hf⟩ := mo_bind hf
    obtain ⟨hz_4, hf⟩ := mo_nz hf
    obtain rfl := Option.some.inj hf
    exact ⟨15, (And.intro (fun _ => (h_11_stir _ (a1) ((199 : Int32)) v_2 _ hr_2 (h_11_stir _ (v_2) (a2) v_3 _ hr_3 (And.intro hz_4 hK)))) (fun q => absurd c_1 q))⟩
  · have hf := mo_neg hf c_1
    obtain rfl := Option.some.inj hf
    exact ⟨5, (And.intro (fun q => absurd q c_1) (fun _ => hK))⟩
def xk_11_lot (C : mm_C) : Prop := ∀ (h : mm_H) (a0 : Int32) (a1 : Int32) (a2 : Int32) (v : Int32) (Q : mm_R), xf_11_lot a0 a1 a2 = some v → Q (some (.int v)) h → C 276 [.int a0, .int a1, .int a2] h Q
-- 1_moveByLot
noncomputable def xf_1_moveByLot_j23 (v0 : Int32) (v3 : Int32) (v4 : Int32) : Option ((Int32 × Int32) ⊕ ((Int32) ⊕ (Unit))) :=
some (.inl (v3, (v4 + (1 : Int32))))
set_option maxHeartbeats 4000000 in
theorem xb_1_moveByLot_j23 {C : mm_C} {Q : mm_R} (h_6_bitCount_0f7a4 : xk_6_bitCount_0f7a4 C) (h_11_lot : xk_11_lot C) {h : mm_H} (v0 : Int32) (v3 : Int32) (v4 : Int32) (r : (Int32 × Int32) ⊕ ((Int32) ⊕ (Unit))) (hf : xf_1_moveByLot_j23 v0 v3 v4 = some r) (hK : mo_sum (mo_c2 (fun y3 y4 => mm_go C mm_Mk mm_Fk P_X1_moveByLot Q (P_X1_moveByLot.drop 8) [(0, .int v0), (3, .int y3), (4, .int y4)] [] h 0 0))  (mo_sum (fun y4 => mm_go C mm_Mk mm_Fk P_X1_moveByLot Q (P_X1_moveByLot.drop 20) [(4, .int y4)] [] h 0 0) (fun (_ : Unit) => mm_go C mm_Mk mm_Fk P_X1_moveByLot Q (P_X1_moveByLot.drop 25) [] [] h 0 0))  r) : mm_go C mm_Mk mm_Fk P_X1_moveByLot Q (P_X1_moveByLot.drop 23) [(0, .int v0), (3, .int v3), (4, .int v4)] [] h 0 0 := by
  unfold xf_1_moveByLot_j23 at hf
  obtain rfl := Option.some.inj hf
  refine mm_adv 2 (cs' := P_X1_moveByLot.drop 8) (l' := [(4, .int (v4 + (1 : Int32))), (0, .int v0), (3, .int v3)]) (st' := []) (h' := h) (bc' := 0) (bs' := 0) (fun n g => g) ?_
  exact mm_re (c := [(0, .int v0), (3, .int v3), (4, .int (v4 + (1 : Int32)))]) hK rfl rfl
noncomputable def xf_1_moveByLot_l8 (v0 : Int32) : (Int32 × Int32) → Option ((Int32 × Int32) ⊕ ((Int32) ⊕ (Unit))) := fun (w3, w4) =>
(if (6 : Int32) ≤ w4 then
some (.inr (.inr ()))
else
(if ((v0 >>> (w4 &&& 31)) &&& (1 : Int32)) = (1 : Int32) then
(if w3 = (0 : Int32) then
some (.inr (.inl (w4)))
else
(xf_1_moveByLot_j23 (v0) ((w3 + (-1 : Int32))) (w4)))
else
(xf_1_moveByLot_j23 (v0) (w3) (w4))))
set_option maxHeartbeats 4000000 in
theorem xb_1_moveByLot_l8 {C : mm_C} {Q : mm_R} (h_6_bitCount_0f7a4 : xk_6_bitCount_0f7a4 C) (h_11_lot : xk_11_lot C) (h : mm_H) (v0 : Int32) (t : Int32 × Int32) (x : (Int32) ⊕ (Unit)) (hl : mo_loop (xf_1_moveByLot_l8 v0) t = some x) (hK : (mo_sum (fun y4 => mm_go C mm_Mk mm_Fk P_X1_moveByLot Q (P_X1_moveByLot.drop 20) [(4, .int y4)] [] h 0 0) (fun (_ : Unit) => mm_go C mm_Mk mm_Fk P_X1_moveByLot Q (P_X1_moveByLot.drop 25) [] [] h 0 0)) x) : (mo_c2 (fun y3 y4 => mm_go C mm_Mk mm_Fk P_X1_moveByLot Q (P_X1_moveByLot.drop 8) [(0, .int v0), (3, .int y3), (4, .int y4)] [] h 0 0)) t := by
  refine mo_loop_go (G := (mo_c2 (fun y3 y4 => mm_go C mm_Mk mm_Fk P_X1_moveByLot Q (P_X1_moveByLot.drop 8) [(0, .int v0), (3, .int y3), (4, .int y4)] [] h 0 0)) ) (K := (mo_sum (fun y4 => mm_go C mm_Mk mm_Fk P_X1_moveByLot Q (P_X1_moveByLot.drop 20) [(4, .int y4)] [] h 0 0) (fun (_ : Unit) => mm_go C mm_Mk mm_Fk P_X1_moveByLot Q (P_X1_moveByLot.drop 25) [] [] h 0 0)) ) ?_ t x hl hK
  intro t r hf hK
  obtain ⟨w3, w4⟩ := t
  unfold xf_1_moveByLot_l8 at hf
  by_cases c_3 : (6 : Int32) ≤ w4
  · have hf := mo_pos hf c_3
    obtain rfl := Option.some.inj hf
    refine mm_adv 3 (cs' := P_X1_moveByLot.drop 25) (l' := [(0, .int v0), (3, .int w3), (4, .int w4)]) (st' := []) (h' := h) (bc' := 0) (bs' := 0) (fun n g => (And.intro (fun _ => g) (fun q => absurd c_3 q))) ?_
    exact mm_re (c := []) hK rfl rfl
  · have hf := mo_neg hf c_3
    by_cases c_4 : ((v0 >>> (w4 &&& 31)) &&& (1 : Int32)) = (1 : Int32)
    · have hf := mo_pos hf c_4
      by_cases c_5 : w3 = (0 : Int32)
      · have hf := mo_pos hf c_5
        obtain rfl := Option.some.inj hf
        refine mm_adv 12 (cs' := P_X1_moveByLot.drop 20) (l' := [(0, .int v0), (3, .int w3), (4, .int w4)]) (st' := []) (h' := h) (bc' := 0) (bs' := 0) (fun n g => (And.intro (fun q => absurd q c_3) (fun _ => (And.intro (fun q => absurd c_4 q) (fun _ => (And.intro (fun q => absurd c_5 q) (fun _ => g))))))) ?_
        exact mm_re (c := [(4, .int w4)]) hK rfl rfl
      · have hf := mo_neg hf c_5
        refine mm_adv 13 (cs' := P_X1_moveByLot.drop 23) (l' := [(3, .int (w3 + (-1 : Int32))), (0, .int v0), (4, .int w4)]) (st' := []) (h' := h) (bc' := 0) (bs' := 0) (fun n g => (And.intro (fun q => absurd q c_3) (fun _ => (And.intro (fun q => absurd c_4 q) (fun _ => (And.intro (fun _ => g) (fun q => absurd c_5 q))))))) ?_
        refine mm_re (l' := [(0, .int v0), (3, .int (w3 + (-1 : Int32))), (4, .int w4)]) (c := [(0, .int v0), (3, .int (w3 + (-1 : Int32))), (4, .int w4)]) ?_ rfl rfl
        exact xb_1_moveByLot_j23 h_6_bitCount_0f7a4 h_11_lot (v0) ((w3 + (-1 : Int32))) (w4) _ hf hK
    · have hf := mo_neg hf c_4
      refine mm_adv 10 (cs' := P_X1_moveByLot.drop 23) (l' := [(0, .int v0), (3, .int w3), (4, .int w4)]) (st' := []) (h' := h) (bc' := 0) (bs' := 0) (fun n g => (And.intro (fun q => absurd q c_3) (fun _ => (And.intro (fun _ => g) (fun q => absurd c_4 q))))) ?_
      refine mm_re (l' := [(0, .int v0), (3, .int w3), (4, .int w4)]) (c := [(0, .int v0), (3, .int w3), (4, .int w4)]) ?_ rfl rfl
      exact xb_1_moveByLot_j23 h_6_bitCount_0f7a4 h_11_lot (v0) (w3) (w4) _ hf hK
noncomputable def xf_1_moveByLot (a0 : Int32) (a1 : Int32) (a2 : Int32) : Option (Int32) :=
((xf_6_bitCount_0f7a4 (a0)).bind fun v_1 =>
((xf_11_lot (v_1) (a1) (a2)).bind fun v_2 =>
((mo_loop (xf_1_moveByLot_l8 (a0)) (v_2, (0 : Int32))).bind fun x_6 =>
match x_6 with
| (.inl e4_6) => some (e4_6)
| (.inr _) => some ((6 : Int32))
)))
set_option maxHeartbeats 4000000 in
theorem xb_1_moveByLot {C : mm_C} {Q : mm_R} (h_6_bitCount_0f7a4 : xk_6_bitCount_0f7a4 C) (h_11_lot : xk_11_lot C) {h : mm_H} (a0 : Int32) (a1 : Int32) (a2 : Int32) (v : Int32) (hf : xf_1_moveByLot a0 a1 a2 = some v) (hK : Q (some (.int v)) h) : mm_go C mm_Mk mm_Fk P_X1_moveByLot Q P_X1_moveByLot [(0, .int a0), (1, .int a1), (2, .int a2)] [] h 0 0 := by
  unfold xf_1_moveByLot at hf
  obtain ⟨v_1, hr_1, hf⟩ := mo_bind hf
  obtain ⟨v_2, hr_2, hf⟩ := mo_bind hf
  obtain ⟨x_6, hl_6, hf⟩ := mo_bind hf
  refine mm_adv 8 (cs' := P_X1_moveByLot.drop 8) (l' := [(4, .int (0 : Int32)), (3, .int v_2), (0, .int a0), (1, .int a1), (2, .int a2)]) (st' := []) (h' := h) (bc' := 0) (bs' := 0) (fun n g => (h_6_bitCount_0f7a4 _ (a0) v_1 _ hr_1 (h_11_lot _ (v_1) (a1) (a2) v_2 _ hr_2 g))) ?_
  refine mm_re (l' := [(0, .int a0), (3, .int v_2), (4, .int (0 : Int32))]) (c := [(0, .int a0), (3, .int v_2), (4, .int (0 : Int32))]) ?_ rfl rfl
  refine xb_1_moveByLot_l8 h_6_bitCount_0f7a4 h_11_lot _ (a0) (v_2, (0 : Int32)) x_6 hl_6 ?_
  cases x_6 with
  | inl y_6 =>
    obtain ⟨e4_6, rfl⟩ : ∃ q, q = y_6 := ⟨_, rfl⟩
    obtain rfl := Option.some.inj hf
    exact ⟨2, hK⟩
  | inr z_6_0 =>
    obtain rfl := Option.some.inj hf
    exact ⟨2, hK⟩
def xk_1_moveByLot (C : mm_C) : Prop := ∀ (h : mm_H) (a0 : Int32) (a1 : Int32) (a2 : Int32) (v : Int32) (Q : mm_R), xf_1_moveByLot a0 a1 a2 = some v → Q (some (.int v)) h → C 143 [.int a0, .int a1, .int a2] h Q
-- 1_afterMinutes
noncomputable def xf_1_afterMinutes_l4 (v2 : Int32) (v3 : Int32) (v4 : Int32) : (Int32 × Int32 × xs_S) → Option ((Int32 × Int32 × xs_S) ⊕ ((Int32 × xs_S) ⊕ (Int32 × xs_S))) := fun (w5, w6, s) =>
(if v4 ≤ w6 then
some (.inr (.inr (w5, s)))
else
((xf_1_open s (w5)).bind fun s_2 =>
((mo_ag 294 (s_2.2.1 118) w5).bind fun x_3 =>
((xf_1_moveByLot (x_3) (v3) ((v2 + w6))).bind fun v_4 =>
((xf_1_after s_2 (w5) (v_4) ((0 : Int32))).bind fun (v_5, s_5) =>
(if v_5 = (-1 : Int32) then
some (.inr (.inl (w5, s_5)))
else
some (.inl (v_5, (w6 + (1 : Int32)), s_5))))))))
set_option maxHeartbeats 4000000 in
theorem xb_1_afterMinutes_l4 {C : mm_C} {Q : mm_R} {pt : Value} {ps : Value} {pr : Value} (h_1_open : xk_1_open C) (h_1_moveByLot : xk_1_moveByLot C) (h_1_after : xk_1_after C) (v2 : Int32) (v3 : Int32) (v4 : Int32) (t : Int32 × Int32 × xs_S) (x : (Int32 × xs_S) ⊕ (Int32 × xs_S)) (hl : mo_loop (xf_1_afterMinutes_l4 v2 v3 v4) t = some x) (hK : (mo_sum (mo_c2 (fun y5 sy => mm_go C mm_Mk mm_Fk P_X1_afterMinutes Q (P_X1_afterMinutes.drop 29) [(5, .int y5)] [] (xs_H pt ps (.ref 9) pr sy) 0 0)) (mo_c2 (fun y5 sy => mm_go C mm_Mk mm_Fk P_X1_afterMinutes Q (P_X1_afterMinutes.drop 35) [(5, .int y5)] [] (xs_H pt ps (.ref 9) pr sy) 0 0))) x) : (mo_c2 (fun y5 => (mo_c2 (fun y6 sy => mm_go C mm_Mk mm_Fk P_X1_afterMinutes Q (P_X1_afterMinutes.drop 4) [(0, .ref 117), (2, .int v2), (3, .int v3), (4, .int v4), (5, .int y5), (6, .int y6)] [] (xs_H pt ps (.ref 9) pr sy) 0 0)))) t := by
  refine mo_loop_go (G := (mo_c2 (fun y5 => (mo_c2 (fun y6 sy => mm_go C mm_Mk mm_Fk P_X1_afterMinutes Q (P_X1_afterMinutes.drop 4) [(0, .ref 117), (2, .int v2), (3, .int v3), (4, .int v4), (5, .int y5), (6, .int y6)] [] (xs_H pt ps (.ref 9) pr sy) 0 0)))) ) (K := (mo_sum (mo_c2 (fun y5 sy => mm_go C mm_Mk mm_Fk P_X1_afterMinutes Q (P_X1_afterMinutes.drop 29) [(5, .int y5)] [] (xs_H pt ps (.ref 9) pr sy) 0 0)) (mo_c2 (fun y5 sy => mm_go C mm_Mk mm_Fk P_X1_afterMinutes Q (P_X1_afterMinutes.drop 35) [(5, .int y5)] [] (xs_H pt ps (.ref 9) pr sy) 0 0))) ) ?_ t x hl hK
  intro t r hf hK
  obtain ⟨w5, w6, s⟩ := t
  unfold xf_1_afterMinutes_l4 at hf
  by_cases c_1 : v4 ≤ w6
  · have hf := mo_pos hf c_1
    obtain rfl := Option.some.inj hf
    refine mm_adv 3 (cs' := P_X1_afterMinutes.drop 35) (l' := [(0, .ref 117), (2, .int v2), (3, .int v3), (4, .int v4), (5, .int w5), (6, .int w6)]) (st' := []) (h' := (xs_H pt ps (.ref 9) pr s)) (bc' := 0) (bs' := 0) (fun n g => (And.intro (fun _ => g) (fun q => absurd c_1 q))) ?_
    exact mm_re (c := [(5, .int w5)]) hK rfl rfl
  · have hf := mo_neg hf c_1
    obtain ⟨s_2, hr_2, hf⟩ := mo_bind hf
    obtain ⟨x_3, hx_3, hf⟩ := mo_bind hf
    obtain ⟨hi_3, rfl⟩ := mo_ag_inv hx_3
    obtain ⟨v_4, hr_4, hf⟩ := mo_bind hf
    obtain ⟨r_5, hr_5, hf⟩ := mo_bind hf
    obtain ⟨v_5, s_5⟩ := r_5
    by_cases c_6 : v_5 = (-1 : Int32)
    · have hf := mo_pos hf c_6
      obtain rfl := Option.some.inj hf
      refine mm_adv 25 (cs' := P_X1_afterMinutes.drop 29) (l' := [(8, .int v_5), (7, .int v_4), (0, .ref 117), (2, .int v2), (3, .int v3), (4, .int v4), (5, .int w5), (6, .int w6)]) (st' := []) (h' := (xs_H pt ps (.ref 9) pr s_5)) (bc' := 0) (bs' := 0) (fun n g => (And.intro (fun q => absurd q c_1) (fun _ => (h_1_open pt ps pr s (w5) s_2 _ hr_2 (And.intro hi_3 (h_1_moveByLot _ (((s_2.2.1 118) (w5).toNatClampNeg)) (v3) ((v2 + w6)) v_4 _ hr_4 (h_1_after pt ps (.ref 9) pr s_2 (w5) (v_4) ((0 : Int32)) v_5 s_5 _ hr_5 (And.intro (fun q => absurd c_6 q) (fun _ => g))))))))) ?_
      exact mm_re (c := [(5, .int w5)]) hK rfl rfl
    · have hf := mo_neg hf c_6
      obtain rfl := Option.some.inj hf
      refine mm_adv 29 (cs' := P_X1_afterMinutes.drop 4) (l' := [(6, .int (w6 + (1 : Int32))), (5, .int v_5), (8, .int v_5), (7, .int v_4), (0, .ref 117), (2, .int v2), (3, .int v3), (4, .int v4)]) (st' := []) (h' := (xs_H pt ps (.ref 9) pr s_5)) (bc' := 0) (bs' := 0) (fun n g => (And.intro (fun q => absurd q c_1) (fun _ => (h_1_open pt ps pr s (w5) s_2 _ hr_2 (And.intro hi_3 (h_1_moveByLot _ (((s_2.2.1 118) (w5).toNatClampNeg)) (v3) ((v2 + w6)) v_4 _ hr_4 (h_1_after pt ps (.ref 9) pr s_2 (w5) (v_4) ((0 : Int32)) v_5 s_5 _ hr_5 (And.intro (fun _ => g) (fun q => absurd c_6 q))))))))) ?_
      exact mm_re (c := [(0, .ref 117), (2, .int v2), (3, .int v3), (4, .int v4), (5, .int v_5), (6, .int (w6 + (1 : Int32)))]) hK rfl rfl
noncomputable def xf_1_afterMinutes (s : xs_S) (a0 : Int32) (a1 : Int32) (a2 : Int32) (a3 : Int32) : Option (Int32 × xs_S) :=
((mo_loop (xf_1_afterMinutes_l4 (a1) (a2) (a3)) (a0, (0 : Int32), s)).bind fun x_7 =>
match x_7 with
| (.inl (e5_7, s_7)) => some (e5_7, s_7)
| (.inr (e5_7, s_7)) => some (e5_7, s_7)
)
set_option maxHeartbeats 4000000 in
theorem xb_1_afterMinutes {C : mm_C} {Q : mm_R} {pt : Value} {ps : Value} {pr : Value} (h_1_open : xk_1_open C) (h_1_moveByLot : xk_1_moveByLot C) (h_1_after : xk_1_after C) (s : xs_S) (a0 : Int32) (a1 : Int32) (a2 : Int32) (a3 : Int32) (v : Int32) (s2 : xs_S) (hf : xf_1_afterMinutes s a0 a1 a2 a3 = some (v, s2)) (hK : Q (some (.int v)) (xs_H pt ps (.ref 9) pr s2)) : mm_go C mm_Mk mm_Fk P_X1_afterMinutes Q P_X1_afterMinutes [(0, .ref 117), (1, .int a0), (2, .int a1), (3, .int a2), (4, .int a3)] [] (xs_H pt ps (.ref 9) pr s) 0 0 := by
  unfold xf_1_afterMinutes at hf
  obtain ⟨x_7, hl_7, hf⟩ := mo_bind hf
  refine mm_adv 4 (cs' := P_X1_afterMinutes.drop 4) (l' := [(6, .int (0 : Int32)), (5, .int a0), (0, .ref 117), (1, .int a0), (2, .int a1), (3, .int a2), (4, .int a3)]) (st' := []) (h' := (xs_H pt ps (.ref 9) pr s)) (bc' := 0) (bs' := 0) (fun n g => g) ?_
  refine mm_re (l' := [(0, .ref 117), (2, .int a1), (3, .int a2), (4, .int a3), (5, .int a0), (6, .int (0 : Int32))]) (c := [(0, .ref 117), (2, .int a1), (3, .int a2), (4, .int a3), (5, .int a0), (6, .int (0 : Int32))]) ?_ rfl rfl
  refine xb_1_afterMinutes_l4 h_1_open h_1_moveByLot h_1_after (a1) (a2) (a3) (a0, (0 : Int32), s) x_7 hl_7 ?_
  cases x_7 with
  | inl y_7 =>
    obtain ⟨e5_7, s_7⟩ := y_7
    obtain ⟨rfl, rfl⟩ := mo_pair hf
    exact ⟨2, hK⟩
  | inr z_7_0 =>
    obtain ⟨e5_7, s_7⟩ := z_7_0
    obtain ⟨rfl, rfl⟩ := mo_pair hf
    exact ⟨2, hK⟩
def xk_1_afterMinutes (C : mm_C) : Prop := ∀ (pt : Value) (ps : Value) (pr : Value) (s : xs_S) (a0 : Int32) (a1 : Int32) (a2 : Int32) (a3 : Int32) (v : Int32) (s2 : xs_S) (Q : mm_R), xf_1_afterMinutes s a0 a1 a2 a3 = some (v, s2) → Q (some (.int v)) (xs_H pt ps (.ref 9) pr s2) → C 142 [.ref 117, .int a0, .int a1, .int a2, .int a3] (xs_H pt ps (.ref 9) pr s) Q
-- 11_slopeIn
noncomputable def xf_11_slopeIn (s : xs_S) (a0 : Int32) : Option (Int32 × xs_S) :=
(if a0 < (0 : Int32) then
some ((-1 : Int32), s)
else
(if a0 ≤ (200 : Int32) then
((xf_1_afterMinutes s ((s.1 400)) ((s.1 403)) ((s.1 152)) (a0)).bind fun (v_3, s_3) =>
((xf_11_slopeOf (v_3)).bind fun v_4 =>
some (v_4, s_3)))
else
some ((-1 : Int32), s)))
set_option maxHeartbeats 4000000 in
theorem xb_11_slopeIn {C : mm_C} {Q : mm_R} {ps : Value} {pr : Value} (h_1_afterMinutes : xk_1_afterMinutes C) (h_11_slopeOf : xk_11_slopeOf C) (s : xs_S) (a0 : Int32) (v : Int32) (s2 : xs_S) (hf : xf_11_slopeIn s a0 = some (v, s2)) (hK : Q (some (.int v)) (xs_H (.ref 9) ps (.ref 9) pr s2)) : mm_go C mm_Mk mm_Fk P_X11_slopeIn Q P_X11_slopeIn [(0, .ref 0), (1, .int a0)] [] (xs_H (.ref 9) ps (.ref 9) pr s) 0 0 := by
  unfold xf_11_slopeIn at hf
  by_cases c_1 : a0 < (0 : Int32)
  · have hf := mo_pos hf c_1
    obtain ⟨rfl, rfl⟩ := mo_pair hf
    exact ⟨4, (And.intro (fun _ => hK) (fun q => absurd c_1 q))⟩
  · have hf := mo_neg hf c_1
    by_cases c_2 : a0 ≤ (200 : Int32)
    · have hf := mo_pos hf c_2
      obtain ⟨r_3, hr_3, hf⟩ := mo_bind hf
      obtain ⟨v_3, s_3⟩ := r_3
      obtain ⟨v_4, hr_4, hf⟩ := mo_bind hf
      obtain ⟨rfl, rfl⟩ := mo_pair hf
      exact ⟨20, (And.intro (fun q => absurd q c_1) (fun _ => (And.intro (fun _ => (h_1_afterMinutes (.ref 9) ps pr s ((s.1 400)) ((s.1 403)) ((s.1 152)) (a0) v_3 s_3 _ hr_3 (h_11_slopeOf _ (v_3) v_4 _ hr_4 hK))) (fun q => absurd c_2 q))))⟩
    · have hf := mo_neg hf c_2
      obtain ⟨rfl, rfl⟩ := mo_pair hf
      exact ⟨7, (And.intro (fun q => absurd q c_1) (fun _ => (And.intro (fun q => absurd q c_2) (fun _ => hK))))⟩
def xk_11_slopeIn (C : mm_C) : Prop := ∀ (ps : Value) (pr : Value) (s : xs_S) (a0 : Int32) (v : Int32) (s2 : xs_S) (Q : mm_R), xf_11_slopeIn s a0 = some (v, s2) → Q (some (.int v)) (xs_H (.ref 9) ps (.ref 9) pr s2) → C 252 [.ref 0, .int a0] (xs_H (.ref 9) ps (.ref 9) pr s) Q
-- 11_year
noncomputable def xf_11_year_j38 (s : xs_S) (v1 : Int32) (v2 : Int32) (v3 : Int32) (v4 : Int32) : Option ((Int32 × Int32 × xs_S) ⊕ ((Int32 × xs_S))) :=
some (.inl (v3, (v4 + (1 : Int32)), s))
set_option maxHeartbeats 4000000 in
theorem xb_11_year_j38 {C : mm_C} {Q : mm_R} {ps : Value} {pr : Value} (h_1_afterMinutes : xk_1_afterMinutes C) (h_11_isAwake : xk_11_isAwake C) (s : xs_S) (v1 : Int32) (v2 : Int32) (v3 : Int32) (v4 : Int32) (r : (Int32 × Int32 × xs_S) ⊕ ((Int32 × xs_S))) (hf : xf_11_year_j38 s v1 v2 v3 v4 = some r) (hK : mo_sum (mo_c2 (fun y3 => (mo_c2 (fun y4 sy => mm_go C mm_Mk mm_Fk P_X11_year Q (P_X11_year.drop 17) [(0, .ref 0), (1, .int v1), (2, .int v2), (3, .int y3), (4, .int y4)] [] (xs_H (.ref 9) ps (.ref 9) pr sy) 0 0))))  (mo_c2 (fun y3 sy => mm_go C mm_Mk mm_Fk P_X11_year Q (P_X11_year.drop 40) [(3, .int y3)] [] (xs_H (.ref 9) ps (.ref 9) pr sy) 0 0))  r) : mm_go C mm_Mk mm_Fk P_X11_year Q (P_X11_year.drop 38) [(0, .ref 0), (1, .int v1), (2, .int v2), (3, .int v3), (4, .int v4)] [] (xs_H (.ref 9) ps (.ref 9) pr s) 0 0 := by
  unfold xf_11_year_j38 at hf
  obtain rfl := Option.some.inj hf
  refine mm_adv 2 (cs' := P_X11_year.drop 17) (l' := [(4, .int (v4 + (1 : Int32))), (0, .ref 0), (1, .int v1), (2, .int v2), (3, .int v3)]) (st' := []) (h' := (xs_H (.ref 9) ps (.ref 9) pr s)) (bc' := 0) (bs' := 0) (fun n g => g) ?_
  exact mm_re (c := [(0, .ref 0), (1, .int v1), (2, .int v2), (3, .int v3), (4, .int (v4 + (1 : Int32)))]) hK rfl rfl
noncomputable def xf_11_year_l17 (v1 : Int32) (v2 : Int32) : (Int32 × Int32 × xs_S) → Option ((Int32 × Int32 × xs_S) ⊕ ((Int32 × xs_S))) := fun (w3, w4, s) =>
(if v2 ≤ w4 then
some (.inr (w3, s))
else
((xf_1_afterMinutes s ((s.1 400)) ((s.1 403)) (((s.1 152) + w4)) (v1)).bind fun (v_6, s_6) =>
((xf_11_isAwake (v_6)).bind fun v_7 =>
(if v_7 = (0 : Int32) then
(xf_11_year_j38 (s_6) (v1) (v2) (w3) (w4))
else
(xf_11_year_j38 (s_6) (v1) (v2) ((w3 + (1 : Int32))) (w4))))))
set_option maxHeartbeats 4000000 in
theorem xb_11_year_l17 {C : mm_C} {Q : mm_R} {ps : Value} {pr : Value} (h_1_afterMinutes : xk_1_afterMinutes C) (h_11_isAwake : xk_11_isAwake C) (v1 : Int32) (v2 : Int32) (t : Int32 × Int32 × xs_S) (x : (Int32 × xs_S)) (hl : mo_loop (xf_11_year_l17 v1 v2) t = some x) (hK : (mo_c2 (fun y3 sy => mm_go C mm_Mk mm_Fk P_X11_year Q (P_X11_year.drop 40) [(3, .int y3)] [] (xs_H (.ref 9) ps (.ref 9) pr sy) 0 0)) x) : (mo_c2 (fun y3 => (mo_c2 (fun y4 sy => mm_go C mm_Mk mm_Fk P_X11_year Q (P_X11_year.drop 17) [(0, .ref 0), (1, .int v1), (2, .int v2), (3, .int y3), (4, .int y4)] [] (xs_H (.ref 9) ps (.ref 9) pr sy) 0 0)))) t := by
  refine mo_loop_go (G := (mo_c2 (fun y3 => (mo_c2 (fun y4 sy => mm_go C mm_Mk mm_Fk P_X11_year Q (P_X11_year.drop 17) [(0, .ref 0), (1, .int v1), (2, .int v2), (3, .int y3), (4, .int y4)] [] (xs_H (.ref 9) ps (.ref 9) pr sy) 0 0)))) ) (K := (mo_c2 (fun y3 sy => mm_go C mm_Mk mm_Fk P_X11_year Q (P_X11_year.drop 40) [(3, .int y3)] [] (xs_H (.ref 9) ps (.ref 9) pr sy) 0 0)) ) ?_ t x hl hK
  intro t r hf hK
  obtain ⟨w3, w4, s⟩ := t
  unfold xf_11_year_l17 at hf
  by_cases c_5 : v2 ≤ w4
  · have hf := mo_pos hf c_5
    obtain rfl := Option.some.inj hf
    refine mm_adv 3 (cs' := P_X11_year.drop 40) (l' := [(0, .ref 0), (1, .int v1), (2, .int v2), (3, .int w3), (4, .int w4)]) (st' := []) (h' := (xs_H (.ref 9) ps (.ref 9) pr s)) (bc' := 0) (bs' := 0) (fun n g => (And.intro (fun _ => g) (fun q => absurd c_5 q))) ?_
    exact mm_re (c := [(3, .int w3)]) hK rfl rfl
  · have hf := mo_neg hf c_5
    obtain ⟨r_6, hr_6, hf⟩ := mo_bind hf
    obtain ⟨v_6, s_6⟩ := r_6
    obtain ⟨v_7, hr_7, hf⟩ := mo_bind hf
    by_cases c_8 : v_7 = (0 : Int32)
    · have hf := mo_pos hf c_8
      refine mm_adv 20 (cs' := P_X11_year.drop 38) (l' := [(0, .ref 0), (1, .int v1), (2, .int v2), (3, .int w3), (4, .int w4)]) (st' := []) (h' := (xs_H (.ref 9) ps (.ref 9) pr s_6)) (bc' := 0) (bs' := 0) (fun n g => (And.intro (fun q => absurd q c_5) (fun _ => (h_1_afterMinutes (.ref 9) ps pr s ((s.1 400)) ((s.1 403)) (((s.1 152) + w4)) (v1) v_6 s_6 _ hr_6 (h_11_isAwake _ (v_6) v_7 _ hr_7 (And.intro (fun _ => g) (fun q => absurd c_8 q))))))) ?_
      refine mm_re (l' := [(0, .ref 0), (1, .int v1), (2, .int v2), (3, .int w3), (4, .int w4)]) (c := [(0, .ref 0), (1, .int v1), (2, .int v2), (3, .int w3), (4, .int w4)]) ?_ rfl rfl
      exact xb_11_year_j38 h_1_afterMinutes h_11_isAwake s_6 (v1) (v2) (w3) (w4) _ hf hK
    · have hf := mo_neg hf c_8
      refine mm_adv 21 (cs' := P_X11_year.drop 38) (l' := [(3, .int (w3 + (1 : Int32))), (0, .ref 0), (1, .int v1), (2, .int v2), (4, .int w4)]) (st' := []) (h' := (xs_H (.ref 9) ps (.ref 9) pr s_6)) (bc' := 0) (bs' := 0) (fun n g => (And.intro (fun q => absurd q c_5) (fun _ => (h_1_afterMinutes (.ref 9) ps pr s ((s.1 400)) ((s.1 403)) (((s.1 152) + w4)) (v1) v_6 s_6 _ hr_6 (h_11_isAwake _ (v_6) v_7 _ hr_7 (And.intro (fun q => absurd q c_8) (fun _ => g))))))) ?_
      refine mm_re (l' := [(0, .ref 0), (1, .int v1), (2, .int v2), (3, .int (w3 + (1 : Int32))), (4, .int w4)]) (c := [(0, .ref 0), (1, .int v1), (2, .int v2), (3, .int (w3 + (1 : Int32))), (4, .int w4)]) ?_ rfl rfl
      exact xb_11_year_j38 h_1_afterMinutes h_11_isAwake s_6 (v1) (v2) ((w3 + (1 : Int32))) (w4) _ hf hK
noncomputable def xf_11_year (s : xs_S) (a0 : Int32) (a1 : Int32) : Option (Int32 × xs_S) :=
(if a0 < (0 : Int32) then
some ((-1 : Int32), s)
else
(if (200 : Int32) < a0 then
some ((-1 : Int32), s)
else
(if a1 < (1 : Int32) then
some ((-1 : Int32), s)
else
(if a1 ≤ (20 : Int32) then
((mo_loop (xf_11_year_l17 (a0) (a1)) ((0 : Int32), (0 : Int32), s)).bind fun (e3_9, s_9) =>
some (e3_9, s_9))
else
some ((-1 : Int32), s)))))
set_option maxHeartbeats 4000000 in
theorem xb_11_year {C : mm_C} {Q : mm_R} {ps : Value} {pr : Value} (h_1_afterMinutes : xk_1_afterMinutes C) (h_11_isAwake : xk_11_isAwake C) (s : xs_S) (a0 : Int32) (a1 : Int32) (v : Int32) (s2 : xs_S) (hf : xf_11_year s a0 a1 = some (v, s2)) (hK : Q (some (.int v)) (xs_H (.ref 9) ps (.ref 9) pr s2)) : mm_go C mm_Mk mm_Fk P_X11_year Q P_X11_year [(0, .ref 0), (1, .int a0), (2, .int a1)] [] (xs_H (.ref 9) ps (.ref 9) pr s) 0 0 := by
  unfold xf_11_year at hf
  by_cases c_1 : a0 < (0 : Int32)
  · have hf := mo_pos hf c_1
    obtain ⟨rfl, rfl⟩ := mo_pair hf
    exact ⟨4, (And.intro (fun _ => hK) (fun q => absurd c_1 q))⟩
  · have hf := mo_neg hf c_1
    by_cases c_2 : (200 : Int32) < a0
    · have hf := mo_pos hf c_2
      obtain ⟨rfl, rfl⟩ := mo_pair hf
      exact ⟨7, (And.intro (fun q => absurd q c_1) (fun _ => (And.intro (fun _ => hK) (fun q => absurd c_2 q))))⟩
    · have hf := mo_neg hf c_2
      by_cases c_3 : a1 < (1 : Int32)
      · have hf := mo_pos hf c_3
        obtain ⟨rfl, rfl⟩ := mo_pair hf
        exact ⟨10, (And.intro (fun q => absurd q c_1) (fun _ => (And.intro (fun q => absurd q c_2) (fun _ => (And.intro (fun _ => hK) (fun q => absurd c_3 q))))))⟩
      · have hf := mo_neg hf c_3
        by_cases c_4 : a1 ≤ (20 : Int32)
        · have hf := mo_pos hf c_4
          obtain ⟨x_9, hl_9, hf⟩ := mo_bind hf
          refine mm_adv 15 (cs' := P_X11_year.drop 17) (l' := [(4, .int (0 : Int32)), (3, .int (0 : Int32)), (0, .ref 0), (1, .int a0), (2, .int a1)]) (st' := []) (h' := (xs_H (.ref 9) ps (.ref 9) pr s)) (bc' := 0) (bs' := 0) (fun n g => (And.intro (fun q => absurd q c_1) (fun _ => (And.intro (fun q => absurd q c_2) (fun _ => (And.intro (fun q => absurd q c_3) (fun _ => (And.intro (fun _ => g) (fun q => absurd c_4 q))))))))) ?_
          refine mm_re (l' := [(0, .ref 0), (1, .int a0), (2, .int a1), (3, .int (0 : Int32)), (4, .int (0 : Int32))]) (c := [(0, .ref 0), (1, .int a0), (2, .int a1), (3, .int (0 : Int32)), (4, .int (0 : Int32))]) ?_ rfl rfl
          refine xb_11_year_l17 h_1_afterMinutes h_11_isAwake (a0) (a1) ((0 : Int32), (0 : Int32), s) x_9 hl_9 ?_
          obtain ⟨e3_9, s_9⟩ := x_9
          obtain ⟨rfl, rfl⟩ := mo_pair hf
          exact ⟨2, hK⟩
        · have hf := mo_neg hf c_4
          obtain ⟨rfl, rfl⟩ := mo_pair hf
          exact ⟨13, (And.intro (fun q => absurd q c_1) (fun _ => (And.intro (fun q => absurd q c_2) (fun _ => (And.intro (fun q => absurd q c_3) (fun _ => (And.intro (fun q => absurd q c_4) (fun _ => hK))))))))⟩
def xk_11_year (C : mm_C) : Prop := ∀ (ps : Value) (pr : Value) (s : xs_S) (a0 : Int32) (a1 : Int32) (v : Int32) (s2 : xs_S) (Q : mm_R), xf_11_year s a0 a1 = some (v, s2) → Q (some (.int v)) (xs_H (.ref 9) ps (.ref 9) pr s2) → C 253 [.ref 0, .int a0, .int a1] (xs_H (.ref 9) ps (.ref 9) pr s) Q
-- 9_add
noncomputable def xf_9_add (s : xs_S) (a0 : Int32) (a1 : Int32) (a2 : Int32) : Option (Int32 × xs_S) :=
(if (s.1 1924) < (20 : Int32) then
(bif mo_in (s.1 1924) 20 then (bif mo_in (s.1 1924) 20 then (bif mo_in (s.1 1924) 20 then some ((((s.1 1924) + (1 : Int32)) - (1 : Int32)), (xs_sA (xs_sA (xs_sA (xs_sI s 1924 (((s.1 1924) + (1 : Int32)))) 121 (upd (s.2.1 121) ((s.1 1924)).toNatClampNeg (a0))) 122 (upd (s.2.1 122) ((s.1 1924)).toNatClampNeg (a1))) 123 (upd (s.2.1 123) ((s.1 1924)).toNatClampNeg ((vp_nar .boolean a2))))) else none) else none) else none)
else
some ((-1 : Int32), s))
set_option maxHeartbeats 4000000 in
theorem xb_9_add {C : mm_C} {Q : mm_R} {pt : Value} {ps : Value} {pg : Value} {pr : Value}  (s : xs_S) (a0 : Int32) (a1 : Int32) (a2 : Int32) (v : Int32) (s2 : xs_S) (hf : xf_9_add s a0 a1 a2 = some (v, s2)) (hK : Q (some (.int v)) (xs_H pt ps pg pr s2)) : mm_go C mm_Mk mm_Fk P_X9_add Q P_X9_add [(0, .ref 120), (1, .int a0), (2, .int a1), (3, .int a2)] [] (xs_H pt ps pg pr s) 0 0 := by
  unfold xf_9_add at hf
  by_cases c_1 : (s.1 1924) < (20 : Int32)
  · have hf := mo_pos hf c_1
    obtain ⟨hi_2, hf⟩ := mo_if hf
    obtain ⟨hi_3, hf⟩ := mo_if hf
    obtain ⟨hi_4, hf⟩ := mo_if hf
    obtain ⟨rfl, rfl⟩ := mo_pair hf
    exact ⟨33, (And.intro (fun _ => (And.intro hi_2 (And.intro hi_3 (And.intro hi_4 (And.intro trivial hK))))) (fun q => absurd c_1 q))⟩
  · have hf := mo_neg hf c_1
    obtain ⟨rfl, rfl⟩ := mo_pair hf
    exact ⟨6, (And.intro (fun q => absurd q c_1) (fun _ => hK))⟩
def xk_9_add (C : mm_C) : Prop := ∀ (pt : Value) (ps : Value) (pg : Value) (pr : Value) (s : xs_S) (a0 : Int32) (a1 : Int32) (a2 : Int32) (v : Int32) (s2 : xs_S) (Q : mm_R), xf_9_add s a0 a1 a2 = some (v, s2) → Q (some (.int v)) (xs_H pt ps pg pr s2) → C 209 [.ref 120, .int a0, .int a1, .int a2] (xs_H pt ps pg pr s) Q
-- 11_tell
noncomputable def xf_11_tell (s : xs_S) (a0 : Int32) (a1 : Int32) (a2 : Int32) : Option (Int32 × xs_S) :=
(if a0 < (1 : Int32) then
some ((-1 : Int32), s)
else
(if (5 : Int32) < a0 then
some ((-1 : Int32), s)
else
(if a1 < (0 : Int32) then
some ((-1 : Int32), s)
else
(if a1 ≤ (20 : Int32) then
((xf_9_add s (a0) (a1) (a2)).bind fun (v_5, s_5) =>
some (v_5, s_5))
else
some ((-1 : Int32), s)))))
set_option maxHeartbeats 4000000 in
theorem xb_11_tell {C : mm_C} {Q : mm_R} {pt : Value} {ps : Value} {pg : Value} {pr : Value} (h_9_add : xk_9_add C) (s : xs_S) (a0 : Int32) (a1 : Int32) (a2 : Int32) (v : Int32) (s2 : xs_S) (hf : xf_11_tell s a0 a1 a2 = some (v, s2)) (hK : Q (some (.int v)) (xs_H pt ps pg pr s2)) : mm_go C mm_Mk mm_Fk P_X11_tell Q P_X11_tell [(0, .ref 0), (1, .int a0), (2, .int a1), (3, .int a2)] [] (xs_H pt ps pg pr s) 0 0 := by
  unfold xf_11_tell at hf
  by_cases c_1 : a0 < (1 : Int32)
  · have hf := mo_pos hf c_1
    obtain ⟨rfl, rfl⟩ := mo_pair hf
    exact ⟨5, (And.intro (fun _ => hK) (fun q => absurd c_1 q))⟩
  · have hf := mo_neg hf c_1
    by_cases c_2 : (5 : Int32) < a0
    · have hf := mo_pos hf c_2
      obtain ⟨rfl, rfl⟩ := mo_pair hf
      exact ⟨8, (And.intro (fun q => absurd q c_1) (fun _ => (And.intro (fun _ => hK) (fun q => absurd c_2 q))))⟩
    · have hf := mo_neg hf c_2
      by_cases c_3 : a1 < (0 : Int32)
      · have hf := mo_pos hf c_3
        obtain ⟨rfl, rfl⟩ := mo_pair hf
        exact ⟨10, (And.intro (fun q => absurd q c_1) (fun _ => (And.intro (fun q => absurd q c_2) (fun _ => (And.intro (fun _ => hK) (fun q => absurd c_3 q))))))⟩
      · have hf := mo_neg hf c_3
        by_cases c_4 : a1 ≤ (20 : Int32)
        · have hf := mo_pos hf c_4
          obtain ⟨r_5, hr_5, hf⟩ := mo_bind hf
          obtain ⟨v_5, s_5⟩ := r_5
          obtain ⟨rfl, rfl⟩ := mo_pair hf
          exact ⟨18, (And.intro (fun q => absurd q c_1) (fun _ => (And.intro (fun q => absurd q c_2) (fun _ => (And.intro (fun q => absurd q c_3) (fun _ => (And.intro (fun _ => (h_9_add pt ps pg pr s (a0) (a1) (a2) v_5 s_5 _ hr_5 hK)) (fun q => absurd c_4 q))))))))⟩
        · have hf := mo_neg hf c_4
          obtain ⟨rfl, rfl⟩ := mo_pair hf
          exact ⟨13, (And.intro (fun q => absurd q c_1) (fun _ => (And.intro (fun q => absurd q c_2) (fun _ => (And.intro (fun q => absurd q c_3) (fun _ => (And.intro (fun q => absurd q c_4) (fun _ => hK))))))))⟩
def xk_11_tell (C : mm_C) : Prop := ∀ (pt : Value) (ps : Value) (pg : Value) (pr : Value) (s : xs_S) (a0 : Int32) (a1 : Int32) (a2 : Int32) (v : Int32) (s2 : xs_S) (Q : mm_R), xf_11_tell s a0 a1 a2 = some (v, s2) → Q (some (.int v)) (xs_H pt ps pg pr s2) → C 254 [.ref 0, .int a0, .int a1, .int a2] (xs_H pt ps pg pr s) Q
-- 11_forget
noncomputable def xf_11_forget (s : xs_S)  : Option (Int32 × xs_S) :=
some ((s.1 1924), (xs_sI s 1924 ((0 : Int32))))
set_option maxHeartbeats 4000000 in
theorem xb_11_forget {C : mm_C} {Q : mm_R} {pt : Value} {ps : Value} {pg : Value} {pr : Value}  (s : xs_S)  (v : Int32) (s2 : xs_S) (hf : xf_11_forget s = some (v, s2)) (hK : Q (some (.int v)) (xs_H pt ps pg pr s2)) : mm_go C mm_Mk mm_Fk P_X11_forget Q P_X11_forget [(0, .ref 0)] [] (xs_H pt ps pg pr s) 0 0 := by
  unfold xf_11_forget at hf
  obtain ⟨rfl, rfl⟩ := mo_pair hf
  exact ⟨10, (And.intro trivial hK)⟩
def xk_11_forget (C : mm_C) : Prop := ∀ (pt : Value) (ps : Value) (pg : Value) (pr : Value) (s : xs_S)  (v : Int32) (s2 : xs_S) (Q : mm_R), xf_11_forget s = some (v, s2) → Q (some (.int v)) (xs_H pt ps pg pr s2) → C 255 [.ref 0] (xs_H pt ps pg pr s) Q
-- 11_isKnown
noncomputable def xf_11_isKnown (s : xs_S) (a0 : Int32) (a1 : Int32) : Option (Int32 × xs_S) :=
(if a0 < (0 : Int32) then
some ((0 : Int32), s)
else
(if (s.1 1924) < a0 then
some ((0 : Int32), s)
else
(if a1 < (1 : Int32) then
some ((0 : Int32), s)
else
(if (5 : Int32) < a1 then
some ((0 : Int32), s)
else
some ((1 : Int32), s)))))
set_option maxHeartbeats 4000000 in
theorem xb_11_isKnown {C : mm_C} {Q : mm_R} {pt : Value} {ps : Value} {pg : Value} {pr : Value}  (s : xs_S) (a0 : Int32) (a1 : Int32) (v : Int32) (s2 : xs_S) (hf : xf_11_isKnown s a0 a1 = some (v, s2)) (hK : Q (some (.int v)) (xs_H pt ps pg pr s2)) : mm_go C mm_Mk mm_Fk P_X11_isKnown Q P_X11_isKnown [(0, .ref 0), (1, .int a0), (2, .int a1)] [] (xs_H pt ps pg pr s) 0 0 := by
  unfold xf_11_isKnown at hf
  by_cases c_1 : a0 < (0 : Int32)
  · have hf := mo_pos hf c_1
    obtain ⟨rfl, rfl⟩ := mo_pair hf
    exact ⟨4, (And.intro (fun _ => (And.intro rfl hK)) (fun q => absurd c_1 q))⟩
  · have hf := mo_neg hf c_1
    by_cases c_2 : (s.1 1924) < a0
    · have hf := mo_pos hf c_2
      obtain ⟨rfl, rfl⟩ := mo_pair hf
      exact ⟨9, (And.intro (fun q => absurd q c_1) (fun _ => (And.intro (fun _ => (And.intro rfl hK)) (fun q => absurd c_2 q))))⟩
    · have hf := mo_neg hf c_2
      by_cases c_3 : a1 < (1 : Int32)
      · have hf := mo_pos hf c_3
        obtain ⟨rfl, rfl⟩ := mo_pair hf
        exact ⟨12, (And.intro (fun q => absurd q c_1) (fun _ => (And.intro (fun q => absurd q c_2) (fun _ => (And.intro (fun _ => (And.intro rfl hK)) (fun q => absurd c_3 q))))))⟩
      · have hf := mo_neg hf c_3
        by_cases c_4 : (5 : Int32) < a1
        · have hf := mo_pos hf c_4
          obtain ⟨rfl, rfl⟩ := mo_pair hf
          exact ⟨15, (And.intro (fun q => absurd q c_1) (fun _ => (And.intro (fun q => absurd q c_2) (fun _ => (And.intro (fun q => absurd q c_3) (fun _ => (And.intro (fun _ => (And.intro rfl hK)) (fun q => absurd c_4 q))))))))⟩
        · have hf := mo_neg hf c_4
          obtain ⟨rfl, rfl⟩ := mo_pair hf
          exact ⟨16, (And.intro (fun q => absurd q c_1) (fun _ => (And.intro (fun q => absurd q c_2) (fun _ => (And.intro (fun q => absurd q c_3) (fun _ => (And.intro (fun q => absurd q c_4) (fun _ => (And.intro rfl hK)))))))))⟩
def xk_11_isKnown (C : mm_C) : Prop := ∀ (pt : Value) (ps : Value) (pg : Value) (pr : Value) (s : xs_S) (a0 : Int32) (a1 : Int32) (v : Int32) (s2 : xs_S) (Q : mm_R), xf_11_isKnown s a0 a1 = some (v, s2) → Q (some (.int v)) (xs_H pt ps pg pr s2) → C 265 [.ref 0, .int a0, .int a1] (xs_H pt ps pg pr s) Q
-- 7_fill_53178_125
noncomputable def xf_7_fill_53178_125_l5 (v1 : Int32) (v3 : Int32) : (Int32 × xs_S) → Option ((Int32 × xs_S) ⊕ ((xs_S))) := fun (w2, s) =>
(if v3 ≤ w2 then
some (.inr (s))
else
(bif mo_in w2 6 then some (.inl ((w2 + (1 : Int32)), (xs_sA s 125 (upd (s.2.1 125) (w2).toNatClampNeg (v1))))) else none))
set_option maxHeartbeats 4000000 in
theorem xb_7_fill_53178_125_l5 {C : mm_C} {Q : mm_R} {pt : Value} {ps : Value} {pg : Value} {pr : Value}  (v1 : Int32) (v3 : Int32) (t : Int32 × xs_S) (x : (xs_S)) (hl : mo_loop (xf_7_fill_53178_125_l5 v1 v3) t = some x) (hK : (fun sy => mm_go C mm_Mk mm_Fk P_J7_fill_53178 Q (P_J7_fill_53178.drop 14) [] [] (xs_H pt ps pg pr sy) 0 0) x) : (mo_c2 (fun y2 sy => mm_go C mm_Mk mm_Fk P_J7_fill_53178 Q (P_J7_fill_53178.drop 5) [(0, .ref 125), (1, .int v1), (2, .int y2), (3, .int v3)] [] (xs_H pt ps pg pr sy) 0 0)) t := by
  refine mo_loop_go (G := (mo_c2 (fun y2 sy => mm_go C mm_Mk mm_Fk P_J7_fill_53178 Q (P_J7_fill_53178.drop 5) [(0, .ref 125), (1, .int v1), (2, .int y2), (3, .int v3)] [] (xs_H pt ps pg pr sy) 0 0)) ) (K := (fun sy => mm_go C mm_Mk mm_Fk P_J7_fill_53178 Q (P_J7_fill_53178.drop 14) [] [] (xs_H pt ps pg pr sy) 0 0) ) ?_ t x hl hK
  intro t r hf hK
  obtain ⟨w2, s⟩ := t
  unfold xf_7_fill_53178_125_l5 at hf
  by_cases c_1 : v3 ≤ w2
  · have hf := mo_pos hf c_1
    obtain rfl := Option.some.inj hf
    refine mm_adv 3 (cs' := P_J7_fill_53178.drop 14) (l' := [(0, .ref 125), (1, .int v1), (2, .int w2), (3, .int v3)]) (st' := []) (h' := (xs_H pt ps pg pr s)) (bc' := 0) (bs' := 0) (fun n g => (And.intro (fun _ => g) (fun q => absurd c_1 q))) ?_
    exact mm_re (c := []) hK rfl rfl
  · have hf := mo_neg hf c_1
    obtain ⟨hi_2, hf⟩ := mo_if hf
    obtain rfl := Option.some.inj hf
    refine mm_adv 9 (cs' := P_J7_fill_53178.drop 5) (l' := [(2, .int (w2 + (1 : Int32))), (0, .ref 125), (1, .int v1), (3, .int v3)]) (st' := []) (h' := (xs_H pt ps pg pr (xs_sA s 125 (upd (s.2.1 125) (w2).toNatClampNeg (v1))))) (bc' := 0) (bs' := 0) (fun n g => (And.intro (fun q => absurd q c_1) (fun _ => (And.intro hi_2 g)))) ?_
    exact mm_re (c := [(0, .ref 125), (1, .int v1), (2, .int (w2 + (1 : Int32))), (3, .int v3)]) hK rfl rfl
noncomputable def xf_7_fill_53178_125 (s : xs_S) (a1 : Int32) : Option (xs_S) :=
((mo_loop (xf_7_fill_53178_125_l5 (a1) ((Int32.ofNat 6))) ((0 : Int32), s)).bind fun s_3 =>
some s_3)
set_option maxHeartbeats 4000000 in
theorem xb_7_fill_53178_125 {C : mm_C} {Q : mm_R} {pt : Value} {ps : Value} {pg : Value} {pr : Value}  (s : xs_S) (a1 : Int32) (s2 : xs_S) (hf : xf_7_fill_53178_125 s a1 = some s2) (hK : Q (none) (xs_H pt ps pg pr s2)) : mm_go C mm_Mk mm_Fk P_J7_fill_53178 Q P_J7_fill_53178 [(0, .ref 125), (1, .int a1)] [] (xs_H pt ps pg pr s) 0 0 := by
  unfold xf_7_fill_53178_125 at hf
  obtain ⟨x_3, hl_3, hf⟩ := mo_bind hf
  refine mm_adv 5 (cs' := P_J7_fill_53178.drop 5) (l' := [(3, .int (Int32.ofNat 6)), (2, .int (0 : Int32)), (0, .ref 125), (1, .int a1)]) (st' := []) (h' := (xs_H pt ps pg pr s)) (bc' := 0) (bs' := 0) (fun n g => g) ?_
  refine mm_re (l' := [(0, .ref 125), (1, .int a1), (2, .int (0 : Int32)), (3, .int (Int32.ofNat 6))]) (c := [(0, .ref 125), (1, .int a1), (2, .int (0 : Int32)), (3, .int (Int32.ofNat 6))]) ?_ rfl rfl
  refine xb_7_fill_53178_125_l5  (a1) ((Int32.ofNat 6)) ((0 : Int32), s) x_3 hl_3 ?_
  obtain ⟨s_3, rfl⟩ : ∃ q, q = x_3 := ⟨_, rfl⟩
  obtain rfl := Option.some.inj hf
  exact ⟨1, hK⟩
def xk_7_fill_53178_125 (C : mm_C) : Prop := ∀ (pt : Value) (ps : Value) (pg : Value) (pr : Value) (s : xs_S) (a1 : Int32) (s2 : xs_S) (Q : mm_R), xf_7_fill_53178_125 s a1 = some s2 → Q (none) (xs_H pt ps pg pr s2) → C 123 [.ref 125, .int a1] (xs_H pt ps pg pr s) Q
-- 9_isWithinLength
noncomputable def xf_9_isWithinLength_l2  : (Int32 × xs_S) → Option ((Int32 × xs_S) ⊕ ((xs_S) ⊕ (xs_S))) := fun (w1, s) =>
(if (s.1 1925) ≤ w1 then
some (.inr (.inr (s)))
else
((mo_ag 20 (s.2.1 121) w1).bind fun x_2 =>
(if x_2 ≤ (s.1 1926) then
some (.inl ((w1 + (1 : Int32)), s))
else
some (.inr (.inl (s))))))
set_option maxHeartbeats 4000000 in
theorem xb_9_isWithinLength_l2 {C : mm_C} {Q : mm_R} {pt : Value} {ps : Value} {pg : Value} {pr : Value}   (t : Int32 × xs_S) (x : (xs_S) ⊕ (xs_S)) (hl : mo_loop (xf_9_isWithinLength_l2 ) t = some x) (hK : (mo_sum (fun sy => mm_go C mm_Mk mm_Fk P_X9_isWithinLength Q (P_X9_isWithinLength.drop 13) [] [] (xs_H pt ps pg pr sy) 0 0) (fun sy => mm_go C mm_Mk mm_Fk P_X9_isWithinLength Q (P_X9_isWithinLength.drop 17) [] [] (xs_H pt ps pg pr sy) 0 0)) x) : (mo_c2 (fun y1 sy => mm_go C mm_Mk mm_Fk P_X9_isWithinLength Q (P_X9_isWithinLength.drop 2) [(0, .ref 120), (1, .int y1)] [] (xs_H pt ps pg pr sy) 0 0)) t := by
  refine mo_loop_go (G := (mo_c2 (fun y1 sy => mm_go C mm_Mk mm_Fk P_X9_isWithinLength Q (P_X9_isWithinLength.drop 2) [(0, .ref 120), (1, .int y1)] [] (xs_H pt ps pg pr sy) 0 0)) ) (K := (mo_sum (fun sy => mm_go C mm_Mk mm_Fk P_X9_isWithinLength Q (P_X9_isWithinLength.drop 13) [] [] (xs_H pt ps pg pr sy) 0 0) (fun sy => mm_go C mm_Mk mm_Fk P_X9_isWithinLength Q (P_X9_isWithinLength.drop 17) [] [] (xs_H pt ps pg pr sy) 0 0)) ) ?_ t x hl hK
  intro t r hf hK
  obtain ⟨w1, s⟩ := t
  unfold xf_9_isWithinLength_l2 at hf
  by_cases c_1 : (s.1 1925) ≤ w1
  · have hf := mo_pos hf c_1
    obtain rfl := Option.some.inj hf
    refine mm_adv 4 (cs' := P_X9_isWithinLength.drop 17) (l' := [(0, .ref 120), (1, .int w1)]) (st' := []) (h' := (xs_H pt ps pg pr s)) (bc' := 0) (bs' := 0) (fun n g => (And.intro (fun _ => g) (fun q => absurd c_1 q))) ?_
    exact mm_re (c := []) hK rfl rfl
  · have hf := mo_neg hf c_1
    obtain ⟨x_2, hx_2, hf⟩ := mo_bind hf
    obtain ⟨hi_2, rfl⟩ := mo_ag_inv hx_2
    by_cases c_3 : ((s.2.1 121) (w1).toNatClampNeg) ≤ (s.1 1926)
    · have hf := mo_pos hf c_3
      obtain rfl := Option.some.inj hf
      refine mm_adv 13 (cs' := P_X9_isWithinLength.drop 2) (l' := [(1, .int (w1 + (1 : Int32))), (0, .ref 120)]) (st' := []) (h' := (xs_H pt ps pg pr s)) (bc' := 0) (bs' := 0) (fun n g => (And.intro (fun q => absurd q c_1) (fun _ => (And.intro hi_2 (And.intro (fun _ => g) (fun q => absurd c_3 q)))))) ?_
      exact mm_re (c := [(0, .ref 120), (1, .int (w1 + (1 : Int32)))]) hK rfl rfl
    · have hf := mo_neg hf c_3
      obtain rfl := Option.some.inj hf
      refine mm_adv 11 (cs' := P_X9_isWithinLength.drop 13) (l' := [(0, .ref 120), (1, .int w1)]) (st' := []) (h' := (xs_H pt ps pg pr s)) (bc' := 0) (bs' := 0) (fun n g => (And.intro (fun q => absurd q c_1) (fun _ => (And.intro hi_2 (And.intro (fun q => absurd q c_3) (fun _ => g)))))) ?_
      exact mm_re (c := []) hK rfl rfl
noncomputable def xf_9_isWithinLength (s : xs_S)  : Option (Int32 × xs_S) :=
((mo_loop (xf_9_isWithinLength_l2 ) ((0 : Int32), s)).bind fun x_4 =>
match x_4 with
| (.inl s_4) => some ((0 : Int32), s_4)
| (.inr s_4) => some ((1 : Int32), s_4)
)
set_option maxHeartbeats 4000000 in
theorem xb_9_isWithinLength {C : mm_C} {Q : mm_R} {pt : Value} {ps : Value} {pg : Value} {pr : Value}  (s : xs_S)  (v : Int32) (s2 : xs_S) (hf : xf_9_isWithinLength s = some (v, s2)) (hK : Q (some (.int v)) (xs_H pt ps pg pr s2)) : mm_go C mm_Mk mm_Fk P_X9_isWithinLength Q P_X9_isWithinLength [(0, .ref 120)] [] (xs_H pt ps pg pr s) 0 0 := by
  unfold xf_9_isWithinLength at hf
  obtain ⟨x_4, hl_4, hf⟩ := mo_bind hf
  refine mm_adv 2 (cs' := P_X9_isWithinLength.drop 2) (l' := [(1, .int (0 : Int32)), (0, .ref 120)]) (st' := []) (h' := (xs_H pt ps pg pr s)) (bc' := 0) (bs' := 0) (fun n g => g) ?_
  refine mm_re (l' := [(0, .ref 120), (1, .int (0 : Int32))]) (c := [(0, .ref 120), (1, .int (0 : Int32))]) ?_ rfl rfl
  refine xb_9_isWithinLength_l2   ((0 : Int32), s) x_4 hl_4 ?_
  cases x_4 with
  | inl y_4 =>
    obtain ⟨s_4, rfl⟩ : ∃ q, q = y_4 := ⟨_, rfl⟩
    obtain ⟨rfl, rfl⟩ := mo_pair hf
    exact ⟨2, (And.intro rfl hK)⟩
  | inr z_4_0 =>
    obtain ⟨s_4, rfl⟩ : ∃ q, q = z_4_0 := ⟨_, rfl⟩
    obtain ⟨rfl, rfl⟩ := mo_pair hf
    exact ⟨2, (And.intro rfl hK)⟩
def xk_9_isWithinLength (C : mm_C) : Prop := ∀ (pt : Value) (ps : Value) (pg : Value) (pr : Value) (s : xs_S)  (v : Int32) (s2 : xs_S) (Q : mm_R), xf_9_isWithinLength s = some (v, s2) → Q (some (.int v)) (xs_H pt ps pg pr s2) → C 214 [.ref 120] (xs_H pt ps pg pr s) Q
-- xr X9_goOn
def xr_9_goOn (rec : xs_S → Int32 → Int32 → Int32 → Option xs_S) (C : mm_C) : Prop := ∀ (pt : Value) (ps : Value) (pr : Value) (s : xs_S) (a0 : Int32) (a1 : Int32) (a2 : Int32) (s2 : xs_S) (Q : mm_R), rec s a0 a1 a2 = some s2 → Q none (xs_H pt ps (.ref 9) pr s2) → C 212 [.ref 120, .int a0, .int a1, .int a2] (xs_H pt ps (.ref 9) pr s) Q
-- 9_agrees
noncomputable def xf_9_agrees_j28 (s : xs_S) (v1 : Int32) (v2 : Int32) (v3 : Int32) : Option ((Int32 × xs_S) ⊕ ((xs_S) ⊕ (xs_S))) :=
some (.inl ((v3 + (1 : Int32)), s))
set_option maxHeartbeats 4000000 in
theorem xb_9_agrees_j28 {C : mm_C} {Q : mm_R} {pt : Value} {ps : Value} {pg : Value} {pr : Value}  (s : xs_S) (v1 : Int32) (v2 : Int32) (v3 : Int32) (r : (Int32 × xs_S) ⊕ ((xs_S) ⊕ (xs_S))) (hf : xf_9_agrees_j28 s v1 v2 v3 = some r) (hK : mo_sum (mo_c2 (fun y3 sy => mm_go C mm_Mk mm_Fk P_X9_agrees Q (P_X9_agrees.drop 2) [(0, .ref 120), (1, .int v1), (2, .int v2), (3, .int y3)] [] (xs_H pt ps pg pr sy) 0 0))  (mo_sum (fun sy => mm_go C mm_Mk mm_Fk P_X9_agrees Q (P_X9_agrees.drop 26) [] [] (xs_H pt ps pg pr sy) 0 0) (fun sy => mm_go C mm_Mk mm_Fk P_X9_agrees Q (P_X9_agrees.drop 30) [] [] (xs_H pt ps pg pr sy) 0 0))  r) : mm_go C mm_Mk mm_Fk P_X9_agrees Q (P_X9_agrees.drop 28) [(0, .ref 120), (1, .int v1), (2, .int v2), (3, .int v3)] [] (xs_H pt ps pg pr s) 0 0 := by
  unfold xf_9_agrees_j28 at hf
  obtain rfl := Option.some.inj hf
  refine mm_adv 2 (cs' := P_X9_agrees.drop 2) (l' := [(3, .int (v3 + (1 : Int32))), (0, .ref 120), (1, .int v1), (2, .int v2)]) (st' := []) (h' := (xs_H pt ps pg pr s)) (bc' := 0) (bs' := 0) (fun n g => g) ?_
  exact mm_re (c := [(0, .ref 120), (1, .int v1), (2, .int v2), (3, .int (v3 + (1 : Int32)))]) hK rfl rfl
noncomputable def xf_9_agrees_j21 (s : xs_S) (v1 : Int32) (v2 : Int32) (v3 : Int32) (k0 : Int32) : Option ((Int32 × xs_S) ⊕ ((xs_S) ⊕ (xs_S))) :=
((mo_ag 20 (s.2.1 123) v3).bind fun x_6 =>
(if k0 = x_6 then
(xf_9_agrees_j28 (s) (v1) (v2) (v3))
else
some (.inr (.inl (s)))))
set_option maxHeartbeats 4000000 in
theorem xb_9_agrees_j21 {C : mm_C} {Q : mm_R} {pt : Value} {ps : Value} {pg : Value} {pr : Value}  (s : xs_S) (v1 : Int32) (v2 : Int32) (v3 : Int32) (k0 : Int32) (r : (Int32 × xs_S) ⊕ ((xs_S) ⊕ (xs_S))) (hf : xf_9_agrees_j21 s v1 v2 v3 k0 = some r) (hK : mo_sum (mo_c2 (fun y3 sy => mm_go C mm_Mk mm_Fk P_X9_agrees Q (P_X9_agrees.drop 2) [(0, .ref 120), (1, .int v1), (2, .int v2), (3, .int y3)] [] (xs_H pt ps pg pr sy) 0 0))  (mo_sum (fun sy => mm_go C mm_Mk mm_Fk P_X9_agrees Q (P_X9_agrees.drop 26) [] [] (xs_H pt ps pg pr sy) 0 0) (fun sy => mm_go C mm_Mk mm_Fk P_X9_agrees Q (P_X9_agrees.drop 30) [] [] (xs_H pt ps pg pr sy) 0 0))  r) : mm_go C mm_Mk mm_Fk P_X9_agrees Q (P_X9_agrees.drop 21) [(0, .ref 120), (1, .int v1), (2, .int v2), (3, .int v3)] [.int k0] (xs_H pt ps pg pr s) 0 0 := by
  unfold xf_9_agrees_j21 at hf
  obtain ⟨x_6, hx_6, hf⟩ := mo_bind hf
  obtain ⟨hi_6, rfl⟩ := mo_ag_inv hx_6
  by_cases c_7 : k0 = ((s.2.1 123) (v3).toNatClampNeg)
  · have hf := mo_pos hf c_7
    refine mm_adv 5 (cs' := P_X9_agrees.drop 28) (l' := [(0, .ref 120), (1, .int v1), (2, .int v2), (3, .int v3)]) (st' := []) (h' := (xs_H pt ps pg pr s)) (bc' := 0) (bs' := 0) (fun n g => (And.intro hi_6 (And.intro (fun _ => g) (fun q => absurd c_7 q)))) ?_
    refine mm_re (l' := [(0, .ref 120), (1, .int v1), (2, .int v2), (3, .int v3)]) (c := [(0, .ref 120), (1, .int v1), (2, .int v2), (3, .int v3)]) ?_ rfl rfl
    exact xb_9_agrees_j28  s (v1) (v2) (v3) _ hf hK
  · have hf := mo_neg hf c_7
    obtain rfl := Option.some.inj hf
    refine mm_adv 5 (cs' := P_X9_agrees.drop 26) (l' := [(0, .ref 120), (1, .int v1), (2, .int v2), (3, .int v3)]) (st' := []) (h' := (xs_H pt ps pg pr s)) (bc' := 0) (bs' := 0) (fun n g => (And.intro hi_6 (And.intro (fun q => absurd q c_7) (fun _ => g)))) ?_
    exact mm_re (c := []) hK rfl rfl
noncomputable def xf_9_agrees_l2 (v1 : Int32) (v2 : Int32) : (Int32 × xs_S) → Option ((Int32 × xs_S) ⊕ ((xs_S) ⊕ (xs_S))) := fun (w3, s) =>
(if (s.1 1925) ≤ w3 then
some (.inr (.inr (s)))
else
((mo_ag 20 (s.2.1 121) w3).bind fun x_2 =>
(if x_2 = v1 then
((mo_ag 20 (s.2.1 122) w3).bind fun x_4 =>
(if v2 < x_4 then
(xf_9_agrees_j21 (s) (v1) (v2) (w3) ((0 : Int32)))
else
(xf_9_agrees_j21 (s) (v1) (v2) (w3) ((1 : Int32)))))
else
(xf_9_agrees_j28 (s) (v1) (v2) (w3)))))
set_option maxHeartbeats 4000000 in
theorem xb_9_agrees_l2 {C : mm_C} {Q : mm_R} {pt : Value} {ps : Value} {pg : Value} {pr : Value}  (v1 : Int32) (v2 : Int32) (t : Int32 × xs_S) (x : (xs_S) ⊕ (xs_S)) (hl : mo_loop (xf_9_agrees_l2 v1 v2) t = some x) (hK : (mo_sum (fun sy => mm_go C mm_Mk mm_Fk P_X9_agrees Q (P_X9_agrees.drop 26) [] [] (xs_H pt ps pg pr sy) 0 0) (fun sy => mm_go C mm_Mk mm_Fk P_X9_agrees Q (P_X9_agrees.drop 30) [] [] (xs_H pt ps pg pr sy) 0 0)) x) : (mo_c2 (fun y3 sy => mm_go C mm_Mk mm_Fk P_X9_agrees Q (P_X9_agrees.drop 2) [(0, .ref 120), (1, .int v1), (2, .int v2), (3, .int y3)] [] (xs_H pt ps pg pr sy) 0 0)) t := by
  refine mo_loop_go (G := (mo_c2 (fun y3 sy => mm_go C mm_Mk mm_Fk P_X9_agrees Q (P_X9_agrees.drop 2) [(0, .ref 120), (1, .int v1), (2, .int v2), (3, .int y3)] [] (xs_H pt ps pg pr sy) 0 0)) ) (K := (mo_sum (fun sy => mm_go C mm_Mk mm_Fk P_X9_agrees Q (P_X9_agrees.drop 26) [] [] (xs_H pt ps pg pr sy) 0 0) (fun sy => mm_go C mm_Mk mm_Fk P_X9_agrees Q (P_X9_agrees.drop 30) [] [] (xs_H pt ps pg pr sy) 0 0)) ) ?_ t x hl hK
  intro t r hf hK
  obtain ⟨w3, s⟩ := t
  unfold xf_9_agrees_l2 at hf
  by_cases c_1 : (s.1 1925) ≤ w3
  · have hf := mo_pos hf c_1
    obtain rfl := Option.some.inj hf
    refine mm_adv 4 (cs' := P_X9_agrees.drop 30) (l' := [(0, .ref 120), (1, .int v1), (2, .int v2), (3, .int w3)]) (st' := []) (h' := (xs_H pt ps pg pr s)) (bc' := 0) (bs' := 0) (fun n g => (And.intro (fun _ => g) (fun q => absurd c_1 q))) ?_
    exact mm_re (c := []) hK rfl rfl
  · have hf := mo_neg hf c_1
    obtain ⟨x_2, hx_2, hf⟩ := mo_bind hf
    obtain ⟨hi_2, rfl⟩ := mo_ag_inv hx_2
    by_cases c_3 : ((s.2.1 121) (w3).toNatClampNeg) = v1
    · have hf := mo_pos hf c_3
      obtain ⟨x_4, hx_4, hf⟩ := mo_bind hf
      obtain ⟨hi_4, rfl⟩ := mo_ag_inv hx_4
      by_cases c_5 : v2 < ((s.2.1 122) (w3).toNatClampNeg)
      · have hf := mo_pos hf c_5
        refine mm_adv 17 (cs' := P_X9_agrees.drop 21) (l' := [(0, .ref 120), (1, .int v1), (2, .int v2), (3, .int w3)]) (st' := [.int (0 : Int32)]) (h' := (xs_H pt ps pg pr s)) (bc' := 0) (bs' := 0) (fun n g => (And.intro (fun q => absurd q c_1) (fun _ => (And.intro hi_2 (And.intro (fun q => absurd c_3 q) (fun _ => (And.intro hi_4 (And.intro (fun _ => g) (fun q => absurd c_5 q))))))))) ?_
        refine mm_re (l' := [(0, .ref 120), (1, .int v1), (2, .int v2), (3, .int w3)]) (c := [(0, .ref 120), (1, .int v1), (2, .int v2), (3, .int w3)]) ?_ rfl rfl
        exact xb_9_agrees_j21  s (v1) (v2) (w3) ((0 : Int32)) _ hf hK
      · have hf := mo_neg hf c_5
        refine mm_adv 18 (cs' := P_X9_agrees.drop 21) (l' := [(0, .ref 120), (1, .int v1), (2, .int v2), (3, .int w3)]) (st' := [.int (1 : Int32)]) (h' := (xs_H pt ps pg pr s)) (bc' := 0) (bs' := 0) (fun n g => (And.intro (fun q => absurd q c_1) (fun _ => (And.intro hi_2 (And.intro (fun q => absurd c_3 q) (fun _ => (And.intro hi_4 (And.intro (fun q => absurd q c_5) (fun _ => g))))))))) ?_
        refine mm_re (l' := [(0, .ref 120), (1, .int v1), (2, .int v2), (3, .int w3)]) (c := [(0, .ref 120), (1, .int v1), (2, .int v2), (3, .int w3)]) ?_ rfl rfl
        exact xb_9_agrees_j21  s (v1) (v2) (w3) ((1 : Int32)) _ hf hK
    · have hf := mo_neg hf c_3
      refine mm_adv 10 (cs' := P_X9_agrees.drop 28) (l' := [(0, .ref 120), (1, .int v1), (2, .int v2), (3, .int w3)]) (st' := []) (h' := (xs_H pt ps pg pr s)) (bc' := 0) (bs' := 0) (fun n g => (And.intro (fun q => absurd q c_1) (fun _ => (And.intro hi_2 (And.intro (fun _ => g) (fun q => absurd c_3 q)))))) ?_
      refine mm_re (l' := [(0, .ref 120), (1, .int v1), (2, .int v2), (3, .int w3)]) (c := [(0, .ref 120), (1, .int v1), (2, .int v2), (3, .int w3)]) ?_ rfl rfl
      exact xb_9_agrees_j28  s (v1) (v2) (w3) _ hf hK
noncomputable def xf_9_agrees (s : xs_S) (a0 : Int32) (a1 : Int32) : Option (Int32 × xs_S) :=
((mo_loop (xf_9_agrees_l2 (a0) (a1)) ((0 : Int32), s)).bind fun x_8 =>
match x_8 with
| (.inl s_8) => some ((0 : Int32), s_8)
| (.inr s_8) => some ((1 : Int32), s_8)
)
set_option maxHeartbeats 4000000 in
theorem xb_9_agrees {C : mm_C} {Q : mm_R} {pt : Value} {ps : Value} {pg : Value} {pr : Value}  (s : xs_S) (a0 : Int32) (a1 : Int32) (v : Int32) (s2 : xs_S) (hf : xf_9_agrees s a0 a1 = some (v, s2)) (hK : Q (some (.int v)) (xs_H pt ps pg pr s2)) : mm_go C mm_Mk mm_Fk P_X9_agrees Q P_X9_agrees [(0, .ref 120), (1, .int a0), (2, .int a1)] [] (xs_H pt ps pg pr s) 0 0 := by
  unfold xf_9_agrees at hf
  obtain ⟨x_8, hl_8, hf⟩ := mo_bind hf
  refine mm_adv 2 (cs' := P_X9_agrees.drop 2) (l' := [(3, .int (0 : Int32)), (0, .ref 120), (1, .int a0), (2, .int a1)]) (st' := []) (h' := (xs_H pt ps pg pr s)) (bc' := 0) (bs' := 0) (fun n g => g) ?_
  refine mm_re (l' := [(0, .ref 120), (1, .int a0), (2, .int a1), (3, .int (0 : Int32))]) (c := [(0, .ref 120), (1, .int a0), (2, .int a1), (3, .int (0 : Int32))]) ?_ rfl rfl
  refine xb_9_agrees_l2  (a0) (a1) ((0 : Int32), s) x_8 hl_8 ?_
  cases x_8 with
  | inl y_8 =>
    obtain ⟨s_8, rfl⟩ : ∃ q, q = y_8 := ⟨_, rfl⟩
    obtain ⟨rfl, rfl⟩ := mo_pair hf
    exact ⟨2, (And.intro rfl hK)⟩
  | inr z_8_0 =>
    obtain ⟨s_8, rfl⟩ : ∃ q, q = z_8_0 := ⟨_, rfl⟩
    obtain ⟨rfl, rfl⟩ := mo_pair hf
    exact ⟨2, (And.intro rfl hK)⟩
def xk_9_agrees (C : mm_C) : Prop := ∀ (pt : Value) (ps : Value) (pg : Value) (pr : Value) (s : xs_S) (a0 : Int32) (a1 : Int32) (v : Int32) (s2 : xs_S) (Q : mm_R), xf_9_agrees s a0 a1 = some (v, s2) → Q (some (.int v)) (xs_H pt ps pg pr s2) → C 215 [.ref 120, .int a0, .int a1] (xs_H pt ps pg pr s) Q
