/-! the class, method by method, 6 -/
-- 2_copyFrom_93_25
noncomputable def xf_2_copyFrom_93_25 (s : xs_S)  : Option (xs_S) :=
some (xs_sA (xs_sI (xs_sI (xs_sI (xs_sI (xs_sI s 1488 ((s.1 400))) 1489 ((s.1 401))) 1490 ((s.1 402))) 1491 ((s.1 403))) 1492 ((s.1 404))) 94 (va_cpy (s.2.1 26) (s.2.1 94) 0 0 5))
set_option maxHeartbeats 4000000 in
theorem xb_2_copyFrom_93_25 {C : mm_C} {Q : mm_R} {pt : Value} {ps : Value} {pg : Value} {pr : Value}  (s : xs_S)  (s2 : xs_S) (hf : xf_2_copyFrom_93_25 s = some s2) (hK : Q (none) (xs_H pt ps pg pr s2)) : mm_go C mm_Mk mm_Fk P_X2_copyFrom Q P_X2_copyFrom [(0, .ref 93), (1, .ref 25)] [] (xs_H pt ps pg pr s) 0 0 := by
  unfold xf_2_copyFrom_93_25 at hf
  obtain rfl := Option.some.inj hf
  exact ⟨29, (And.intro trivial (And.intro trivial (And.intro trivial (And.intro trivial (And.intro trivial (And.intro (by decide) hK))))))⟩
def xk_2_copyFrom_93_25 (C : mm_C) : Prop := ∀ (pt : Value) (ps : Value) (pg : Value) (pr : Value) (s : xs_S)  (s2 : xs_S) (Q : mm_R), xf_2_copyFrom_93_25 s = some s2 → Q (none) (xs_H pt ps pg pr s2) → C 149 [.ref 93, .ref 25] (xs_H pt ps pg pr s) Q
-- 2_copyFrom_95_25
noncomputable def xf_2_copyFrom_95_25 (s : xs_S)  : Option (xs_S) :=
some (xs_sA (xs_sI (xs_sI (xs_sI (xs_sI (xs_sI s 1520 ((s.1 400))) 1521 ((s.1 401))) 1522 ((s.1 402))) 1523 ((s.1 403))) 1524 ((s.1 404))) 96 (va_cpy (s.2.1 26) (s.2.1 96) 0 0 5))
set_option maxHeartbeats 4000000 in
theorem xb_2_copyFrom_95_25 {C : mm_C} {Q : mm_R} {pt : Value} {ps : Value} {pg : Value} {pr : Value}  (s : xs_S)  (s2 : xs_S) (hf : xf_2_copyFrom_95_25 s = some s2) (hK : Q (none) (xs_H pt ps pg pr s2)) : mm_go C mm_Mk mm_Fk P_X2_copyFrom Q P_X2_copyFrom [(0, .ref 95), (1, .ref 25)] [] (xs_H pt ps pg pr s) 0 0 := by
  unfold xf_2_copyFrom_95_25 at hf
  obtain rfl := Option.some.inj hf
  exact ⟨29, (And.intro trivial (And.intro trivial (And.intro trivial (And.intro trivial (And.intro trivial (And.intro (by decide) hK))))))⟩
def xk_2_copyFrom_95_25 (C : mm_C) : Prop := ∀ (pt : Value) (ps : Value) (pg : Value) (pr : Value) (s : xs_S)  (s2 : xs_S) (Q : mm_R), xf_2_copyFrom_95_25 s = some s2 → Q (none) (xs_H pt ps pg pr s2) → C 149 [.ref 95, .ref 25] (xs_H pt ps pg pr s) Q
-- 2_copyFrom_97_25
noncomputable def xf_2_copyFrom_97_25 (s : xs_S)  : Option (xs_S) :=
some (xs_sA (xs_sI (xs_sI (xs_sI (xs_sI (xs_sI s 1552 ((s.1 400))) 1553 ((s.1 401))) 1554 ((s.1 402))) 1555 ((s.1 403))) 1556 ((s.1 404))) 98 (va_cpy (s.2.1 26) (s.2.1 98) 0 0 5))
set_option maxHeartbeats 4000000 in
theorem xb_2_copyFrom_97_25 {C : mm_C} {Q : mm_R} {pt : Value} {ps : Value} {pg : Value} {pr : Value}  (s : xs_S)  (s2 : xs_S) (hf : xf_2_copyFrom_97_25 s = some s2) (hK : Q (none) (xs_H pt ps pg pr s2)) : mm_go C mm_Mk mm_Fk P_X2_copyFrom Q P_X2_copyFrom [(0, .ref 97), (1, .ref 25)] [] (xs_H pt ps pg pr s) 0 0 := by
  unfold xf_2_copyFrom_97_25 at hf
  obtain rfl := Option.some.inj hf
  exact ⟨29, (And.intro trivial (And.intro trivial (And.intro trivial (And.intro trivial (And.intro trivial (And.intro (by decide) hK))))))⟩
def xk_2_copyFrom_97_25 (C : mm_C) : Prop := ∀ (pt : Value) (ps : Value) (pg : Value) (pr : Value) (s : xs_S)  (s2 : xs_S) (Q : mm_R), xf_2_copyFrom_97_25 s = some s2 → Q (none) (xs_H pt ps pg pr s2) → C 149 [.ref 97, .ref 25] (xs_H pt ps pg pr s) Q
-- 2_copyFrom_99_25
noncomputable def xf_2_copyFrom_99_25 (s : xs_S)  : Option (xs_S) :=
some (xs_sA (xs_sI (xs_sI (xs_sI (xs_sI (xs_sI s 1584 ((s.1 400))) 1585 ((s.1 401))) 1586 ((s.1 402))) 1587 ((s.1 403))) 1588 ((s.1 404))) 100 (va_cpy (s.2.1 26) (s.2.1 100) 0 0 5))
set_option maxHeartbeats 4000000 in
theorem xb_2_copyFrom_99_25 {C : mm_C} {Q : mm_R} {pt : Value} {ps : Value} {pg : Value} {pr : Value}  (s : xs_S)  (s2 : xs_S) (hf : xf_2_copyFrom_99_25 s = some s2) (hK : Q (none) (xs_H pt ps pg pr s2)) : mm_go C mm_Mk mm_Fk P_X2_copyFrom Q P_X2_copyFrom [(0, .ref 99), (1, .ref 25)] [] (xs_H pt ps pg pr s) 0 0 := by
  unfold xf_2_copyFrom_99_25 at hf
  obtain rfl := Option.some.inj hf
  exact ⟨29, (And.intro trivial (And.intro trivial (And.intro trivial (And.intro trivial (And.intro trivial (And.intro (by decide) hK))))))⟩
def xk_2_copyFrom_99_25 (C : mm_C) : Prop := ∀ (pt : Value) (ps : Value) (pg : Value) (pr : Value) (s : xs_S)  (s2 : xs_S) (Q : mm_R), xf_2_copyFrom_99_25 s = some s2 → Q (none) (xs_H pt ps pg pr s2) → C 149 [.ref 99, .ref 25] (xs_H pt ps pg pr s) Q
-- 2_copyFrom_101_25
noncomputable def xf_2_copyFrom_101_25 (s : xs_S)  : Option (xs_S) :=
some (xs_sA (xs_sI (xs_sI (xs_sI (xs_sI (xs_sI s 1616 ((s.1 400))) 1617 ((s.1 401))) 1618 ((s.1 402))) 1619 ((s.1 403))) 1620 ((s.1 404))) 102 (va_cpy (s.2.1 26) (s.2.1 102) 0 0 5))
set_option maxHeartbeats 4000000 in
theorem xb_2_copyFrom_101_25 {C : mm_C} {Q : mm_R} {pt : Value} {ps : Value} {pg : Value} {pr : Value}  (s : xs_S)  (s2 : xs_S) (hf : xf_2_copyFrom_101_25 s = some s2) (hK : Q (none) (xs_H pt ps pg pr s2)) : mm_go C mm_Mk mm_Fk P_X2_copyFrom Q P_X2_copyFrom [(0, .ref 101), (1, .ref 25)] [] (xs_H pt ps pg pr s) 0 0 := by
  unfold xf_2_copyFrom_101_25 at hf
  obtain rfl := Option.some.inj hf
  exact ⟨29, (And.intro trivial (And.intro trivial (And.intro trivial (And.intro trivial (And.intro trivial (And.intro (by decide) hK))))))⟩
def xk_2_copyFrom_101_25 (C : mm_C) : Prop := ∀ (pt : Value) (ps : Value) (pg : Value) (pr : Value) (s : xs_S)  (s2 : xs_S) (Q : mm_R), xf_2_copyFrom_101_25 s = some s2 → Q (none) (xs_H pt ps pg pr s2) → C 149 [.ref 101, .ref 25] (xs_H pt ps pg pr s) Q
-- 2_copyFrom_103_25
noncomputable def xf_2_copyFrom_103_25 (s : xs_S)  : Option (xs_S) :=
some (xs_sA (xs_sI (xs_sI (xs_sI (xs_sI (xs_sI s 1648 ((s.1 400))) 1649 ((s.1 401))) 1650 ((s.1 402))) 1651 ((s.1 403))) 1652 ((s.1 404))) 104 (va_cpy (s.2.1 26) (s.2.1 104) 0 0 5))
set_option maxHeartbeats 4000000 in
theorem xb_2_copyFrom_103_25 {C : mm_C} {Q : mm_R} {pt : Value} {ps : Value} {pg : Value} {pr : Value}  (s : xs_S)  (s2 : xs_S) (hf : xf_2_copyFrom_103_25 s = some s2) (hK : Q (none) (xs_H pt ps pg pr s2)) : mm_go C mm_Mk mm_Fk P_X2_copyFrom Q P_X2_copyFrom [(0, .ref 103), (1, .ref 25)] [] (xs_H pt ps pg pr s) 0 0 := by
  unfold xf_2_copyFrom_103_25 at hf
  obtain rfl := Option.some.inj hf
  exact ⟨29, (And.intro trivial (And.intro trivial (And.intro trivial (And.intro trivial (And.intro trivial (And.intro (by decide) hK))))))⟩
def xk_2_copyFrom_103_25 (C : mm_C) : Prop := ∀ (pt : Value) (ps : Value) (pg : Value) (pr : Value) (s : xs_S)  (s2 : xs_S) (Q : mm_R), xf_2_copyFrom_103_25 s = some s2 → Q (none) (xs_H pt ps pg pr s2) → C 149 [.ref 103, .ref 25] (xs_H pt ps pg pr s) Q
-- 2_copyFrom_105_25
noncomputable def xf_2_copyFrom_105_25 (s : xs_S)  : Option (xs_S) :=
some (xs_sA (xs_sI (xs_sI (xs_sI (xs_sI (xs_sI s 1680 ((s.1 400))) 1681 ((s.1 401))) 1682 ((s.1 402))) 1683 ((s.1 403))) 1684 ((s.1 404))) 106 (va_cpy (s.2.1 26) (s.2.1 106) 0 0 5))
set_option maxHeartbeats 4000000 in
theorem xb_2_copyFrom_105_25 {C : mm_C} {Q : mm_R} {pt : Value} {ps : Value} {pg : Value} {pr : Value}  (s : xs_S)  (s2 : xs_S) (hf : xf_2_copyFrom_105_25 s = some s2) (hK : Q (none) (xs_H pt ps pg pr s2)) : mm_go C mm_Mk mm_Fk P_X2_copyFrom Q P_X2_copyFrom [(0, .ref 105), (1, .ref 25)] [] (xs_H pt ps pg pr s) 0 0 := by
  unfold xf_2_copyFrom_105_25 at hf
  obtain rfl := Option.some.inj hf
  exact ⟨29, (And.intro trivial (And.intro trivial (And.intro trivial (And.intro trivial (And.intro trivial (And.intro (by decide) hK))))))⟩
def xk_2_copyFrom_105_25 (C : mm_C) : Prop := ∀ (pt : Value) (ps : Value) (pg : Value) (pr : Value) (s : xs_S)  (s2 : xs_S) (Q : mm_R), xf_2_copyFrom_105_25 s = some s2 → Q (none) (xs_H pt ps pg pr s2) → C 149 [.ref 105, .ref 25] (xs_H pt ps pg pr s) Q
-- 2_copyFrom_107_25
noncomputable def xf_2_copyFrom_107_25 (s : xs_S)  : Option (xs_S) :=
some (xs_sA (xs_sI (xs_sI (xs_sI (xs_sI (xs_sI s 1712 ((s.1 400))) 1713 ((s.1 401))) 1714 ((s.1 402))) 1715 ((s.1 403))) 1716 ((s.1 404))) 108 (va_cpy (s.2.1 26) (s.2.1 108) 0 0 5))
set_option maxHeartbeats 4000000 in
theorem xb_2_copyFrom_107_25 {C : mm_C} {Q : mm_R} {pt : Value} {ps : Value} {pg : Value} {pr : Value}  (s : xs_S)  (s2 : xs_S) (hf : xf_2_copyFrom_107_25 s = some s2) (hK : Q (none) (xs_H pt ps pg pr s2)) : mm_go C mm_Mk mm_Fk P_X2_copyFrom Q P_X2_copyFrom [(0, .ref 107), (1, .ref 25)] [] (xs_H pt ps pg pr s) 0 0 := by
  unfold xf_2_copyFrom_107_25 at hf
  obtain rfl := Option.some.inj hf
  exact ⟨29, (And.intro trivial (And.intro trivial (And.intro trivial (And.intro trivial (And.intro trivial (And.intro (by decide) hK))))))⟩
def xk_2_copyFrom_107_25 (C : mm_C) : Prop := ∀ (pt : Value) (ps : Value) (pg : Value) (pr : Value) (s : xs_S)  (s2 : xs_S) (Q : mm_R), xf_2_copyFrom_107_25 s = some s2 → Q (none) (xs_H pt ps pg pr s2) → C 149 [.ref 107, .ref 25] (xs_H pt ps pg pr s) Q
-- 5_keep_25
noncomputable def xf_5_keep_25 (s : xs_S)  : Option (xs_S) :=
(if (s.1 433) = (0 : Int32) then
((xf_2_copyFrom_29_25 s ).bind fun s_2 =>
some (xs_sI (xs_sI s_2 433 ((((s_2.1 433) + (1 : Int32)) - ((s_2.1 433) + (1 : Int32)) / (40 : Int32) * (40 : Int32)))) 434 ((mm_min (((s_2.1 434) + (1 : Int32))) ((40 : Int32))))))
else
(if (s.1 433) = (1 : Int32) then
((xf_2_copyFrom_31_25 s ).bind fun s_3 =>
some (xs_sI (xs_sI s_3 433 ((((s_3.1 433) + (1 : Int32)) - ((s_3.1 433) + (1 : Int32)) / (40 : Int32) * (40 : Int32)))) 434 ((mm_min (((s_3.1 434) + (1 : Int32))) ((40 : Int32))))))
else
(if (s.1 433) = (2 : Int32) then
((xf_2_copyFrom_33_25 s ).bind fun s_4 =>
some (xs_sI (xs_sI s_4 433 ((((s_4.1 433) + (1 : Int32)) - ((s_4.1 433) + (1 : Int32)) / (40 : Int32) * (40 : Int32)))) 434 ((mm_min (((s_4.1 434) + (1 : Int32))) ((40 : Int32))))))
else
(if (s.1 433) = (3 : Int32) then
((xf_2_copyFrom_35_25 s ).bind fun s_5 =>
some (xs_sI (xs_sI s_5 433 ((((s_5.1 433) + (1 : Int32)) - ((s_5.1 433) + (1 : Int32)) / (40 : Int32) * (40 : Int32)))) 434 ((mm_min (((s_5.1 434) + (1 : Int32))) ((40 : Int32))))))
else
(if (s.1 433) = (4 : Int32) then
((xf_2_copyFrom_37_25 s ).bind fun s_6 =>
some (xs_sI (xs_sI s_6 433 ((((s_6.1 433) + (1 : Int32)) - ((s_6.1 433) + (1 : Int32)) / (40 : Int32) * (40 : Int32)))) 434 ((mm_min (((s_6.1 434) + (1 : Int32))) ((40 : Int32))))))
else
(if (s.1 433) = (5 : Int32) then
((xf_2_copyFrom_39_25 s ).bind fun s_7 =>
some (xs_sI (xs_sI s_7 433 ((((s_7.1 433) + (1 : Int32)) - ((s_7.1 433) + (1 : Int32)) / (40 : Int32) * (40 : Int32)))) 434 ((mm_min (((s_7.1 434) + (1 : Int32))) ((40 : Int32))))))
else
(if (s.1 433) = (6 : Int32) then
((xf_2_copyFrom_41_25 s ).bind fun s_8 =>
some (xs_sI (xs_sI s_8 433 ((((s_8.1 433) + (1 : Int32)) - ((s_8.1 433) + (1 : Int32)) / (40 : Int32) * (40 : Int32)))) 434 ((mm_min (((s_8.1 434) + (1 : Int32))) ((40 : Int32))))))
else
(if (s.1 433) = (7 : Int32) then
((xf_2_copyFrom_43_25 s ).bind fun s_9 =>
some (xs_sI (xs_sI s_9 433 ((((s_9.1 433) + (1 : Int32)) - ((s_9.1 433) + (1 : Int32)) / (40 : Int32) * (40 : Int32)))) 434 ((mm_min (((s_9.1 434) + (1 : Int32))) ((40 : Int32))))))
else
(if (s.1 433) = (8 : Int32) then
((xf_2_copyFrom_45_25 s ).bind fun s_10 =>
some (xs_sI (xs_sI s_10 433 ((((s_10.1 433) + (1 : Int32)) - ((s_10.1 433) + (1 : Int32)) / (40 : Int32) * (40 : Int32)))) 434 ((mm_min (((s_10.1 434) + (1 : Int32))) ((40 : Int32))))))
else
(if (s.1 433) = (9 : Int32) then
((xf_2_copyFrom_47_25 s ).bind fun s_11 =>
some (xs_sI (xs_sI s_11 433 ((((s_11.1 433) + (1 : Int32)) - ((s_11.1 433) + (1 : Int32)) / (40 : Int32) * (40 : Int32)))) 434 ((mm_min (((s_11.1 434) + (1 : Int32))) ((40 : Int32))))))
else
(if (s.1 433) = (10 : Int32) then
((xf_2_copyFrom_49_25 s ).bind fun s_12 =>
some (xs_sI (xs_sI s_12 433 ((((s_12.1 433) + (1 : Int32)) - ((s_12.1 433) + (1 : Int32)) / (40 : Int32) * (40 : Int32)))) 434 ((mm_min (((s_12.1 434) + (1 : Int32))) ((40 : Int32))))))
else
(if (s.1 433) = (11 : Int32) then
((xf_2_copyFrom_51_25 s ).bind fun s_13 =>
some (xs_sI (xs_sI s_13 433 ((((s_13.1 433) + (1 : Int32)) - ((s_13.1 433) + (1 : Int32)) / (40 : Int32) * (40 : Int32)))) 434 ((mm_min (((s_13.1 434) + (1 : Int32))) ((40 : Int32))))))
else
(if (s.1 433) = (12 : Int32) then
((xf_2_copyFrom_53_25 s ).bind fun s_14 =>
some (xs_sI (xs_sI s_14 433 ((((s_14.1 433) + (1 : Int32)) - ((s_14.1 433) + (1 : Int32)) / (40 : Int32) * (40 : Int32)))) 434 ((mm_min (((s_14.1 434) + (1 : Int32))) ((40 : Int32))))))
else
(if (s.1 433) = (13 : Int32) then
((xf_2_copyFrom_55_25 s ).bind fun s_15 =>
some (xs_sI (xs_sI s_15 433 ((((s_15.1 433) + (1 : Int32)) - ((s_15.1 433) + (1 : Int32)) / (40 : Int32) * (40 : Int32)))) 434 ((mm_min (((s_15.1 434) + (1 : Int32))) ((40 : Int32))))))
else
(if (s.1 433) = (14 : Int32) then
((xf_2_copyFrom_57_25 s ).bind fun s_16 =>
some (xs_sI (xs_sI s_16 433 ((((s_16.1 433) + (1 : Int32)) - ((s_16.1 433) + (1 : Int32)) / (40 : Int32) * (40 : Int32)))) 434 ((mm_min (((s_16.1 434) + (1 : Int32))) ((40 : Int32))))))
else
(if (s.1 433) = (15 : Int32) then
((xf_2_copyFrom_59_25 s ).bind fun s_17 =>
some (xs_sI (xs_sI s_17 433 ((((s_17.1 433) + (1 : Int32)) - ((s_17.1 433) + (1 : Int32)) / (40 : Int32) * (40 : Int32)))) 434 ((mm_min (((s_17.1 434) + (1 : Int32))) ((40 : Int32))))))
else
(if (s.1 433) = (16 : Int32) then
((xf_2_copyFrom_61_25 s ).bind fun s_18 =>
some (xs_sI (xs_sI s_18 433 ((((s_18.1 433) + (1 : Int32)) - ((s_18.1 433) + (1 : Int32)) / (40 : Int32) * (40 : Int32)))) 434 ((mm_min (((s_18.1 434) + (1 : Int32))) ((40 : Int32))))))
else
(if (s.1 433) = (17 : Int32) then
((xf_2_copyFrom_63_25 s ).bind fun s_19 =>
some (xs_sI (xs_sI s_19 433 ((((s_19.1 433) + (1 : Int32)) - ((s_19.1 433) + (1 : Int32)) / (40 : Int32) * (40 : Int32)))) 434 ((mm_min (((s_19.1 434) + (1 : Int32))) ((40 : Int32))))))
else
(if (s.1 433) = (18 : Int32) then
((xf_2_copyFrom_65_25 s ).bind fun s_20 =>
some (xs_sI (xs_sI s_20 433 ((((s_20.1 433) + (1 : Int32)) - ((s_20.1 433) + (1 : Int32)) / (40 : Int32) * (40 : Int32)))) 434 ((mm_min (((s_20.1 434) + (1 : Int32))) ((40 : Int32))))))
else
(if (s.1 433) = (19 : Int32) then
((xf_2_copyFrom_67_25 s ).bind fun s_21 =>
some (xs_sI (xs_sI s_21 433 ((((s_21.1 433) + (1 : Int32)) - ((s_21.1 433) + (1 : Int32)) / (40 : Int32) * (40 : Int32)))) 434 ((mm_min (((s_21.1 434) + (1 : Int32))) ((40 : Int32))))))
else
(if (s.1 433) = (20 : Int32) then
((xf_2_copyFrom_69_25 s ).bind fun s_22 =>
some (xs_sI (xs_sI s_22 433 ((((s_22.1 433) + (1 : Int32)) - ((s_22.1 433) + (1 : Int32)) / (40 : Int32) * (40 : Int32)))) 434 ((mm_min (((s_22.1 434) + (1 : Int32))) ((40 : Int32))))))
else
(if (s.1 433) = (21 : Int32) then
((xf_2_copyFrom_71_25 s ).bind fun s_23 =>
some (xs_sI (xs_sI s_23 433 ((((s_23.1 433) + (1 : Int32)) - ((s_23.1 433) + (1 : Int32)) / (40 : Int32) * (40 : Int32)))) 434 ((mm_min (((s_23.1 434) + (1 : Int32))) ((40 : Int32))))))
else
(if (s.1 433) = (22 : Int32) then
((xf_2_copyFrom_73_25 s ).bind fun s_24 =>
some (xs_sI (xs_sI s_24 433 ((((s_24.1 433) + (1 : Int32)) - ((s_24.1 433) + (1 : Int32)) / (40 : Int32) * (40 : Int32)))) 434 ((mm_min (((s_24.1 434) + (1 : Int32))) ((40 : Int32))))))
else
(if (s.1 433) = (23 : Int32) then
((xf_2_copyFrom_75_25 s ).bind fun s_25 =>
some (xs_sI (xs_sI s_25 433 ((((s_25.1 433) + (1 : Int32)) - ((s_25.1 433) + (1 : Int32)) / (40 : Int32) * (40 : Int32)))) 434 ((mm_min (((s_25.1 434) + (1 : Int32))) ((40 : Int32))))))
else
(if (s.1 433) = (24 : Int32) then
((xf_2_copyFrom_77_25 s ).bind fun s_26 =>
some (xs_sI (xs_sI s_26 433 ((((s_26.1 433) + (1 : Int32)) - ((s_26.1 433) + (1 : Int32)) / (40 : Int32) * (40 : Int32)))) 434 ((mm_min (((s_26.1 434) + (1 : Int32))) ((40 : Int32))))))
else
(if (s.1 433) = (25 : Int32) then
((xf_2_copyFrom_79_25 s ).bind fun s_27 =>
some (xs_sI (xs_sI s_27 433 ((((s_27.1 433) + (1 : Int32)) - ((s_27.1 433) + (1 : Int32)) / (40 : Int32) * (40 : Int32)))) 434 ((mm_min (((s_27.1 434) + (1 : Int32))) ((40 : Int32))))))
else
(if (s.1 433) = (26 : Int32) then
((xf_2_copyFrom_81_25 s ).bind fun s_28 =>
some (xs_sI (xs_sI s_28 433 ((((s_28.1 433) + (1 : Int32)) - ((s_28.1 433) + (1 : Int32)) / (40 : Int32) * (40 : Int32)))) 434 ((mm_min (((s_28.1 434) + (1 : Int32))) ((40 : Int32))))))
else
(if (s.1 433) = (27 : Int32) then
((xf_2_copyFrom_83_25 s ).bind fun s_29 =>
some (xs_sI (xs_sI s_29 433 ((((s_29.1 433) + (1 : Int32)) - ((s_29.1 433) + (1 : Int32)) / (40 : Int32) * (40 : Int32)))) 434 ((mm_min (((s_29.1 434) + (1 : Int32))) ((40 : Int32))))))
else
(if (s.1 433) = (28 : Int32) then
((xf_2_copyFrom_85_25 s ).bind fun s_30 =>
some (xs_sI (xs_sI s_30 433 ((((s_30.1 433) + (1 : Int32)) - ((s_30.1 433) + (1 : Int32)) / (40 : Int32) * (40 : Int32)))) 434 ((mm_min (((s_30.1 434) + (1 : Int32))) ((40 : Int32))))))
else
(if (s.1 433) = (29 : Int32) then
((xf_2_copyFrom_87_25 s ).bind fun s_31 =>
some (xs_sI (xs_sI s_31 433 ((((s_31.1 433) + (1 : Int32)) - ((s_31.1 433) + (1 : Int32)) / (40 : Int32) * (40 : Int32)))) 434 ((mm_min (((s_31.1 434) + (1 : Int32))) ((40 : Int32))))))
else
(if (s.1 433) = (30 : Int32) then
((xf_2_copyFrom_89_25 s ).bind fun s_32 =>
some (xs_sI (xs_sI s_32 433 ((((s_32.1 433) + (1 : Int32)) - ((s_32.1 433) + (1 : Int32)) / (40 : Int32) * (40 : Int32)))) 434 ((mm_min (((s_32.1 434) + (1 : Int32))) ((40 : Int32))))))
else
(if (s.1 433) = (31 : Int32) then
((xf_2_copyFrom_91_25 s ).bind fun s_33 =>
some (xs_sI (xs_sI s_33 433 ((((s_33.1 433) + (1 : Int32)) - ((s_33.1 433) + (1 : Int32)) / (40 : Int32) * (40 : Int32)))) 434 ((mm_min (((s_33.1 434) + (1 : Int32))) ((40 : Int32))))))
else
(if (s.1 433) = (32 : Int32) then
((xf_2_copyFrom_93_25 s ).bind fun s_34 =>
some (xs_sI (xs_sI s_34 433 ((((s_34.1 433) + (1 : Int32)) - ((s_34.1 433) + (1 : Int32)) / (40 : Int32) * (40 : Int32)))) 434 ((mm_min (((s_34.1 434) + (1 : Int32))) ((40 : Int32))))))
else
(if (s.1 433) = (33 : Int32) then
((xf_2_copyFrom_95_25 s ).bind fun s_35 =>
some (xs_sI (xs_sI s_35 433 ((((s_35.1 433) + (1 : Int32)) - ((s_35.1 433) + (1 : Int32)) / (40 : Int32) * (40 : Int32)))) 434 ((mm_min (((s_35.1 434) + (1 : Int32))) ((40 : Int32))))))
else
(if (s.1 433) = (34 : Int32) then
((xf_2_copyFrom_97_25 s ).bind fun s_36 =>
some (xs_sI (xs_sI s_36 433 ((((s_36.1 433) + (1 : Int32)) - ((s_36.1 433) + (1 : Int32)) / (40 : Int32) * (40 : Int32)))) 434 ((mm_min (((s_36.1 434) + (1 : Int32))) ((40 : Int32))))))
else
(if (s.1 433) = (35 : Int32) then
((xf_2_copyFrom_99_25 s ).bind fun s_37 =>
some (xs_sI (xs_sI s_37 433 ((((s_37.1 433) + (1 : Int32)) - ((s_37.1 433) + (1 : Int32)) / (40 : Int32) * (40 : Int32)))) 434 ((mm_min (((s_37.1 434) + (1 : Int32))) ((40 : Int32))))))
else
(if (s.1 433) = (36 : Int32) then
((xf_2_copyFrom_101_25 s ).bind fun s_38 =>
some (xs_sI (xs_sI s_38 433 ((((s_38.1 433) + (1 : Int32)) - ((s_38.1 433) + (1 : Int32)) / (40 : Int32) * (40 : Int32)))) 434 ((mm_min (((s_38.1 434) + (1 : Int32))) ((40 : Int32))))))
else
(if (s.1 433) = (37 : Int32) then
((xf_2_copyFrom_103_25 s ).bind fun s_39 =>
some (xs_sI (xs_sI s_39 433 ((((s_39.1 433) + (1 : Int32)) - ((s_39.1 433) + (1 : Int32)) / (40 : Int32) * (40 : Int32)))) 434 ((mm_min (((s_39.1 434) + (1 : Int32))) ((40 : Int32))))))
else
(if (s.1 433) = (38 : Int32) then
((xf_2_copyFrom_105_25 s ).bind fun s_40 =>
some (xs_sI (xs_sI s_40 433 ((((s_40.1 433) + (1 : Int32)) - ((s_40.1 433) + (1 : Int32)) / (40 : Int32) * (40 : Int32)))) 434 ((mm_min (((s_40.1 434) + (1 : Int32))) ((40 : Int32))))))
else
(if (s.1 433) = (39 : Int32) then
((xf_2_copyFrom_107_25 s ).bind fun s_41 =>
some (xs_sI (xs_sI s_41 433 ((((s_41.1 433) + (1 : Int32)) - ((s_41.1 433) + (1 : Int32)) / (40 : Int32) * (40 : Int32)))) 434 ((mm_min (((s_41.1 434) + (1 : Int32))) ((40 : Int32))))))
else
none))))))))))))))))))))))))))))))))))))))))
set_option maxHeartbeats 4000000 in
theorem xb_5_keep_25 {C : mm_C} {Q : mm_R} {pt : Value} {ps : Value} {pg : Value} {pr : Value} (h_2_copyFrom_29_25 : xk_2_copyFrom_29_25 C) (h_2_copyFrom_31_25 : xk_2_copyFrom_31_25 C) (h_2_copyFrom_33_25 : xk_2_copyFrom_33_25 C) (h_2_copyFrom_35_25 : xk_2_copyFrom_35_25 C) (h_2_copyFrom_37_25 : xk_2_copyFrom_37_25 C) (h_2_copyFrom_39_25 : xk_2_copyFrom_39_25 C) (h_2_copyFrom_41_25 : xk_2_copyFrom_41_25 C) (h_2_copyFrom_43_25 : xk_2_copyFrom_43_25 C) (h_2_copyFrom_45_25 : xk_2_copyFrom_45_25 C) (h_2_copyFrom_47_25 : xk_2_copyFrom_47_25 C) (h_2_copyFrom_49_25 : xk_2_copyFrom_49_25 C) (h_2_copyFrom_51_25 : xk_2_copyFrom_51_25 C) (h_2_copyFrom_53_25 : xk_2_copyFrom_53_25 C) (h_2_copyFrom_55_25 : xk_2_copyFrom_55_25 C) (h_2_copyFrom_57_25 : xk_2_copyFrom_57_25 C) (h_2_copyFrom_59_25 : xk_2_copyFrom_59_25 C) (h_2_copyFrom_61_25 : xk_2_copyFrom_61_25 C) (h_2_copyFrom_63_25 : xk_2_copyFrom_63_25 C) (h_2_copyFrom_65_25 : xk_2_copyFrom_65_25 C) (h_2_copyFrom_67_25 : xk_2_copyFrom_67_25 C) (h_2_copyFrom_69_25 : xk_2_copyFrom_69_25 C) (h_2_copyFrom_71_25 : xk_2_copyFrom_71_25 C) (h_2_copyFrom_73_25 : xk_2_copyFrom_73_25 C) (h_2_copyFrom_75_25 : xk_2_copyFrom_75_25 C) (h_2_copyFrom_77_25 : xk_2_copyFrom_77_25 C) (h_2_copyFrom_79_25 : xk_2_copyFrom_79_25 C) (h_2_copyFrom_81_25 : xk_2_copyFrom_81_25 C) (h_2_copyFrom_83_25 : xk_2_copyFrom_83_25 C) (h_2_copyFrom_85_25 : xk_2_copyFrom_85_25 C) (h_2_copyFrom_87_25 : xk_2_copyFrom_87_25 C) (h_2_copyFrom_89_25 : xk_2_copyFrom_89_25 C) (h_2_copyFrom_91_25 : xk_2_copyFrom_91_25 C) (h_2_copyFrom_93_25 : xk_2_copyFrom_93_25 C) (h_2_copyFrom_95_25 : xk_2_copyFrom_95_25 C) (h_2_copyFrom_97_25 : xk_2_copyFrom_97_25 C) (h_2_copyFrom_99_25 : xk_2_copyFrom_99_25 C) (h_2_copyFrom_101_25 : xk_2_copyFrom_101_25 C) (h_2_copyFrom_103_25 : xk_2_copyFrom_103_25 C) (h_2_copyFrom_105_25 : xk_2_copyFrom_105_25 C) (h_2_copyFrom_107_25 : xk_2_copyFrom_107_25 C) (s : xs_S)  (s2 : xs_S) (hf : xf_5_keep_25 s = some s2) (hK : Q (none) (xs_H pt ps pg pr s2)) : mm_go C mm_Mk mm_Fk P_X5_keep Q P_X5_keep [(0, .ref 27), (1, .ref 25)] [] (xs_H pt ps pg pr s) 0 0 := by
  unfold xf_5_keep_25 at hf
  refine mm_adv 4 (cs' := P_X5_keep.drop 4) (l' := [(0, .ref 27), (1, .ref 25)]) (st' := [.int (s.1 433), .ref 28]) (h' := (xs_H pt ps pg pr s)) (bc' := 0) (bs' := 0) (fun n g => g) ?_
  by_cases c_1_0 : (s.1 433) = (0 : Int32)
  · have hf := mo_pos hf c_1_0
    refine mm_ga (cs' := P_X5_keep.drop 5) (b := 29) rfl rfl rfl rfl (by rw [c_1_0]; exact mm_vi rfl) (by rw [c_1_0]; rfl) ?_
    obtain ⟨s_2, hr_2, hf⟩ := mo_bind hf
    obtain rfl := Option.some.inj hf
    exact ⟨19, (h_2_copyFrom_29_25 pt ps pg pr s  s_2 _ hr_2 (And.intro (by decide) (And.intro trivial (And.intro trivial hK))))⟩
  replace hf := mo_neg hf c_1_0
  by_cases c_1_1 : (s.1 433) = (1 : Int32)
  · have hf := mo_pos hf c_1_1
    refine mm_ga (cs' := P_X5_keep.drop 5) (b := 31) rfl rfl rfl rfl (by rw [c_1_1]; exact mm_vi rfl) (by rw [c_1_1]; rfl) ?_
    obtain ⟨s_3, hr_3, hf⟩ := mo_bind hf
    obtain rfl := Option.some.inj hf
    exact ⟨19, (h_2_copyFrom_31_25 pt ps pg pr s  s_3 _ hr_3 (And.intro (by decide) (And.intro trivial (And.intro trivial hK))))⟩
  replace hf := mo_neg hf c_1_1
  by_cases c_1_2 : (s.1 433) = (2 : Int32)
  · have hf := mo_pos hf c_1_2
    refine mm_ga (cs' := P_X5_keep.drop 5) (b := 33) rfl rfl rfl rfl (by rw [c_1_2]; exact mm_vi rfl) (by rw [c_1_2]; rfl) ?_
    obtain ⟨s_4, hr_4, hf⟩ := mo_bind hf
    obtain rfl := Option.some.inj hf
    exact ⟨19, (h_2_copyFrom_33_25 pt ps pg pr s  s_4 _ hr_4 (And.intro (by decide) (And.intro trivial (And.intro trivial hK))))⟩
  replace hf := mo_neg hf c_1_2
  by_cases c_1_3 : (s.1 433) = (3 : Int32)
  · have hf := mo_pos hf c_1_3
    refine mm_ga (cs' := P_X5_keep.drop 5) (b := 35) rfl rfl rfl rfl (by rw [c_1_3]; exact mm_vi rfl) (by rw [c_1_3]; rfl) ?_
    obtain ⟨s_5, hr_5, hf⟩ := mo_bind hf
    obtain rfl := Option.some.inj hf
    exact ⟨19, (h_2_copyFrom_35_25 pt ps pg pr s  s_5 _ hr_5 (And.intro (by decide) (And.intro trivial (And.intro trivial hK))))⟩
  replace hf := mo_neg hf c_1_3
  by_cases c_1_4 : (s.1 433) = (4 : Int32)
  · have hf := mo_pos hf c_1_4
    refine mm_ga (cs' := P_X5_keep.drop 5) (b := 37) rfl rfl rfl rfl (by rw [c_1_4]; exact mm_vi rfl) (by rw [c_1_4]; rfl) ?_
    obtain ⟨s_6, hr_6, hf⟩ := mo_bind hf
    obtain rfl := Option.some.inj hf
    exact ⟨19, (h_2_copyFrom_37_25 pt ps pg pr s  s_6 _ hr_6 (And.intro (by decide) (And.intro trivial (And.intro trivial hK))))⟩
  replace hf := mo_neg hf c_1_4
  by_cases c_1_5 : (s.1 433) = (5 : Int32)
  · have hf := mo_pos hf c_1_5
    refine mm_ga (cs' := P_X5_keep.drop 5) (b := 39) rfl rfl rfl rfl (by rw [c_1_5]; exact mm_vi rfl) (by rw [c_1_5]; rfl) ?_
    obtain ⟨s_7, hr_7, hf⟩ := mo_bind hf
    obtain rfl := Option.some.inj hf
    exact ⟨19, (h_2_copyFrom_39_25 pt ps pg pr s  s_7 _ hr_7 (And.intro (by decide) (And.intro trivial (And.intro trivial hK))))⟩
  replace hf := mo_neg hf c_1_5
  by_cases c_1_6 : (s.1 433) = (6 : Int32)
  · have hf := mo_pos hf c_1_6
    refine mm_ga (cs' := P_X5_keep.drop 5) (b := 41) rfl rfl rfl rfl (by rw [c_1_6]; exact mm_vi rfl) (by rw [c_1_6]; rfl) ?_
    obtain ⟨s_8, hr_8, hf⟩ := mo_bind hf
    obtain rfl := Option.some.inj hf
    exact ⟨19, (h_2_copyFrom_41_25 pt ps pg pr s  s_8 _ hr_8 (And.intro (by decide) (And.intro trivial (And.intro trivial hK))))⟩
  replace hf := mo_neg hf c_1_6
  by_cases c_1_7 : (s.1 433) = (7 : Int32)
  · have hf := mo_pos hf c_1_7
    refine mm_ga (cs' := P_X5_keep.drop 5) (b := 43) rfl rfl rfl rfl (by rw [c_1_7]; exact mm_vi rfl) (by rw [c_1_7]; rfl) ?_
    obtain ⟨s_9, hr_9, hf⟩ := mo_bind hf
    obtain rfl := Option.some.inj hf
    exact ⟨19, (h_2_copyFrom_43_25 pt ps pg pr s  s_9 _ hr_9 (And.intro (by decide) (And.intro trivial (And.intro trivial hK))))⟩
  replace hf := mo_neg hf c_1_7
  by_cases c_1_8 : (s.1 433) = (8 : Int32)
  · have hf := mo_pos hf c_1_8
    refine mm_ga (cs' := P_X5_keep.drop 5) (b := 45) rfl rfl rfl rfl (by rw [c_1_8]; exact mm_vi rfl) (by rw [c_1_8]; rfl) ?_
    obtain ⟨s_10, hr_10, hf⟩ := mo_bind hf
    obtain rfl := Option.some.inj hf
    exact ⟨19, (h_2_copyFrom_45_25 pt ps pg pr s  s_10 _ hr_10 (And.intro (by decide) (And.intro trivial (And.intro trivial hK))))⟩
  replace hf := mo_neg hf c_1_8
  by_cases c_1_9 : (s.1 433) = (9 : Int32)
  · have hf := mo_pos hf c_1_9
    refine mm_ga (cs' := P_X5_keep.drop 5) (b := 47) rfl rfl rfl rfl (by rw [c_1_9]; exact mm_vi rfl) (by rw [c_1_9]; rfl) ?_
    obtain ⟨s_11, hr_11, hf⟩ := mo_bind hf
    obtain rfl := Option.some.inj hf
    exact ⟨19, (h_2_copyFrom_47_25 pt ps pg pr s  s_11 _ hr_11 (And.intro (by decide) (And.intro trivial (And.intro trivial hK))))⟩
  replace hf := mo_neg hf c_1_9
  by_cases c_1_10 : (s.1 433) = (10 : Int32)
  · have hf := mo_pos hf c_1_10
    refine mm_ga (cs' := P_X5_keep.drop 5) (b := 49) rfl rfl rfl rfl (by rw [c_1_10]; exact mm_vi rfl) (by rw [c_1_10]; rfl) ?_
    obtain ⟨s_12, hr_12, hf⟩ := mo_bind hf
    obtain rfl := Option.some.inj hf
    exact ⟨19, (h_2_copyFrom_49_25 pt ps pg pr s  s_12 _ hr_12 (And.intro (by decide) (And.intro trivial (And.intro trivial hK))))⟩
  replace hf := mo_neg hf c_1_10
  by_cases c_1_11 : (s.1 433) = (11 : Int32)
  · have hf := mo_pos hf c_1_11
    refine mm_ga (cs' := P_X5_keep.drop 5) (b := 51) rfl rfl rfl rfl (by rw [c_1_11]; exact mm_vi rfl) (by rw [c_1_11]; rfl) ?_
    obtain ⟨s_13, hr_13, hf⟩ := mo_bind hf
    obtain rfl := Option.some.inj hf
    exact ⟨19, (h_2_copyFrom_51_25 pt ps pg pr s  s_13 _ hr_13 (And.intro (by decide) (And.intro trivial (And.intro trivial hK))))⟩
  replace hf := mo_neg hf c_1_11
  by_cases c_1_12 : (s.1 433) = (12 : Int32)
  · have hf := mo_pos hf c_1_12
    refine mm_ga (cs' := P_X5_keep.drop 5) (b := 53) rfl rfl rfl rfl (by rw [c_1_12]; exact mm_vi rfl) (by rw [c_1_12]; rfl) ?_
    obtain ⟨s_14, hr_14, hf⟩ := mo_bind hf
    obtain rfl := Option.some.inj hf
    exact ⟨19, (h_2_copyFrom_53_25 pt ps pg pr s  s_14 _ hr_14 (And.intro (by decide) (And.intro trivial (And.intro trivial hK))))⟩
  replace hf := mo_neg hf c_1_12
  by_cases c_1_13 : (s.1 433) = (13 : Int32)
  · have hf := mo_pos hf c_1_13
    refine mm_ga (cs' := P_X5_keep.drop 5) (b := 55) rfl rfl rfl rfl (by rw [c_1_13]; exact mm_vi rfl) (by rw [c_1_13]; rfl) ?_
    obtain ⟨s_15, hr_15, hf⟩ := mo_bind hf
    obtain rfl := Option.some.inj hf
    exact ⟨19, (h_2_copyFrom_55_25 pt ps pg pr s  s_15 _ hr_15 (And.intro (by decide) (And.intro trivial (And.intro trivial hK))))⟩
  replace hf := mo_neg hf c_1_13
  by_cases c_1_14 : (s.1 433) = (14 : Int32)
  · have hf := mo_pos hf c_1_14
    refine mm_ga (cs' := P_X5_keep.drop 5) (b := 57) rfl rfl rfl rfl (by rw [c_1_14]; exact mm_vi rfl) (by rw [c_1_14]; rfl) ?_
    obtain ⟨s_16, hr_16, hf⟩ := mo_bind hf
    obtain rfl := Option.some.inj hf
    exact ⟨19, (h_2_copyFrom_57_25 pt ps pg pr s  s_16 _ hr_16 (And.intro (by decide) (And.intro trivial (And.intro trivial hK))))⟩
  replace hf := mo_neg hf c_1_14
  by_cases c_1_15 : (s.1 433) = (15 : Int32)
  · have hf := mo_pos hf c_1_15
    refine mm_ga (cs' := P_X5_keep.drop 5) (b := 59) rfl rfl rfl rfl (by rw [c_1_15]; exact mm_vi rfl) (by rw [c_1_15]; rfl) ?_
    obtain ⟨s_17, hr_17, hf⟩ := mo_bind hf
    obtain rfl := Option.some.inj hf
    exact ⟨19, (h_2_copyFrom_59_25 pt ps pg pr s  s_17 _ hr_17 (And.intro (by decide) (And.intro trivial (And.intro trivial hK))))⟩
  replace hf := mo_neg hf c_1_15
  by_cases c_1_16 : (s.1 433) = (16 : Int32)
  · have hf := mo_pos hf c_1_16
    refine mm_ga (cs' := P_X5_keep.drop 5) (b := 61) rfl rfl rfl rfl (by rw [c_1_16]; exact mm_vi rfl) (by rw [c_1_16]; rfl) ?_
    obtain ⟨s_18, hr_18, hf⟩ := mo_bind hf
    obtain rfl := Option.some.inj hf
    exact ⟨19, (h_2_copyFrom_61_25 pt ps pg pr s  s_18 _ hr_18 (And.intro (by decide) (And.intro trivial (And.intro trivial hK))))⟩
  replace hf := mo_neg hf c_1_16
  by_cases c_1_17 : (s.1 433) = (17 : Int32)
  · have hf := mo_pos hf c_1_17
    refine mm_ga (cs' := P_X5_keep.drop 5) (b := 63) rfl rfl rfl rfl (by rw [c_1_17]; exact mm_vi rfl) (by rw [c_1_17]; rfl) ?_
    obtain ⟨s_19, hr_19, hf⟩ := mo_bind hf
    obtain rfl := Option.some.inj hf
    exact ⟨19, (h_2_copyFrom_63_25 pt ps pg pr s  s_19 _ hr_19 (And.intro (by decide) (And.intro trivial (And.intro trivial hK))))⟩
  replace hf := mo_neg hf c_1_17
  by_cases c_1_18 : (s.1 433) = (18 : Int32)
  · have hf := mo_pos hf c_1_18
    refine mm_ga (cs' := P_X5_keep.drop 5) (b := 65) rfl rfl rfl rfl (by rw [c_1_18]; exact mm_vi rfl) (by rw [c_1_18]; rfl) ?_
    obtain ⟨s_20, hr_20, hf⟩ := mo_bind hf
    obtain rfl := Option.some.inj hf
    exact ⟨19, (h_2_copyFrom_65_25 pt ps pg pr s  s_20 _ hr_20 (And.intro (by decide) (And.intro trivial (And.intro trivial hK))))⟩
  replace hf := mo_neg hf c_1_18
  by_cases c_1_19 : (s.1 433) = (19 : Int32)
  · have hf := mo_pos hf c_1_19
    refine mm_ga (cs' := P_X5_keep.drop 5) (b := 67) rfl rfl rfl rfl (by rw [c_1_19]; exact mm_vi rfl) (by rw [c_1_19]; rfl) ?_
    obtain ⟨s_21, hr_21, hf⟩ := mo_bind hf
    obtain rfl := Option.some.inj hf
    exact ⟨19, (h_2_copyFrom_67_25 pt ps pg pr s  s_21 _ hr_21 (And.intro (by decide) (And.intro trivial (And.intro trivial hK))))⟩
  replace hf := mo_neg hf c_1_19
  by_cases c_1_20 : (s.1 433) = (20 : Int32)
  · have hf := mo_pos hf c_1_20
    refine mm_ga (cs' := P_X5_keep.drop 5) (b := 69) rfl rfl rfl rfl (by rw [c_1_20]; exact mm_vi rfl) (by rw [c_1_20]; rfl) ?_
    obtain ⟨s_22, hr_22, hf⟩ := mo_bind hf
    obtain rfl := Option.some.inj hf
    exact ⟨19, (h_2_copyFrom_69_25 pt ps pg pr s  s_22 _ hr_22 (And.intro (by decide) (And.intro trivial (And.intro trivial hK))))⟩
  replace hf := mo_neg hf c_1_20
  by_cases c_1_21 : (s.1 433) = (21 : Int32)
  · have hf := mo_pos hf c_1_21
    refine mm_ga (cs' := P_X5_keep.drop 5) (b := 71) rfl rfl rfl rfl (by rw [c_1_21]; exact mm_vi rfl) (by rw [c_1_21]; rfl) ?_
    obtain ⟨s_23, hr_23, hf⟩ := mo_bind hf
    obtain rfl := Option.some.inj hf
    exact ⟨19, (h_2_copyFrom_71_25 pt ps pg pr s  s_23 _ hr_23 (And.intro (by decide) (And.intro trivial (And.intro trivial hK))))⟩
  replace hf := mo_neg hf c_1_21
  by_cases c_1_22 : (s.1 433) = (22 : Int32)
  · have hf := mo_pos hf c_1_22
    refine mm_ga (cs' := P_X5_keep.drop 5) (b := 73) rfl rfl rfl rfl (by rw [c_1_22]; exact mm_vi rfl) (by rw [c_1_22]; rfl) ?_
    obtain ⟨s_24, hr_24, hf⟩ := mo_bind hf
    obtain rfl := Option.some.inj hf
    exact ⟨19, (h_2_copyFrom_73_25 pt ps pg pr s  s_24 _ hr_24 (And.intro (by decide) (And.intro trivial (And.intro trivial hK))))⟩
  replace hf := mo_neg hf c_1_22
  by_cases c_1_23 : (s.1 433) = (23 : Int32)
  · have hf := mo_pos hf c_1_23
    refine mm_ga (cs' := P_X5_keep.drop 5) (b := 75) rfl rfl rfl rfl (by rw [c_1_23]; exact mm_vi rfl) (by rw [c_1_23]; rfl) ?_
    obtain ⟨s_25, hr_25, hf⟩ := mo_bind hf
    obtain rfl := Option.some.inj hf
    exact ⟨19, (h_2_copyFrom_75_25 pt ps pg pr s  s_25 _ hr_25 (And.intro (by decide) (And.intro trivial (And.intro trivial hK))))⟩
  replace hf := mo_neg hf c_1_23
  by_cases c_1_24 : (s.1 433) = (24 : Int32)
  · have hf := mo_pos hf c_1_24
    refine mm_ga (cs' := P_X5_keep.drop 5) (b := 77) rfl rfl rfl rfl (by rw [c_1_24]; exact mm_vi rfl) (by rw [c_1_24]; rfl) ?_
    obtain ⟨s_26, hr_26, hf⟩ := mo_bind hf
    obtain rfl := Option.some.inj hf
    exact ⟨19, (h_2_copyFrom_77_25 pt ps pg pr s  s_26 _ hr_26 (And.intro (by decide) (And.intro trivial (And.intro trivial hK))))⟩
  replace hf := mo_neg hf c_1_24
  by_cases c_1_25 : (s.1 433) = (25 : Int32)
  · have hf := mo_pos hf c_1_25
    refine mm_ga (cs' := P_X5_keep.drop 5) (b := 79) rfl rfl rfl rfl (by rw [c_1_25]; exact mm_vi rfl) (by rw [c_1_25]; rfl) ?_
    obtain ⟨s_27, hr_27, hf⟩ := mo_bind hf
    obtain rfl := Option.some.inj hf
    exact ⟨19, (h_2_copyFrom_79_25 pt ps pg pr s  s_27 _ hr_27 (And.intro (by decide) (And.intro trivial (And.intro trivial hK))))⟩
  replace hf := mo_neg hf c_1_25
  by_cases c_1_26 : (s.1 433) = (26 : Int32)
  · have hf := mo_pos hf c_1_26
    refine mm_ga (cs' := P_X5_keep.drop 5) (b := 81) rfl rfl rfl rfl (by rw [c_1_26]; exact mm_vi rfl) (by rw [c_1_26]; rfl) ?_
    obtain ⟨s_28, hr_28, hf⟩ := mo_bind hf
    obtain rfl := Option.some.inj hf
    exact ⟨19, (h_2_copyFrom_81_25 pt ps pg pr s  s_28 _ hr_28 (And.intro (by decide) (And.intro trivial (And.intro trivial hK))))⟩
  replace hf := mo_neg hf c_1_26
  by_cases c_1_27 : (s.1 433) = (27 : Int32)
  · have hf := mo_pos hf c_1_27
    refine mm_ga (cs' := P_X5_keep.drop 5) (b := 83) rfl rfl rfl rfl (by rw [c_1_27]; exact mm_vi rfl) (by rw [c_1_27]; rfl) ?_
    obtain ⟨s_29, hr_29, hf⟩ := mo_bind hf
    obtain rfl := Option.some.inj hf
    exact ⟨19, (h_2_copyFrom_83_25 pt ps pg pr s  s_29 _ hr_29 (And.intro (by decide) (And.intro trivial (And.intro trivial hK))))⟩
  replace hf := mo_neg hf c_1_27
  by_cases c_1_28 : (s.1 433) = (28 : Int32)
  · have hf := mo_pos hf c_1_28
    refine mm_ga (cs' := P_X5_keep.drop 5) (b := 85) rfl rfl rfl rfl (by rw [c_1_28]; exact mm_vi rfl) (by rw [c_1_28]; rfl) ?_
    obtain ⟨s_30, hr_30, hf⟩ := mo_bind hf
    obtain rfl := Option.some.inj hf
    exact ⟨19, (h_2_copyFrom_85_25 pt ps pg pr s  s_30 _ hr_30 (And.intro (by decide) (And.intro trivial (And.intro trivial hK))))⟩
  replace hf := mo_neg hf c_1_28
  by_cases c_1_29 : (s.1 433) = (29 : Int32)
  · have hf := mo_pos hf c_1_29
    refine mm_ga (cs' := P_X5_keep.drop 5) (b := 87) rfl rfl rfl rfl (by rw [c_1_29]; exact mm_vi rfl) (by rw [c_1_29]; rfl) ?_
    obtain ⟨s_31, hr_31, hf⟩ := mo_bind hf
    obtain rfl := Option.some.inj hf
    exact ⟨19, (h_2_copyFrom_87_25 pt ps pg pr s  s_31 _ hr_31 (And.intro (by decide) (And.intro trivial (And.intro trivial hK))))⟩
  replace hf := mo_neg hf c_1_29
  by_cases c_1_30 : (s.1 433) = (30 : Int32)
  · have hf := mo_pos hf c_1_30
    refine mm_ga (cs' := P_X5_keep.drop 5) (b := 89) rfl rfl rfl rfl (by rw [c_1_30]; exact mm_vi rfl) (by rw [c_1_30]; rfl) ?_
    obtain ⟨s_32, hr_32, hf⟩ := mo_bind hf
    obtain rfl := Option.some.inj hf
    exact ⟨19, (h_2_copyFrom_89_25 pt ps pg pr s  s_32 _ hr_32 (And.intro (by decide) (And.intro trivial (And.intro trivial hK))))⟩
  replace hf := mo_neg hf c_1_30
  by_cases c_1_31 : (s.1 433) = (31 : Int32)
  · have hf := mo_pos hf c_1_31
    refine mm_ga (cs' := P_X5_keep.drop 5) (b := 91) rfl rfl rfl rfl (by rw [c_1_31]; exact mm_vi rfl) (by rw [c_1_31]; rfl) ?_
    obtain ⟨s_33, hr_33, hf⟩ := mo_bind hf
    obtain rfl := Option.some.inj hf
    exact ⟨19, (h_2_copyFrom_91_25 pt ps pg pr s  s_33 _ hr_33 (And.intro (by decide) (And.intro trivial (And.intro trivial hK))))⟩
  replace hf := mo_neg hf c_1_31
  by_cases c_1_32 : (s.1 433) = (32 : Int32)
  · have hf := mo_pos hf c_1_32
    refine mm_ga (cs' := P_X5_keep.drop 5) (b := 93) rfl rfl rfl rfl (by rw [c_1_32]; exact mm_vi rfl) (by rw [c_1_32]; rfl) ?_
    obtain ⟨s_34, hr_34, hf⟩ := mo_bind hf
    obtain rfl := Option.some.inj hf
    exact ⟨19, (h_2_copyFrom_93_25 pt ps pg pr s  s_34 _ hr_34 (And.intro (by decide) (And.intro trivial (And.intro trivial hK))))⟩
  replace hf := mo_neg hf c_1_32
  by_cases c_1_33 : (s.1 433) = (33 : Int32)
  · have hf := mo_pos hf c_1_33
    refine mm_ga (cs' := P_X5_keep.drop 5) (b := 95) rfl rfl rfl rfl (by rw [c_1_33]; exact mm_vi rfl) (by rw [c_1_33]; rfl) ?_
    obtain ⟨s_35, hr_35, hf⟩ := mo_bind hf
    obtain rfl := Option.some.inj hf
    exact ⟨19, (h_2_copyFrom_95_25 pt ps pg pr s  s_35 _ hr_35 (And.intro (by decide) (And.intro trivial (And.intro trivial hK))))⟩
  replace hf := mo_neg hf c_1_33
  by_cases c_1_34 : (s.1 433) = (34 : Int32)
  · have hf := mo_pos hf c_1_34
    refine mm_ga (cs' := P_X5_keep.drop 5) (b := 97) rfl rfl rfl rfl (by rw [c_1_34]; exact mm_vi rfl) (by rw [c_1_34]; rfl) ?_
    obtain ⟨s_36, hr_36, hf⟩ := mo_bind hf
    obtain rfl := Option.some.inj hf
    exact ⟨19, (h_2_copyFrom_97_25 pt ps pg pr s  s_36 _ hr_36 (And.intro (by decide) (And.intro trivial (And.intro trivial hK))))⟩
  replace hf := mo_neg hf c_1_34
  by_cases c_1_35 : (s.1 433) = (35 : Int32)
  · have hf := mo_pos hf c_1_35
    refine mm_ga (cs' := P_X5_keep.drop 5) (b := 99) rfl rfl rfl rfl (by rw [c_1_35]; exact mm_vi rfl) (by rw [c_1_35]; rfl) ?_
    obtain ⟨s_37, hr_37, hf⟩ := mo_bind hf
    obtain rfl := Option.some.inj hf
    exact ⟨19, (h_2_copyFrom_99_25 pt ps pg pr s  s_37 _ hr_37 (And.intro (by decide) (And.intro trivial (And.intro trivial hK))))⟩
  replace hf := mo_neg hf c_1_35
  by_cases c_1_36 : (s.1 433) = (36 : Int32)
  · have hf := mo_pos hf c_1_36
    refine mm_ga (cs' := P_X5_keep.drop 5) (b := 101) rfl rfl rfl rfl (by rw [c_1_36]; exact mm_vi rfl) (by rw [c_1_36]; rfl) ?_
    obtain ⟨s_38, hr_38, hf⟩ := mo_bind hf
    obtain rfl := Option.some.inj hf
    exact ⟨19, (h_2_copyFrom_101_25 pt ps pg pr s  s_38 _ hr_38 (And.intro (by decide) (And.intro trivial (And.intro trivial hK))))⟩
  replace hf := mo_neg hf c_1_36
  by_cases c_1_37 : (s.1 433) = (37 : Int32)
  · have hf := mo_pos hf c_1_37
    refine mm_ga (cs' := P_X5_keep.drop 5) (b := 103) rfl rfl rfl rfl (by rw [c_1_37]; exact mm_vi rfl) (by rw [c_1_37]; rfl) ?_
    obtain ⟨s_39, hr_39, hf⟩ := mo_bind hf
    obtain rfl := Option.some.inj hf
    exact ⟨19, (h_2_copyFrom_103_25 pt ps pg pr s  s_39 _ hr_39 (And.intro (by decide) (And.intro trivial (And.intro trivial hK))))⟩
  replace hf := mo_neg hf c_1_37
  by_cases c_1_38 : (s.1 433) = (38 : Int32)
  · have hf := mo_pos hf c_1_38
    refine mm_ga (cs' := P_X5_keep.drop 5) (b := 105) rfl rfl rfl rfl (by rw [c_1_38]; exact mm_vi rfl) (by rw [c_1_38]; rfl) ?_
    obtain ⟨s_40, hr_40, hf⟩ := mo_bind hf
    obtain rfl := Option.some.inj hf
    exact ⟨19, (h_2_copyFrom_105_25 pt ps pg pr s  s_40 _ hr_40 (And.intro (by decide) (And.intro trivial (And.intro trivial hK))))⟩
  replace hf := mo_neg hf c_1_38
  by_cases c_1_39 : (s.1 433) = (39 : Int32)
  · have hf := mo_pos hf c_1_39
    refine mm_ga (cs' := P_X5_keep.drop 5) (b := 107) rfl rfl rfl rfl (by rw [c_1_39]; exact mm_vi rfl) (by rw [c_1_39]; rfl) ?_
    obtain ⟨s_41, hr_41, hf⟩ := mo_bind hf
    obtain rfl := Option.some.inj hf
    exact ⟨19, (h_2_copyFrom_107_25 pt ps pg pr s  s_41 _ hr_41 (And.intro (by decide) (And.intro trivial (And.intro trivial hK))))⟩
  replace hf := mo_neg hf c_1_39
  cases hf
def xk_5_keep_25 (C : mm_C) : Prop := ∀ (pt : Value) (ps : Value) (pg : Value) (pr : Value) (s : xs_S)  (s2 : xs_S) (Q : mm_R), xf_5_keep_25 s = some s2 → Q (none) (xs_H pt ps pg pr s2) → C 163 [.ref 27, .ref 25] (xs_H pt ps pg pr s) Q
-- 11_takeTurn
noncomputable def xf_11_takeTurn (s : xs_S) (a0 : Int32) : Option (Int32 × xs_S) :=
((xf_1_open s ((s.1 400))).bind fun s_1 =>
((xf_1_after s_1 ((s_1.1 400)) (a0) ((0 : Int32))).bind fun (v_2, s_2) =>
(if v_2 = (-1 : Int32) then
some ((-1 : Int32), s_2)
else
((xf_5_keep_25 s_2 ).bind fun s_4 =>
((xf_11_slopeOf (v_2)).bind fun v_5 =>
some (v_5, (xs_sI s_4 400 (v_2))))))))
set_option maxHeartbeats 4000000 in
theorem xb_11_takeTurn {C : mm_C} {Q : mm_R} {pt : Value} {ps : Value} {pr : Value} (h_1_open : xk_1_open C) (h_1_after : xk_1_after C) (h_5_keep_25 : xk_5_keep_25 C) (h_11_slopeOf : xk_11_slopeOf C) (s : xs_S) (a0 : Int32) (v : Int32) (s2 : xs_S) (hf : xf_11_takeTurn s a0 = some (v, s2)) (hK : Q (some (.int v)) (xs_H pt ps (.ref 9) pr s2)) : mm_go C mm_Mk mm_Fk P_X11_takeTurn Q P_X11_takeTurn [(0, .ref 0), (1, .int a0)] [] (xs_H pt ps (.ref 9) pr s) 0 0 := by
  unfold xf_11_takeTurn at hf
  obtain ⟨s_1, hr_1, hf⟩ := mo_bind hf
  obtain ⟨r_2, hr_2, hf⟩ := mo_bind hf
  obtain ⟨v_2, s_2⟩ := r_2
  by_cases c_3 : v_2 = (-1 : Int32)
  · have hf := mo_pos hf c_3
    obtain ⟨rfl, rfl⟩ := mo_pair hf
    exact ⟨20, (h_1_open pt ps pr s ((s.1 400)) s_1 _ hr_1 (h_1_after pt ps (.ref 9) pr s_1 ((s_1.1 400)) (a0) ((0 : Int32)) v_2 s_2 _ hr_2 (And.intro (fun q => absurd c_3 q) (fun _ => hK))))⟩
  · have hf := mo_neg hf c_3
    obtain ⟨s_4, hr_4, hf⟩ := mo_bind hf
    obtain ⟨v_5, hr_5, hf⟩ := mo_bind hf
    obtain ⟨rfl, rfl⟩ := mo_pair hf
    exact ⟨30, (h_1_open pt ps pr s ((s.1 400)) s_1 _ hr_1 (h_1_after pt ps (.ref 9) pr s_1 ((s_1.1 400)) (a0) ((0 : Int32)) v_2 s_2 _ hr_2 (And.intro (fun _ => (h_5_keep_25 pt ps (.ref 9) pr s_2  s_4 _ hr_4 (And.intro trivial (h_11_slopeOf _ (v_2) v_5 _ hr_5 hK)))) (fun q => absurd c_3 q))))⟩
def xk_11_takeTurn (C : mm_C) : Prop := ∀ (pt : Value) (ps : Value) (pr : Value) (s : xs_S) (a0 : Int32) (v : Int32) (s2 : xs_S) (Q : mm_R), xf_11_takeTurn s a0 = some (v, s2) → Q (some (.int v)) (xs_H pt ps (.ref 9) pr s2) → C 262 [.ref 0, .int a0] (xs_H pt ps (.ref 9) pr s) Q
-- 11_say
noncomputable def xf_11_say (s : xs_S) (a0 : Int32) : Option (Int32 × xs_S) :=
((xf_7_hasWord_9 s (a0)).bind fun (v_1, s_1) =>
(if v_1 = (0 : Int32) then
some ((-1 : Int32), s_1)
else
((xf_11_takeTurn s_1 (a0)).bind fun (v_3, s_3) =>
some (v_3, s_3))))
set_option maxHeartbeats 4000000 in
theorem xb_11_say {C : mm_C} {Q : mm_R} {ps : Value} {pr : Value} (h_7_hasWord_9 : xk_7_hasWord_9 C) (h_11_takeTurn : xk_11_takeTurn C) (s : xs_S) (a0 : Int32) (v : Int32) (s2 : xs_S) (hf : xf_11_say s a0 = some (v, s2)) (hK : Q (some (.int v)) (xs_H (.ref 9) ps (.ref 9) pr s2)) : mm_go C mm_Mk mm_Fk P_X11_say Q P_X11_say [(0, .ref 0), (1, .int a0)] [] (xs_H (.ref 9) ps (.ref 9) pr s) 0 0 := by
  unfold xf_11_say at hf
  obtain ⟨r_1, hr_1, hf⟩ := mo_bind hf
  obtain ⟨v_1, s_1⟩ := r_1
  by_cases c_2 : v_1 = (0 : Int32)
  · have hf := mo_pos hf c_2
    obtain ⟨rfl, rfl⟩ := mo_pair hf
    exact ⟨7, (h_7_hasWord_9 (.ref 9) ps (.ref 9) pr s (a0) v_1 s_1 _ hr_1 (And.intro (fun _ => hK) (fun q => absurd c_2 q)))⟩
  · have hf := mo_neg hf c_2
    obtain ⟨r_3, hr_3, hf⟩ := mo_bind hf
    obtain ⟨v_3, s_3⟩ := r_3
    obtain ⟨rfl, rfl⟩ := mo_pair hf
    exact ⟨10, (h_7_hasWord_9 (.ref 9) ps (.ref 9) pr s (a0) v_1 s_1 _ hr_1 (And.intro (fun q => absurd q c_2) (fun _ => (h_11_takeTurn (.ref 9) ps pr s_1 (a0) v_3 s_3 _ hr_3 hK))))⟩
def xk_11_say (C : mm_C) : Prop := ∀ (ps : Value) (pr : Value) (s : xs_S) (a0 : Int32) (v : Int32) (s2 : xs_S) (Q : mm_R), xf_11_say s a0 = some (v, s2) → Q (some (.int v)) (xs_H (.ref 9) ps (.ref 9) pr s2) → C 231 [.ref 0, .int a0] (xs_H (.ref 9) ps (.ref 9) pr s) Q
-- 11_pass
noncomputable def xf_11_pass (s : xs_S)  : Option (Int32 × xs_S) :=
((xf_11_takeTurn s ((6 : Int32))).bind fun (v_1, s_1) =>
some (v_1, s_1))
set_option maxHeartbeats 4000000 in
theorem xb_11_pass {C : mm_C} {Q : mm_R} {pt : Value} {ps : Value} {pr : Value} (h_11_takeTurn : xk_11_takeTurn C) (s : xs_S)  (v : Int32) (s2 : xs_S) (hf : xf_11_pass s = some (v, s2)) (hK : Q (some (.int v)) (xs_H pt ps (.ref 9) pr s2)) : mm_go C mm_Mk mm_Fk P_X11_pass Q P_X11_pass [(0, .ref 0)] [] (xs_H pt ps (.ref 9) pr s) 0 0 := by
  unfold xf_11_pass at hf
  obtain ⟨r_1, hr_1, hf⟩ := mo_bind hf
  obtain ⟨v_1, s_1⟩ := r_1
  obtain ⟨rfl, rfl⟩ := mo_pair hf
  exact ⟨4, (h_11_takeTurn pt ps pr s ((6 : Int32)) v_1 s_1 _ hr_1 hK)⟩
def xk_11_pass (C : mm_C) : Prop := ∀ (pt : Value) (ps : Value) (pr : Value) (s : xs_S)  (v : Int32) (s2 : xs_S) (Q : mm_R), xf_11_pass s = some (v, s2) → Q (some (.int v)) (xs_H pt ps (.ref 9) pr s2) → C 232 [.ref 0] (xs_H pt ps (.ref 9) pr s) Q
-- 11_areTwo
noncomputable def xf_11_areTwo (s : xs_S) (a0 : Int32) (a1 : Int32) : Option (Int32 × xs_S) :=
((xf_7_hasSpeaker_9 s (a0)).bind fun (v_1, s_1) =>
(if v_1 = (0 : Int32) then
some ((0 : Int32), s_1)
else
((xf_7_hasSpeaker_9 s_1 (a1)).bind fun (v_3, s_3) =>
(if v_3 = (0 : Int32) then
some ((0 : Int32), s_3)
else
(if a0 = a1 then
some ((0 : Int32), s_3)
else
some ((1 : Int32), s_3))))))
set_option maxHeartbeats 4000000 in
theorem xb_11_areTwo {C : mm_C} {Q : mm_R} {ps : Value} {pg : Value} {pr : Value} (h_7_hasSpeaker_9 : xk_7_hasSpeaker_9 C) (s : xs_S) (a0 : Int32) (a1 : Int32) (v : Int32) (s2 : xs_S) (hf : xf_11_areTwo s a0 a1 = some (v, s2)) (hK : Q (some (.int v)) (xs_H (.ref 9) ps pg pr s2)) : mm_go C mm_Mk mm_Fk P_X11_areTwo Q P_X11_areTwo [(0, .ref 0), (1, .int a0), (2, .int a1)] [] (xs_H (.ref 9) ps pg pr s) 0 0 := by
  unfold xf_11_areTwo at hf
  obtain ⟨r_1, hr_1, hf⟩ := mo_bind hf
  obtain ⟨v_1, s_1⟩ := r_1
  by_cases c_2 : v_1 = (0 : Int32)
  · have hf := mo_pos hf c_2
    obtain ⟨rfl, rfl⟩ := mo_pair hf
    exact ⟨7, (h_7_hasSpeaker_9 (.ref 9) ps pg pr s (a0) v_1 s_1 _ hr_1 (And.intro (fun _ => (And.intro rfl hK)) (fun q => absurd c_2 q)))⟩
  · have hf := mo_neg hf c_2
    obtain ⟨r_3, hr_3, hf⟩ := mo_bind hf
    obtain ⟨v_3, s_3⟩ := r_3
    by_cases c_4 : v_3 = (0 : Int32)
    · have hf := mo_pos hf c_4
      obtain ⟨rfl, rfl⟩ := mo_pair hf
      exact ⟨12, (h_7_hasSpeaker_9 (.ref 9) ps pg pr s (a0) v_1 s_1 _ hr_1 (And.intro (fun q => absurd q c_2) (fun _ => (h_7_hasSpeaker_9 (.ref 9) ps pg pr s_1 (a1) v_3 s_3 _ hr_3 (And.intro (fun _ => (And.intro rfl hK)) (fun q => absurd c_4 q))))))⟩
    · have hf := mo_neg hf c_4
      by_cases c_5 : a0 = a1
      · have hf := mo_pos hf c_5
        obtain ⟨rfl, rfl⟩ := mo_pair hf
        exact ⟨15, (h_7_hasSpeaker_9 (.ref 9) ps pg pr s (a0) v_1 s_1 _ hr_1 (And.intro (fun q => absurd q c_2) (fun _ => (h_7_hasSpeaker_9 (.ref 9) ps pg pr s_1 (a1) v_3 s_3 _ hr_3 (And.intro (fun q => absurd q c_4) (fun _ => (And.intro (fun _ => (And.intro rfl hK)) (fun q => absurd c_5 q))))))))⟩
      · have hf := mo_neg hf c_5
        obtain ⟨rfl, rfl⟩ := mo_pair hf
        exact ⟨16, (h_7_hasSpeaker_9 (.ref 9) ps pg pr s (a0) v_1 s_1 _ hr_1 (And.intro (fun q => absurd q c_2) (fun _ => (h_7_hasSpeaker_9 (.ref 9) ps pg pr s_1 (a1) v_3 s_3 _ hr_3 (And.intro (fun q => absurd q c_4) (fun _ => (And.intro (fun q => absurd q c_5) (fun _ => (And.intro rfl hK)))))))))⟩
def xk_11_areTwo (C : mm_C) : Prop := ∀ (ps : Value) (pg : Value) (pr : Value) (s : xs_S) (a0 : Int32) (a1 : Int32) (v : Int32) (s2 : xs_S) (Q : mm_R), xf_11_areTwo s a0 a1 = some (v, s2) → Q (some (.int v)) (xs_H (.ref 9) ps pg pr s2) → C 264 [.ref 0, .int a0, .int a1] (xs_H (.ref 9) ps pg pr s) Q
-- 7_wagesOfBoth_9
noncomputable def xf_7_wagesOfBoth_9 (s : xs_S) (a0 : Int32) (a1 : Int32) : Option (Int32 × xs_S) :=
((xf_11_standingOf ((s.1 151)) ((0 : Int32)) ((-1 : Int32))).bind fun v_1 =>
((xf_7_lawOf_9 s ((1 : Int32)) (a0) (a1) (v_1) ((-1 : Int32))).bind fun (v_2, s_2) =>
((xf_11_standingOf ((s_2.1 151)) ((1 : Int32)) ((-1 : Int32))).bind fun v_3 =>
((xf_7_lawOf_9 s_2 ((1 : Int32)) (a0) (a1) (v_3) ((-1 : Int32))).bind fun (v_4, s_4) =>
((xf_11_within (v_2) ((99 : Int32))).bind fun v_5 =>
((xf_11_within (v_4) ((99 : Int32))).bind fun v_6 =>
some ((v_5 + v_6), s_4)))))))
set_option maxHeartbeats 4000000 in
theorem xb_7_wagesOfBoth_9 {C : mm_C} {Q : mm_R} {pt : Value} {ps : Value} {pg : Value} {pr : Value} (h_11_standingOf : xk_11_standingOf C) (h_7_lawOf_9 : xk_7_lawOf_9 C) (h_11_within : xk_11_within C) (s : xs_S) (a0 : Int32) (a1 : Int32) (v : Int32) (s2 : xs_S) (hf : xf_7_wagesOfBoth_9 s a0 a1 = some (v, s2)) (hK : Q (some (.int v)) (xs_H pt ps pg pr s2)) : mm_go C mm_Mk mm_Fk P_X7_wagesOfBoth Q P_X7_wagesOfBoth [(0, .ref 9), (1, .int a0), (2, .int a1)] [] (xs_H pt ps pg pr s) 0 0 := by
  unfold xf_7_wagesOfBoth_9 at hf
  obtain ⟨v_1, hr_1, hf⟩ := mo_bind hf
  obtain ⟨r_2, hr_2, hf⟩ := mo_bind hf
  obtain ⟨v_2, s_2⟩ := r_2
  obtain ⟨v_3, hr_3, hf⟩ := mo_bind hf
  obtain ⟨r_4, hr_4, hf⟩ := mo_bind hf
  obtain ⟨v_4, s_4⟩ := r_4
  obtain ⟨v_5, hr_5, hf⟩ := mo_bind hf
  obtain ⟨v_6, hr_6, hf⟩ := mo_bind hf
  obtain ⟨rfl, rfl⟩ := mo_pair hf
  exact ⟨32, (h_11_standingOf _ ((s.1 151)) ((0 : Int32)) ((-1 : Int32)) v_1 _ hr_1 (h_7_lawOf_9 pt ps pg pr s ((1 : Int32)) (a0) (a1) (v_1) ((-1 : Int32)) v_2 s_2 _ hr_2 (h_11_standingOf _ ((s_2.1 151)) ((1 : Int32)) ((-1 : Int32)) v_3 _ hr_3 (h_7_lawOf_9 pt ps pg pr s_2 ((1 : Int32)) (a0) (a1) (v_3) ((-1 : Int32)) v_4 s_4 _ hr_4 (h_11_within _ (v_2) ((99 : Int32)) v_5 _ hr_5 (h_11_within _ (v_4) ((99 : Int32)) v_6 _ hr_6 hK))))))⟩
def xk_7_wagesOfBoth_9 (C : mm_C) : Prop := ∀ (pt : Value) (ps : Value) (pg : Value) (pr : Value) (s : xs_S) (a0 : Int32) (a1 : Int32) (v : Int32) (s2 : xs_S) (Q : mm_R), xf_7_wagesOfBoth_9 s a0 a1 = some (v, s2) → Q (some (.int v)) (xs_H pt ps pg pr s2) → C 192 [.ref 9, .int a0, .int a1] (xs_H pt ps pg pr s) Q
-- 7_evenStanding_9
noncomputable def xf_7_evenStanding_9 (s : xs_S)  : Option (Int32 × xs_S) :=
((xf_11_standingOf ((s.1 151)) ((0 : Int32)) ((-1 : Int32))).bind fun v_1 =>
some (v_1, s))
set_option maxHeartbeats 4000000 in
theorem xb_7_evenStanding_9 {C : mm_C} {Q : mm_R} {pt : Value} {ps : Value} {pg : Value} {pr : Value} (h_11_standingOf : xk_11_standingOf C) (s : xs_S)  (v : Int32) (s2 : xs_S) (hf : xf_7_evenStanding_9 s = some (v, s2)) (hK : Q (some (.int v)) (xs_H pt ps pg pr s2)) : mm_go C mm_Mk mm_Fk P_X7_evenStanding Q P_X7_evenStanding [(0, .ref 9)] [] (xs_H pt ps pg pr s) 0 0 := by
  unfold xf_7_evenStanding_9 at hf
  obtain ⟨v_1, hr_1, hf⟩ := mo_bind hf
  obtain ⟨rfl, rfl⟩ := mo_pair hf
  exact ⟨6, (h_11_standingOf _ ((s.1 151)) ((0 : Int32)) ((-1 : Int32)) v_1 _ hr_1 hK)⟩
def xk_7_evenStanding_9 (C : mm_C) : Prop := ∀ (pt : Value) (ps : Value) (pg : Value) (pr : Value) (s : xs_S)  (v : Int32) (s2 : xs_S) (Q : mm_R), xf_7_evenStanding_9 s = some (v, s2) → Q (some (.int v)) (xs_H pt ps pg pr s2) → C 191 [.ref 9] (xs_H pt ps pg pr s) Q
