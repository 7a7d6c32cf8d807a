/-! the class, method by method, 8 -/
-- 2_copyFrom_25_61
noncomputable def xf_2_copyFrom_25_61 (s : xs_S)  : Option (xs_S) :=
some (xs_sA (xs_sI (xs_sI (xs_sI (xs_sI (xs_sI s 400 ((s.1 976))) 401 ((s.1 977))) 402 ((s.1 978))) 403 ((s.1 979))) 404 ((s.1 980))) 26 (va_cpy (s.2.1 62) (s.2.1 26) 0 0 5))
set_option maxHeartbeats 4000000 in
theorem xb_2_copyFrom_25_61 {C : mm_C} {Q : mm_R} {pt : Value} {ps : Value} {pg : Value} {pr : Value}  (s : xs_S)  (s2 : xs_S) (hf : xf_2_copyFrom_25_61 s = some s2) (hK : Q (none) (xs_H pt ps pg pr s2)) : mm_go C mm_Mk mm_Fk P_X2_copyFrom Q P_X2_copyFrom [(0, .ref 25), (1, .ref 61)] [] (xs_H pt ps pg pr s) 0 0 := by
  unfold xf_2_copyFrom_25_61 at hf
  obtain rfl := Option.some.inj hf
  exact ⟨29, (And.intro trivial (And.intro trivial (And.intro trivial (And.intro trivial (And.intro trivial (And.intro (by decide) hK))))))⟩
def xk_2_copyFrom_25_61 (C : mm_C) : Prop := ∀ (pt : Value) (ps : Value) (pg : Value) (pr : Value) (s : xs_S)  (s2 : xs_S) (Q : mm_R), xf_2_copyFrom_25_61 s = some s2 → Q (none) (xs_H pt ps pg pr s2) → C 149 [.ref 25, .ref 61] (xs_H pt ps pg pr s) Q
-- 2_copyFrom_25_63
noncomputable def xf_2_copyFrom_25_63 (s : xs_S)  : Option (xs_S) :=
some (xs_sA (xs_sI (xs_sI (xs_sI (xs_sI (xs_sI s 400 ((s.1 1008))) 401 ((s.1 1009))) 402 ((s.1 1010))) 403 ((s.1 1011))) 404 ((s.1 1012))) 26 (va_cpy (s.2.1 64) (s.2.1 26) 0 0 5))
set_option maxHeartbeats 4000000 in
theorem xb_2_copyFrom_25_63 {C : mm_C} {Q : mm_R} {pt : Value} {ps : Value} {pg : Value} {pr : Value}  (s : xs_S)  (s2 : xs_S) (hf : xf_2_copyFrom_25_63 s = some s2) (hK : Q (none) (xs_H pt ps pg pr s2)) : mm_go C mm_Mk mm_Fk P_X2_copyFrom Q P_X2_copyFrom [(0, .ref 25), (1, .ref 63)] [] (xs_H pt ps pg pr s) 0 0 := by
  unfold xf_2_copyFrom_25_63 at hf
  obtain rfl := Option.some.inj hf
  exact ⟨29, (And.intro trivial (And.intro trivial (And.intro trivial (And.intro trivial (And.intro trivial (And.intro (by decide) hK))))))⟩
def xk_2_copyFrom_25_63 (C : mm_C) : Prop := ∀ (pt : Value) (ps : Value) (pg : Value) (pr : Value) (s : xs_S)  (s2 : xs_S) (Q : mm_R), xf_2_copyFrom_25_63 s = some s2 → Q (none) (xs_H pt ps pg pr s2) → C 149 [.ref 25, .ref 63] (xs_H pt ps pg pr s) Q
-- 2_copyFrom_25_65
noncomputable def xf_2_copyFrom_25_65 (s : xs_S)  : Option (xs_S) :=
some (xs_sA (xs_sI (xs_sI (xs_sI (xs_sI (xs_sI s 400 ((s.1 1040))) 401 ((s.1 1041))) 402 ((s.1 1042))) 403 ((s.1 1043))) 404 ((s.1 1044))) 26 (va_cpy (s.2.1 66) (s.2.1 26) 0 0 5))
set_option maxHeartbeats 4000000 in
theorem xb_2_copyFrom_25_65 {C : mm_C} {Q : mm_R} {pt : Value} {ps : Value} {pg : Value} {pr : Value}  (s : xs_S)  (s2 : xs_S) (hf : xf_2_copyFrom_25_65 s = some s2) (hK : Q (none) (xs_H pt ps pg pr s2)) : mm_go C mm_Mk mm_Fk P_X2_copyFrom Q P_X2_copyFrom [(0, .ref 25), (1, .ref 65)] [] (xs_H pt ps pg pr s) 0 0 := by
  unfold xf_2_copyFrom_25_65 at hf
  obtain rfl := Option.some.inj hf
  exact ⟨29, (And.intro trivial (And.intro trivial (And.intro trivial (And.intro trivial (And.intro trivial (And.intro (by decide) hK))))))⟩
def xk_2_copyFrom_25_65 (C : mm_C) : Prop := ∀ (pt : Value) (ps : Value) (pg : Value) (pr : Value) (s : xs_S)  (s2 : xs_S) (Q : mm_R), xf_2_copyFrom_25_65 s = some s2 → Q (none) (xs_H pt ps pg pr s2) → C 149 [.ref 25, .ref 65] (xs_H pt ps pg pr s) Q
-- 2_copyFrom_25_67
noncomputable def xf_2_copyFrom_25_67 (s : xs_S)  : Option (xs_S) :=
some (xs_sA (xs_sI (xs_sI (xs_sI (xs_sI (xs_sI s 400 ((s.1 1072))) 401 ((s.1 1073))) 402 ((s.1 1074))) 403 ((s.1 1075))) 404 ((s.1 1076))) 26 (va_cpy (s.2.1 68) (s.2.1 26) 0 0 5))
set_option maxHeartbeats 4000000 in
theorem xb_2_copyFrom_25_67 {C : mm_C} {Q : mm_R} {pt : Value} {ps : Value} {pg : Value} {pr : Value}  (s : xs_S)  (s2 : xs_S) (hf : xf_2_copyFrom_25_67 s = some s2) (hK : Q (none) (xs_H pt ps pg pr s2)) : mm_go C mm_Mk mm_Fk P_X2_copyFrom Q P_X2_copyFrom [(0, .ref 25), (1, .ref 67)] [] (xs_H pt ps pg pr s) 0 0 := by
  unfold xf_2_copyFrom_25_67 at hf
  obtain rfl := Option.some.inj hf
  exact ⟨29, (And.intro trivial (And.intro trivial (And.intro trivial (And.intro trivial (And.intro trivial (And.intro (by decide) hK))))))⟩
def xk_2_copyFrom_25_67 (C : mm_C) : Prop := ∀ (pt : Value) (ps : Value) (pg : Value) (pr : Value) (s : xs_S)  (s2 : xs_S) (Q : mm_R), xf_2_copyFrom_25_67 s = some s2 → Q (none) (xs_H pt ps pg pr s2) → C 149 [.ref 25, .ref 67] (xs_H pt ps pg pr s) Q
-- 2_copyFrom_25_69
noncomputable def xf_2_copyFrom_25_69 (s : xs_S)  : Option (xs_S) :=
some (xs_sA (xs_sI (xs_sI (xs_sI (xs_sI (xs_sI s 400 ((s.1 1104))) 401 ((s.1 1105))) 402 ((s.1 1106))) 403 ((s.1 1107))) 404 ((s.1 1108))) 26 (va_cpy (s.2.1 70) (s.2.1 26) 0 0 5))
set_option maxHeartbeats 4000000 in
theorem xb_2_copyFrom_25_69 {C : mm_C} {Q : mm_R} {pt : Value} {ps : Value} {pg : Value} {pr : Value}  (s : xs_S)  (s2 : xs_S) (hf : xf_2_copyFrom_25_69 s = some s2) (hK : Q (none) (xs_H pt ps pg pr s2)) : mm_go C mm_Mk mm_Fk P_X2_copyFrom Q P_X2_copyFrom [(0, .ref 25), (1, .ref 69)] [] (xs_H pt ps pg pr s) 0 0 := by
  unfold xf_2_copyFrom_25_69 at hf
  obtain rfl := Option.some.inj hf
  exact ⟨29, (And.intro trivial (And.intro trivial (And.intro trivial (And.intro trivial (And.intro trivial (And.intro (by decide) hK))))))⟩
def xk_2_copyFrom_25_69 (C : mm_C) : Prop := ∀ (pt : Value) (ps : Value) (pg : Value) (pr : Value) (s : xs_S)  (s2 : xs_S) (Q : mm_R), xf_2_copyFrom_25_69 s = some s2 → Q (none) (xs_H pt ps pg pr s2) → C 149 [.ref 25, .ref 69] (xs_H pt ps pg pr s) Q
-- 2_copyFrom_25_71
noncomputable def xf_2_copyFrom_25_71 (s : xs_S)  : Option (xs_S) :=
some (xs_sA (xs_sI (xs_sI (xs_sI (xs_sI (xs_sI s 400 ((s.1 1136))) 401 ((s.1 1137))) 402 ((s.1 1138))) 403 ((s.1 1139))) 404 ((s.1 1140))) 26 (va_cpy (s.2.1 72) (s.2.1 26) 0 0 5))
set_option maxHeartbeats 4000000 in
theorem xb_2_copyFrom_25_71 {C : mm_C} {Q : mm_R} {pt : Value} {ps : Value} {pg : Value} {pr : Value}  (s : xs_S)  (s2 : xs_S) (hf : xf_2_copyFrom_25_71 s = some s2) (hK : Q (none) (xs_H pt ps pg pr s2)) : mm_go C mm_Mk mm_Fk P_X2_copyFrom Q P_X2_copyFrom [(0, .ref 25), (1, .ref 71)] [] (xs_H pt ps pg pr s) 0 0 := by
  unfold xf_2_copyFrom_25_71 at hf
  obtain rfl := Option.some.inj hf
  exact ⟨29, (And.intro trivial (And.intro trivial (And.intro trivial (And.intro trivial (And.intro trivial (And.intro (by decide) hK))))))⟩
def xk_2_copyFrom_25_71 (C : mm_C) : Prop := ∀ (pt : Value) (ps : Value) (pg : Value) (pr : Value) (s : xs_S)  (s2 : xs_S) (Q : mm_R), xf_2_copyFrom_25_71 s = some s2 → Q (none) (xs_H pt ps pg pr s2) → C 149 [.ref 25, .ref 71] (xs_H pt ps pg pr s) Q
-- 2_copyFrom_25_73
noncomputable def xf_2_copyFrom_25_73 (s : xs_S)  : Option (xs_S) :=
some (xs_sA (xs_sI (xs_sI (xs_sI (xs_sI (xs_sI s 400 ((s.1 1168))) 401 ((s.1 1169))) 402 ((s.1 1170))) 403 ((s.1 1171))) 404 ((s.1 1172))) 26 (va_cpy (s.2.1 74) (s.2.1 26) 0 0 5))
set_option maxHeartbeats 4000000 in
theorem xb_2_copyFrom_25_73 {C : mm_C} {Q : mm_R} {pt : Value} {ps : Value} {pg : Value} {pr : Value}  (s : xs_S)  (s2 : xs_S) (hf : xf_2_copyFrom_25_73 s = some s2) (hK : Q (none) (xs_H pt ps pg pr s2)) : mm_go C mm_Mk mm_Fk P_X2_copyFrom Q P_X2_copyFrom [(0, .ref 25), (1, .ref 73)] [] (xs_H pt ps pg pr s) 0 0 := by
  unfold xf_2_copyFrom_25_73 at hf
  obtain rfl := Option.some.inj hf
  exact ⟨29, (And.intro trivial (And.intro trivial (And.intro trivial (And.intro trivial (And.intro trivial (And.intro (by decide) hK))))))⟩
def xk_2_copyFrom_25_73 (C : mm_C) : Prop := ∀ (pt : Value) (ps : Value) (pg : Value) (pr : Value) (s : xs_S)  (s2 : xs_S) (Q : mm_R), xf_2_copyFrom_25_73 s = some s2 → Q (none) (xs_H pt ps pg pr s2) → C 149 [.ref 25, .ref 73] (xs_H pt ps pg pr s) Q
-- 2_copyFrom_25_75
noncomputable def xf_2_copyFrom_25_75 (s : xs_S)  : Option (xs_S) :=
some (xs_sA (xs_sI (xs_sI (xs_sI (xs_sI (xs_sI s 400 ((s.1 1200))) 401 ((s.1 1201))) 402 ((s.1 1202))) 403 ((s.1 1203))) 404 ((s.1 1204))) 26 (va_cpy (s.2.1 76) (s.2.1 26) 0 0 5))
set_option maxHeartbeats 4000000 in
theorem xb_2_copyFrom_25_75 {C : mm_C} {Q : mm_R} {pt : Value} {ps : Value} {pg : Value} {pr : Value}  (s : xs_S)  (s2 : xs_S) (hf : xf_2_copyFrom_25_75 s = some s2) (hK : Q (none) (xs_H pt ps pg pr s2)) : mm_go C mm_Mk mm_Fk P_X2_copyFrom Q P_X2_copyFrom [(0, .ref 25), (1, .ref 75)] [] (xs_H pt ps pg pr s) 0 0 := by
  unfold xf_2_copyFrom_25_75 at hf
  obtain rfl := Option.some.inj hf
  exact ⟨29, (And.intro trivial (And.intro trivial (And.intro trivial (And.intro trivial (And.intro trivial (And.intro (by decide) hK))))))⟩
def xk_2_copyFrom_25_75 (C : mm_C) : Prop := ∀ (pt : Value) (ps : Value) (pg : Value) (pr : Value) (s : xs_S)  (s2 : xs_S) (Q : mm_R), xf_2_copyFrom_25_75 s = some s2 → Q (none) (xs_H pt ps pg pr s2) → C 149 [.ref 25, .ref 75] (xs_H pt ps pg pr s) Q
-- 2_copyFrom_25_77
noncomputable def xf_2_copyFrom_25_77 (s : xs_S)  : Option (xs_S) :=
some (xs_sA (xs_sI (xs_sI (xs_sI (xs_sI (xs_sI s 400 ((s.1 1232))) 401 ((s.1 1233))) 402 ((s.1 1234))) 403 ((s.1 1235))) 404 ((s.1 1236))) 26 (va_cpy (s.2.1 78) (s.2.1 26) 0 0 5))
set_option maxHeartbeats 4000000 in
theorem xb_2_copyFrom_25_77 {C : mm_C} {Q : mm_R} {pt : Value} {ps : Value} {pg : Value} {pr : Value}  (s : xs_S)  (s2 : xs_S) (hf : xf_2_copyFrom_25_77 s = some s2) (hK : Q (none) (xs_H pt ps pg pr s2)) : mm_go C mm_Mk mm_Fk P_X2_copyFrom Q P_X2_copyFrom [(0, .ref 25), (1, .ref 77)] [] (xs_H pt ps pg pr s) 0 0 := by
  unfold xf_2_copyFrom_25_77 at hf
  obtain rfl := Option.some.inj hf
  exact ⟨29, (And.intro trivial (And.intro trivial (And.intro trivial (And.intro trivial (And.intro trivial (And.intro (by decide) hK))))))⟩
def xk_2_copyFrom_25_77 (C : mm_C) : Prop := ∀ (pt : Value) (ps : Value) (pg : Value) (pr : Value) (s : xs_S)  (s2 : xs_S) (Q : mm_R), xf_2_copyFrom_25_77 s = some s2 → Q (none) (xs_H pt ps pg pr s2) → C 149 [.ref 25, .ref 77] (xs_H pt ps pg pr s) Q
-- 2_copyFrom_25_79
noncomputable def xf_2_copyFrom_25_79 (s : xs_S)  : Option (xs_S) :=
some (xs_sA (xs_sI (xs_sI (xs_sI (xs_sI (xs_sI s 400 ((s.1 1264))) 401 ((s.1 1265))) 402 ((s.1 1266))) 403 ((s.1 1267))) 404 ((s.1 1268))) 26 (va_cpy (s.2.1 80) (s.2.1 26) 0 0 5))
set_option maxHeartbeats 4000000 in
theorem xb_2_copyFrom_25_79 {C : mm_C} {Q : mm_R} {pt : Value} {ps : Value} {pg : Value} {pr : Value}  (s : xs_S)  (s2 : xs_S) (hf : xf_2_copyFrom_25_79 s = some s2) (hK : Q (none) (xs_H pt ps pg pr s2)) : mm_go C mm_Mk mm_Fk P_X2_copyFrom Q P_X2_copyFrom [(0, .ref 25), (1, .ref 79)] [] (xs_H pt ps pg pr s) 0 0 := by
  unfold xf_2_copyFrom_25_79 at hf
  obtain rfl := Option.some.inj hf
  exact ⟨29, (And.intro trivial (And.intro trivial (And.intro trivial (And.intro trivial (And.intro trivial (And.intro (by decide) hK))))))⟩
def xk_2_copyFrom_25_79 (C : mm_C) : Prop := ∀ (pt : Value) (ps : Value) (pg : Value) (pr : Value) (s : xs_S)  (s2 : xs_S) (Q : mm_R), xf_2_copyFrom_25_79 s = some s2 → Q (none) (xs_H pt ps pg pr s2) → C 149 [.ref 25, .ref 79] (xs_H pt ps pg pr s) Q
-- 2_copyFrom_25_81
noncomputable def xf_2_copyFrom_25_81 (s : xs_S)  : Option (xs_S) :=
some (xs_sA (xs_sI (xs_sI (xs_sI (xs_sI (xs_sI s 400 ((s.1 1296))) 401 ((s.1 1297))) 402 ((s.1 1298))) 403 ((s.1 1299))) 404 ((s.1 1300))) 26 (va_cpy (s.2.1 82) (s.2.1 26) 0 0 5))
set_option maxHeartbeats 4000000 in
theorem xb_2_copyFrom_25_81 {C : mm_C} {Q : mm_R} {pt : Value} {ps : Value} {pg : Value} {pr : Value}  (s : xs_S)  (s2 : xs_S) (hf : xf_2_copyFrom_25_81 s = some s2) (hK : Q (none) (xs_H pt ps pg pr s2)) : mm_go C mm_Mk mm_Fk P_X2_copyFrom Q P_X2_copyFrom [(0, .ref 25), (1, .ref 81)] [] (xs_H pt ps pg pr s) 0 0 := by
  unfold xf_2_copyFrom_25_81 at hf
  obtain rfl := Option.some.inj hf
  exact ⟨29, (And.intro trivial (And.intro trivial (And.intro trivial (And.intro trivial (And.intro trivial (And.intro (by decide) hK))))))⟩
def xk_2_copyFrom_25_81 (C : mm_C) : Prop := ∀ (pt : Value) (ps : Value) (pg : Value) (pr : Value) (s : xs_S)  (s2 : xs_S) (Q : mm_R), xf_2_copyFrom_25_81 s = some s2 → Q (none) (xs_H pt ps pg pr s2) → C 149 [.ref 25, .ref 81] (xs_H pt ps pg pr s) Q
-- 2_copyFrom_25_83
noncomputable def xf_2_copyFrom_25_83 (s : xs_S)  : Option (xs_S) :=
some (xs_sA (xs_sI (xs_sI (xs_sI (xs_sI (xs_sI s 400 ((s.1 1328))) 401 ((s.1 1329))) 402 ((s.1 1330))) 403 ((s.1 1331))) 404 ((s.1 1332))) 26 (va_cpy (s.2.1 84) (s.2.1 26) 0 0 5))
set_option maxHeartbeats 4000000 in
theorem xb_2_copyFrom_25_83 {C : mm_C} {Q : mm_R} {pt : Value} {ps : Value} {pg : Value} {pr : Value}  (s : xs_S)  (s2 : xs_S) (hf : xf_2_copyFrom_25_83 s = some s2) (hK : Q (none) (xs_H pt ps pg pr s2)) : mm_go C mm_Mk mm_Fk P_X2_copyFrom Q P_X2_copyFrom [(0, .ref 25), (1, .ref 83)] [] (xs_H pt ps pg pr s) 0 0 := by
  unfold xf_2_copyFrom_25_83 at hf
  obtain rfl := Option.some.inj hf
  exact ⟨29, (And.intro trivial (And.intro trivial (And.intro trivial (And.intro trivial (And.intro trivial (And.intro (by decide) hK))))))⟩
def xk_2_copyFrom_25_83 (C : mm_C) : Prop := ∀ (pt : Value) (ps : Value) (pg : Value) (pr : Value) (s : xs_S)  (s2 : xs_S) (Q : mm_R), xf_2_copyFrom_25_83 s = some s2 → Q (none) (xs_H pt ps pg pr s2) → C 149 [.ref 25, .ref 83] (xs_H pt ps pg pr s) Q
-- 2_copyFrom_25_85
noncomputable def xf_2_copyFrom_25_85 (s : xs_S)  : Option (xs_S) :=
some (xs_sA (xs_sI (xs_sI (xs_sI (xs_sI (xs_sI s 400 ((s.1 1360))) 401 ((s.1 1361))) 402 ((s.1 1362))) 403 ((s.1 1363))) 404 ((s.1 1364))) 26 (va_cpy (s.2.1 86) (s.2.1 26) 0 0 5))
set_option maxHeartbeats 4000000 in
theorem xb_2_copyFrom_25_85 {C : mm_C} {Q : mm_R} {pt : Value} {ps : Value} {pg : Value} {pr : Value}  (s : xs_S)  (s2 : xs_S) (hf : xf_2_copyFrom_25_85 s = some s2) (hK : Q (none) (xs_H pt ps pg pr s2)) : mm_go C mm_Mk mm_Fk P_X2_copyFrom Q P_X2_copyFrom [(0, .ref 25), (1, .ref 85)] [] (xs_H pt ps pg pr s) 0 0 := by
  unfold xf_2_copyFrom_25_85 at hf
  obtain rfl := Option.some.inj hf
  exact ⟨29, (And.intro trivial (And.intro trivial (And.intro trivial (And.intro trivial (And.intro trivial (And.intro (by decide) hK))))))⟩
def xk_2_copyFrom_25_85 (C : mm_C) : Prop := ∀ (pt : Value) (ps : Value) (pg : Value) (pr : Value) (s : xs_S)  (s2 : xs_S) (Q : mm_R), xf_2_copyFrom_25_85 s = some s2 → Q (none) (xs_H pt ps pg pr s2) → C 149 [.ref 25, .ref 85] (xs_H pt ps pg pr s) Q
-- 2_copyFrom_25_87
noncomputable def xf_2_copyFrom_25_87 (s : xs_S)  : Option (xs_S) :=
some (xs_sA (xs_sI (xs_sI (xs_sI (xs_sI (xs_sI s 400 ((s.1 1392))) 401 ((s.1 1393))) 402 ((s.1 1394))) 403 ((s.1 1395))) 404 ((s.1 1396))) 26 (va_cpy (s.2.1 88) (s.2.1 26) 0 0 5))
set_option maxHeartbeats 4000000 in
theorem xb_2_copyFrom_25_87 {C : mm_C} {Q : mm_R} {pt : Value} {ps : Value} {pg : Value} {pr : Value}  (s : xs_S)  (s2 : xs_S) (hf : xf_2_copyFrom_25_87 s = some s2) (hK : Q (none) (xs_H pt ps pg pr s2)) : mm_go C mm_Mk mm_Fk P_X2_copyFrom Q P_X2_copyFrom [(0, .ref 25), (1, .ref 87)] [] (xs_H pt ps pg pr s) 0 0 := by
  unfold xf_2_copyFrom_25_87 at hf
  obtain rfl := Option.some.inj hf
  exact ⟨29, (And.intro trivial (And.intro trivial (And.intro trivial (And.intro trivial (And.intro trivial (And.intro (by decide) hK))))))⟩
def xk_2_copyFrom_25_87 (C : mm_C) : Prop := ∀ (pt : Value) (ps : Value) (pg : Value) (pr : Value) (s : xs_S)  (s2 : xs_S) (Q : mm_R), xf_2_copyFrom_25_87 s = some s2 → Q (none) (xs_H pt ps pg pr s2) → C 149 [.ref 25, .ref 87] (xs_H pt ps pg pr s) Q
-- 2_copyFrom_25_89
noncomputable def xf_2_copyFrom_25_89 (s : xs_S)  : Option (xs_S) :=
some (xs_sA (xs_sI (xs_sI (xs_sI (xs_sI (xs_sI s 400 ((s.1 1424))) 401 ((s.1 1425))) 402 ((s.1 1426))) 403 ((s.1 1427))) 404 ((s.1 1428))) 26 (va_cpy (s.2.1 90) (s.2.1 26) 0 0 5))
set_option maxHeartbeats 4000000 in
theorem xb_2_copyFrom_25_89 {C : mm_C} {Q : mm_R} {pt : Value} {ps : Value} {pg : Value} {pr : Value}  (s : xs_S)  (s2 : xs_S) (hf : xf_2_copyFrom_25_89 s = some s2) (hK : Q (none) (xs_H pt ps pg pr s2)) : mm_go C mm_Mk mm_Fk P_X2_copyFrom Q P_X2_copyFrom [(0, .ref 25), (1, .ref 89)] [] (xs_H pt ps pg pr s) 0 0 := by
  unfold xf_2_copyFrom_25_89 at hf
  obtain rfl := Option.some.inj hf
  exact ⟨29, (And.intro trivial (And.intro trivial (And.intro trivial (And.intro trivial (And.intro trivial (And.intro (by decide) hK))))))⟩
def xk_2_copyFrom_25_89 (C : mm_C) : Prop := ∀ (pt : Value) (ps : Value) (pg : Value) (pr : Value) (s : xs_S)  (s2 : xs_S) (Q : mm_R), xf_2_copyFrom_25_89 s = some s2 → Q (none) (xs_H pt ps pg pr s2) → C 149 [.ref 25, .ref 89] (xs_H pt ps pg pr s) Q
-- 2_copyFrom_25_91
noncomputable def xf_2_copyFrom_25_91 (s : xs_S)  : Option (xs_S) :=
some (xs_sA (xs_sI (xs_sI (xs_sI (xs_sI (xs_sI s 400 ((s.1 1456))) 401 ((s.1 1457))) 402 ((s.1 1458))) 403 ((s.1 1459))) 404 ((s.1 1460))) 26 (va_cpy (s.2.1 92) (s.2.1 26) 0 0 5))
set_option maxHeartbeats 4000000 in
theorem xb_2_copyFrom_25_91 {C : mm_C} {Q : mm_R} {pt : Value} {ps : Value} {pg : Value} {pr : Value}  (s : xs_S)  (s2 : xs_S) (hf : xf_2_copyFrom_25_91 s = some s2) (hK : Q (none) (xs_H pt ps pg pr s2)) : mm_go C mm_Mk mm_Fk P_X2_copyFrom Q P_X2_copyFrom [(0, .ref 25), (1, .ref 91)] [] (xs_H pt ps pg pr s) 0 0 := by
  unfold xf_2_copyFrom_25_91 at hf
  obtain rfl := Option.some.inj hf
  exact ⟨29, (And.intro trivial (And.intro trivial (And.intro trivial (And.intro trivial (And.intro trivial (And.intro (by decide) hK))))))⟩
def xk_2_copyFrom_25_91 (C : mm_C) : Prop := ∀ (pt : Value) (ps : Value) (pg : Value) (pr : Value) (s : xs_S)  (s2 : xs_S) (Q : mm_R), xf_2_copyFrom_25_91 s = some s2 → Q (none) (xs_H pt ps pg pr s2) → C 149 [.ref 25, .ref 91] (xs_H pt ps pg pr s) Q
-- 2_copyFrom_25_93
noncomputable def xf_2_copyFrom_25_93 (s : xs_S)  : Option (xs_S) :=
some (xs_sA (xs_sI (xs_sI (xs_sI (xs_sI (xs_sI s 400 ((s.1 1488))) 401 ((s.1 1489))) 402 ((s.1 1490))) 403 ((s.1 1491))) 404 ((s.1 1492))) 26 (va_cpy (s.2.1 94) (s.2.1 26) 0 0 5))
set_option maxHeartbeats 4000000 in
theorem xb_2_copyFrom_25_93 {C : mm_C} {Q : mm_R} {pt : Value} {ps : Value} {pg : Value} {pr : Value}  (s : xs_S)  (s2 : xs_S) (hf : xf_2_copyFrom_25_93 s = some s2) (hK : Q (none) (xs_H pt ps pg pr s2)) : mm_go C mm_Mk mm_Fk P_X2_copyFrom Q P_X2_copyFrom [(0, .ref 25), (1, .ref 93)] [] (xs_H pt ps pg pr s) 0 0 := by
  unfold xf_2_copyFrom_25_93 at hf
  obtain rfl := Option.some.inj hf
  exact ⟨29, (And.intro trivial (And.intro trivial (And.intro trivial (And.intro trivial (And.intro trivial (And.intro (by decide) hK))))))⟩
def xk_2_copyFrom_25_93 (C : mm_C) : Prop := ∀ (pt : Value) (ps : Value) (pg : Value) (pr : Value) (s : xs_S)  (s2 : xs_S) (Q : mm_R), xf_2_copyFrom_25_93 s = some s2 → Q (none) (xs_H pt ps pg pr s2) → C 149 [.ref 25, .ref 93] (xs_H pt ps pg pr s) Q
-- 2_copyFrom_25_95
noncomputable def xf_2_copyFrom_25_95 (s : xs_S)  : Option (xs_S) :=
some (xs_sA (xs_sI (xs_sI (xs_sI (xs_sI (xs_sI s 400 ((s.1 1520))) 401 ((s.1 1521))) 402 ((s.1 1522))) 403 ((s.1 1523))) 404 ((s.1 1524))) 26 (va_cpy (s.2.1 96) (s.2.1 26) 0 0 5))
set_option maxHeartbeats 4000000 in
theorem xb_2_copyFrom_25_95 {C : mm_C} {Q : mm_R} {pt : Value} {ps : Value} {pg : Value} {pr : Value}  (s : xs_S)  (s2 : xs_S) (hf : xf_2_copyFrom_25_95 s = some s2) (hK : Q (none) (xs_H pt ps pg pr s2)) : mm_go C mm_Mk mm_Fk P_X2_copyFrom Q P_X2_copyFrom [(0, .ref 25), (1, .ref 95)] [] (xs_H pt ps pg pr s) 0 0 := by
  unfold xf_2_copyFrom_25_95 at hf
  obtain rfl := Option.some.inj hf
  exact ⟨29, (And.intro trivial (And.intro trivial (And.intro trivial (And.intro trivial (And.intro trivial (And.intro (by decide) hK))))))⟩
def xk_2_copyFrom_25_95 (C : mm_C) : Prop := ∀ (pt : Value) (ps : Value) (pg : Value) (pr : Value) (s : xs_S)  (s2 : xs_S) (Q : mm_R), xf_2_copyFrom_25_95 s = some s2 → Q (none) (xs_H pt ps pg pr s2) → C 149 [.ref 25, .ref 95] (xs_H pt ps pg pr s) Q
-- 2_copyFrom_25_97
noncomputable def xf_2_copyFrom_25_97 (s : xs_S)  : Option (xs_S) :=
some (xs_sA (xs_sI (xs_sI (xs_sI (xs_sI (xs_sI s 400 ((s.1 1552))) 401 ((s.1 1553))) 402 ((s.1 1554))) 403 ((s.1 1555))) 404 ((s.1 1556))) 26 (va_cpy (s.2.1 98) (s.2.1 26) 0 0 5))
set_option maxHeartbeats 4000000 in
theorem xb_2_copyFrom_25_97 {C : mm_C} {Q : mm_R} {pt : Value} {ps : Value} {pg : Value} {pr : Value}  (s : xs_S)  (s2 : xs_S) (hf : xf_2_copyFrom_25_97 s = some s2) (hK : Q (none) (xs_H pt ps pg pr s2)) : mm_go C mm_Mk mm_Fk P_X2_copyFrom Q P_X2_copyFrom [(0, .ref 25), (1, .ref 97)] [] (xs_H pt ps pg pr s) 0 0 := by
  unfold xf_2_copyFrom_25_97 at hf
  obtain rfl := Option.some.inj hf
  exact ⟨29, (And.intro trivial (And.intro trivial (And.intro trivial (And.intro trivial (And.intro trivial (And.intro (by decide) hK))))))⟩
def xk_2_copyFrom_25_97 (C : mm_C) : Prop := ∀ (pt : Value) (ps : Value) (pg : Value) (pr : Value) (s : xs_S)  (s2 : xs_S) (Q : mm_R), xf_2_copyFrom_25_97 s = some s2 → Q (none) (xs_H pt ps pg pr s2) → C 149 [.ref 25, .ref 97] (xs_H pt ps pg pr s) Q
-- 2_copyFrom_25_99
noncomputable def xf_2_copyFrom_25_99 (s : xs_S)  : Option (xs_S) :=
some (xs_sA (xs_sI (xs_sI (xs_sI (xs_sI (xs_sI s 400 ((s.1 1584))) 401 ((s.1 1585))) 402 ((s.1 1586))) 403 ((s.1 1587))) 404 ((s.1 1588))) 26 (va_cpy (s.2.1 100) (s.2.1 26) 0 0 5))
set_option maxHeartbeats 4000000 in
theorem xb_2_copyFrom_25_99 {C : mm_C} {Q : mm_R} {pt : Value} {ps : Value} {pg : Value} {pr : Value}  (s : xs_S)  (s2 : xs_S) (hf : xf_2_copyFrom_25_99 s = some s2) (hK : Q (none) (xs_H pt ps pg pr s2)) : mm_go C mm_Mk mm_Fk P_X2_copyFrom Q P_X2_copyFrom [(0, .ref 25), (1, .ref 99)] [] (xs_H pt ps pg pr s) 0 0 := by
  unfold xf_2_copyFrom_25_99 at hf
  obtain rfl := Option.some.inj hf
  exact ⟨29, (And.intro trivial (And.intro trivial (And.intro trivial (And.intro trivial (And.intro trivial (And.intro (by decide) hK))))))⟩
def xk_2_copyFrom_25_99 (C : mm_C) : Prop := ∀ (pt : Value) (ps : Value) (pg : Value) (pr : Value) (s : xs_S)  (s2 : xs_S) (Q : mm_R), xf_2_copyFrom_25_99 s = some s2 → Q (none) (xs_H pt ps pg pr s2) → C 149 [.ref 25, .ref 99] (xs_H pt ps pg pr s) Q
-- 2_copyFrom_25_101
noncomputable def xf_2_copyFrom_25_101 (s : xs_S)  : Option (xs_S) :=
some (xs_sA (xs_sI (xs_sI (xs_sI (xs_sI (xs_sI s 400 ((s.1 1616))) 401 ((s.1 1617))) 402 ((s.1 1618))) 403 ((s.1 1619))) 404 ((s.1 1620))) 26 (va_cpy (s.2.1 102) (s.2.1 26) 0 0 5))
set_option maxHeartbeats 4000000 in
theorem xb_2_copyFrom_25_101 {C : mm_C} {Q : mm_R} {pt : Value} {ps : Value} {pg : Value} {pr : Value}  (s : xs_S)  (s2 : xs_S) (hf : xf_2_copyFrom_25_101 s = some s2) (hK : Q (none) (xs_H pt ps pg pr s2)) : mm_go C mm_Mk mm_Fk P_X2_copyFrom Q P_X2_copyFrom [(0, .ref 25), (1, .ref 101)] [] (xs_H pt ps pg pr s) 0 0 := by
  unfold xf_2_copyFrom_25_101 at hf
  obtain rfl := Option.some.inj hf
  exact ⟨29, (And.intro trivial (And.intro trivial (And.intro trivial (And.intro trivial (And.intro trivial (And.intro (by decide) hK))))))⟩
def xk_2_copyFrom_25_101 (C : mm_C) : Prop := ∀ (pt : Value) (ps : Value) (pg : Value) (pr : Value) (s : xs_S)  (s2 : xs_S) (Q : mm_R), xf_2_copyFrom_25_101 s = some s2 → Q (none) (xs_H pt ps pg pr s2) → C 149 [.ref 25, .ref 101] (xs_H pt ps pg pr s) Q
-- 2_copyFrom_25_103
noncomputable def xf_2_copyFrom_25_103 (s : xs_S)  : Option (xs_S) :=
some (xs_sA (xs_sI (xs_sI (xs_sI (xs_sI (xs_sI s 400 ((s.1 1648))) 401 ((s.1 1649))) 402 ((s.1 1650))) 403 ((s.1 1651))) 404 ((s.1 1652))) 26 (va_cpy (s.2.1 104) (s.2.1 26) 0 0 5))
set_option maxHeartbeats 4000000 in
theorem xb_2_copyFrom_25_103 {C : mm_C} {Q : mm_R} {pt : Value} {ps : Value} {pg : Value} {pr : Value}  (s : xs_S)  (s2 : xs_S) (hf : xf_2_copyFrom_25_103 s = some s2) (hK : Q (none) (xs_H pt ps pg pr s2)) : mm_go C mm_Mk mm_Fk P_X2_copyFrom Q P_X2_copyFrom [(0, .ref 25), (1, .ref 103)] [] (xs_H pt ps pg pr s) 0 0 := by
  unfold xf_2_copyFrom_25_103 at hf
  obtain rfl := Option.some.inj hf
  exact ⟨29, (And.intro trivial (And.intro trivial (And.intro trivial (And.intro trivial (And.intro trivial (And.intro (by decide) hK))))))⟩
def xk_2_copyFrom_25_103 (C : mm_C) : Prop := ∀ (pt : Value) (ps : Value) (pg : Value) (pr : Value) (s : xs_S)  (s2 : xs_S) (Q : mm_R), xf_2_copyFrom_25_103 s = some s2 → Q (none) (xs_H pt ps pg pr s2) → C 149 [.ref 25, .ref 103] (xs_H pt ps pg pr s) Q
-- 2_copyFrom_25_105
noncomputable def xf_2_copyFrom_25_105 (s : xs_S)  : Option (xs_S) :=
some (xs_sA (xs_sI (xs_sI (xs_sI (xs_sI (xs_sI s 400 ((s.1 1680))) 401 ((s.1 1681))) 402 ((s.1 1682))) 403 ((s.1 1683))) 404 ((s.1 1684))) 26 (va_cpy (s.2.1 106) (s.2.1 26) 0 0 5))
set_option maxHeartbeats 4000000 in
theorem xb_2_copyFrom_25_105 {C : mm_C} {Q : mm_R} {pt : Value} {ps : Value} {pg : Value} {pr : Value}  (s : xs_S)  (s2 : xs_S) (hf : xf_2_copyFrom_25_105 s = some s2) (hK : Q (none) (xs_H pt ps pg pr s2)) : mm_go C mm_Mk mm_Fk P_X2_copyFrom Q P_X2_copyFrom [(0, .ref 25), (1, .ref 105)] [] (xs_H pt ps pg pr s) 0 0 := by
  unfold xf_2_copyFrom_25_105 at hf
  obtain rfl := Option.some.inj hf
  exact ⟨29, (And.intro trivial (And.intro trivial (And.intro trivial (And.intro trivial (And.intro trivial (And.intro (by decide) hK))))))⟩
def xk_2_copyFrom_25_105 (C : mm_C) : Prop := ∀ (pt : Value) (ps : Value) (pg : Value) (pr : Value) (s : xs_S)  (s2 : xs_S) (Q : mm_R), xf_2_copyFrom_25_105 s = some s2 → Q (none) (xs_H pt ps pg pr s2) → C 149 [.ref 25, .ref 105] (xs_H pt ps pg pr s) Q
-- 2_copyFrom_25_107
noncomputable def xf_2_copyFrom_25_107 (s : xs_S)  : Option (xs_S) :=
some (xs_sA (xs_sI (xs_sI (xs_sI (xs_sI (xs_sI s 400 ((s.1 1712))) 401 ((s.1 1713))) 402 ((s.1 1714))) 403 ((s.1 1715))) 404 ((s.1 1716))) 26 (va_cpy (s.2.1 108) (s.2.1 26) 0 0 5))
set_option maxHeartbeats 4000000 in
theorem xb_2_copyFrom_25_107 {C : mm_C} {Q : mm_R} {pt : Value} {ps : Value} {pg : Value} {pr : Value}  (s : xs_S)  (s2 : xs_S) (hf : xf_2_copyFrom_25_107 s = some s2) (hK : Q (none) (xs_H pt ps pg pr s2)) : mm_go C mm_Mk mm_Fk P_X2_copyFrom Q P_X2_copyFrom [(0, .ref 25), (1, .ref 107)] [] (xs_H pt ps pg pr s) 0 0 := by
  unfold xf_2_copyFrom_25_107 at hf
  obtain rfl := Option.some.inj hf
  exact ⟨29, (And.intro trivial (And.intro trivial (And.intro trivial (And.intro trivial (And.intro trivial (And.intro (by decide) hK))))))⟩
def xk_2_copyFrom_25_107 (C : mm_C) : Prop := ∀ (pt : Value) (ps : Value) (pg : Value) (pr : Value) (s : xs_S)  (s2 : xs_S) (Q : mm_R), xf_2_copyFrom_25_107 s = some s2 → Q (none) (xs_H pt ps pg pr s2) → C 149 [.ref 25, .ref 107] (xs_H pt ps pg pr s) Q
-- 5_takeBack_25
noncomputable def xf_5_takeBack_25 (s : xs_S)  : Option (Int32 × xs_S) :=
(if (s.1 434) = (0 : Int32) then
some ((0 : Int32), s)
else
(if ((((s.1 433) + (40 : Int32)) - (1 : Int32)) - (((s.1 433) + (40 : Int32)) - (1 : Int32)) / (40 : Int32) * (40 : Int32)) = (0 : Int32) then
((xf_2_copyFrom_25_29 (xs_sI (xs_sI s 433 (((((s.1 433) + (40 : Int32)) - (1 : Int32)) - (((s.1 433) + (40 : Int32)) - (1 : Int32)) / (40 : Int32) * (40 : Int32)))) 434 (((s.1 434) - (1 : Int32)))) ).bind fun s_3 =>
some ((1 : Int32), s_3))
else
(if ((((s.1 433) + (40 : Int32)) - (1 : Int32)) - (((s.1 433) + (40 : Int32)) - (1 : Int32)) / (40 : Int32) * (40 : Int32)) = (1 : Int32) then
((xf_2_copyFrom_25_31 (xs_sI (xs_sI s 433 (((((s.1 433) + (40 : Int32)) - (1 : Int32)) - (((s.1 433) + (40 : Int32)) - (1 : Int32)) / (40 : Int32) * (40 : Int32)))) 434 (((s.1 434) - (1 : Int32)))) ).bind fun s_4 =>
some ((1 : Int32), s_4))
else
(if ((((s.1 433) + (40 : Int32)) - (1 : Int32)) - (((s.1 433) + (40 : Int32)) - (1 : Int32)) / (40 : Int32) * (40 : Int32)) = (2 : Int32) then
((xf_2_copyFrom_25_33 (xs_sI (xs_sI s 433 (((((s.1 433) + (40 : Int32)) - (1 : Int32)) - (((s.1 433) + (40 : Int32)) - (1 : Int32)) / (40 : Int32) * (40 : Int32)))) 434 (((s.1 434) - (1 : Int32)))) ).bind fun s_5 =>
some ((1 : Int32), s_5))
else
(if ((((s.1 433) + (40 : Int32)) - (1 : Int32)) - (((s.1 433) + (40 : Int32)) - (1 : Int32)) / (40 : Int32) * (40 : Int32)) = (3 : Int32) then
((xf_2_copyFrom_25_35 (xs_sI (xs_sI s 433 (((((s.1 433) + (40 : Int32)) - (1 : Int32)) - (((s.1 433) + (40 : Int32)) - (1 : Int32)) / (40 : Int32) * (40 : Int32)))) 434 (((s.1 434) - (1 : Int32)))) ).bind fun s_6 =>
some ((1 : Int32), s_6))
else
(if ((((s.1 433) + (40 : Int32)) - (1 : Int32)) - (((s.1 433) + (40 : Int32)) - (1 : Int32)) / (40 : Int32) * (40 : Int32)) = (4 : Int32) then
((xf_2_copyFrom_25_37 (xs_sI (xs_sI s 433 (((((s.1 433) + (40 : Int32)) - (1 : Int32)) - (((s.1 433) + (40 : Int32)) - (1 : Int32)) / (40 : Int32) * (40 : Int32)))) 434 (((s.1 434) - (1 : Int32)))) ).bind fun s_7 =>
some ((1 : Int32), s_7))
else
(if ((((s.1 433) + (40 : Int32)) - (1 : Int32)) - (((s.1 433) + (40 : Int32)) - (1 : Int32)) / (40 : Int32) * (40 : Int32)) = (5 : Int32) then
((xf_2_copyFrom_25_39 (xs_sI (xs_sI s 433 (((((s.1 433) + (40 : Int32)) - (1 : Int32)) - (((s.1 433) + (40 : Int32)) - (1 : Int32)) / (40 : Int32) * (40 : Int32)))) 434 (((s.1 434) - (1 : Int32)))) ).bind fun s_8 =>
some ((1 : Int32), s_8))
else
(if ((((s.1 433) + (40 : Int32)) - (1 : Int32)) - (((s.1 433) + (40 : Int32)) - (1 : Int32)) / (40 : Int32) * (40 : Int32)) = (6 : Int32) then
((xf_2_copyFrom_25_41 (xs_sI (xs_sI s 433 (((((s.1 433) + (40 : Int32)) - (1 : Int32)) - (((s.1 433) + (40 : Int32)) - (1 : Int32)) / (40 : Int32) * (40 : Int32)))) 434 (((s.1 434) - (1 : Int32)))) ).bind fun s_9 =>
some ((1 : Int32), s_9))
else
(if ((((s.1 433) + (40 : Int32)) - (1 : Int32)) - (((s.1 433) + (40 : Int32)) - (1 : Int32)) / (40 : Int32) * (40 : Int32)) = (7 : Int32) then
((xf_2_copyFrom_25_43 (xs_sI (xs_sI s 433 (((((s.1 433) + (40 : Int32)) - (1 : Int32)) - (((s.1 433) + (40 : Int32)) - (1 : Int32)) / (40 : Int32) * (40 : Int32)))) 434 (((s.1 434) - (1 : Int32)))) ).bind fun s_10 =>
some ((1 : Int32), s_10))
else
(if ((((s.1 433) + (40 : Int32)) - (1 : Int32)) - (((s.1 433) + (40 : Int32)) - (1 : Int32)) / (40 : Int32) * (40 : Int32)) = (8 : Int32) then
((xf_2_copyFrom_25_45 (xs_sI (xs_sI s 433 (((((s.1 433) + (40 : Int32)) - (1 : Int32)) - (((s.1 433) + (40 : Int32)) - (1 : Int32)) / (40 : Int32) * (40 : Int32)))) 434 (((s.1 434) - (1 : Int32)))) ).bind fun s_11 =>
some ((1 : Int32), s_11))
else
(if ((((s.1 433) + (40 : Int32)) - (1 : Int32)) - (((s.1 433) + (40 : Int32)) - (1 : Int32)) / (40 : Int32) * (40 : Int32)) = (9 : Int32) then
((xf_2_copyFrom_25_47 (xs_sI (xs_sI s 433 (((((s.1 433) + (40 : Int32)) - (1 : Int32)) - (((s.1 433) + (40 : Int32)) - (1 : Int32)) / (40 : Int32) * (40 : Int32)))) 434 (((s.1 434) - (1 : Int32)))) ).bind fun s_12 =>
some ((1 : Int32), s_12))
else
(if ((((s.1 433) + (40 : Int32)) - (1 : Int32)) - (((s.1 433) + (40 : Int32)) - (1 : Int32)) / (40 : Int32) * (40 : Int32)) = (10 : Int32) then
((xf_2_copyFrom_25_49 (xs_sI (xs_sI s 433 (((((s.1 433) + (40 : Int32)) - (1 : Int32)) - (((s.1 433) + (40 : Int32)) - (1 : Int32)) / (40 : Int32) * (40 : Int32)))) 434 (((s.1 434) - (1 : Int32)))) ).bind fun s_13 =>
some ((1 : Int32), s_13))
else
(if ((((s.1 433) + (40 : Int32)) - (1 : Int32)) - (((s.1 433) + (40 : Int32)) - (1 : Int32)) / (40 : Int32) * (40 : Int32)) = (11 : Int32) then
((xf_2_copyFrom_25_51 (xs_sI (xs_sI s 433 (((((s.1 433) + (40 : Int32)) - (1 : Int32)) - (((s.1 433) + (40 : Int32)) - (1 : Int32)) / (40 : Int32) * (40 : Int32)))) 434 (((s.1 434) - (1 : Int32)))) ).bind fun s_14 =>
some ((1 : Int32), s_14))
else
(if ((((s.1 433) + (40 : Int32)) - (1 : Int32)) - (((s.1 433) + (40 : Int32)) - (1 : Int32)) / (40 : Int32) * (40 : Int32)) = (12 : Int32) then
((xf_2_copyFrom_25_53 (xs_sI (xs_sI s 433 (((((s.1 433) + (40 : Int32)) - (1 : Int32)) - (((s.1 433) + (40 : Int32)) - (1 : Int32)) / (40 : Int32) * (40 : Int32)))) 434 (((s.1 434) - (1 : Int32)))) ).bind fun s_15 =>
some ((1 : Int32), s_15))
else
(if ((((s.1 433) + (40 : Int32)) - (1 : Int32)) - (((s.1 433) + (40 : Int32)) - (1 : Int32)) / (40 : Int32) * (40 : Int32)) = (13 : Int32) then
((xf_2_copyFrom_25_55 (xs_sI (xs_sI s 433 (((((s.1 433) + (40 : Int32)) - (1 : Int32)) - (((s.1 433) + (40 : Int32)) - (1 : Int32)) / (40 : Int32) * (40 : Int32)))) 434 (((s.1 434) - (1 : Int32)))) ).bind fun s_16 =>
some ((1 : Int32), s_16))
else
(if ((((s.1 433) + (40 : Int32)) - (1 : Int32)) - (((s.1 433) + (40 : Int32)) - (1 : Int32)) / (40 : Int32) * (40 : Int32)) = (14 : Int32) then
((xf_2_copyFrom_25_57 (xs_sI (xs_sI s 433 (((((s.1 433) + (40 : Int32)) - (1 : Int32)) - (((s.1 433) + (40 : Int32)) - (1 : Int32)) / (40 : Int32) * (40 : Int32)))) 434 (((s.1 434) - (1 : Int32)))) ).bind fun s_17 =>
some ((1 : Int32), s_17))
else
(if ((((s.1 433) + (40 : Int32)) - (1 : Int32)) - (((s.1 433) + (40 : Int32)) - (1 : Int32)) / (40 : Int32) * (40 : Int32)) = (15 : Int32) then
((xf_2_copyFrom_25_59 (xs_sI (xs_sI s 433 (((((s.1 433) + (40 : Int32)) - (1 : Int32)) - (((s.1 433) + (40 : Int32)) - (1 : Int32)) / (40 : Int32) * (40 : Int32)))) 434 (((s.1 434) - (1 : Int32)))) ).bind fun s_18 =>
some ((1 : Int32), s_18))
else
(if ((((s.1 433) + (40 : Int32)) - (1 : Int32)) - (((s.1 433) + (40 : Int32)) - (1 : Int32)) / (40 : Int32) * (40 : Int32)) = (16 : Int32) then
((xf_2_copyFrom_25_61 (xs_sI (xs_sI s 433 (((((s.1 433) + (40 : Int32)) - (1 : Int32)) - (((s.1 433) + (40 : Int32)) - (1 : Int32)) / (40 : Int32) * (40 : Int32)))) 434 (((s.1 434) - (1 : Int32)))) ).bind fun s_19 =>
some ((1 : Int32), s_19))
else
(if ((((s.1 433) + (40 : Int32)) - (1 : Int32)) - (((s.1 433) + (40 : Int32)) - (1 : Int32)) / (40 : Int32) * (40 : Int32)) = (17 : Int32) then
((xf_2_copyFrom_25_63 (xs_sI (xs_sI s 433 (((((s.1 433) + (40 : Int32)) - (1 : Int32)) - (((s.1 433) + (40 : Int32)) - (1 : Int32)) / (40 : Int32) * (40 : Int32)))) 434 (((s.1 434) - (1 : Int32)))) ).bind fun s_20 =>
some ((1 : Int32), s_20))
else
(if ((((s.1 433) + (40 : Int32)) - (1 : Int32)) - (((s.1 433) + (40 : Int32)) - (1 : Int32)) / (40 : Int32) * (40 : Int32)) = (18 : Int32) then
((xf_2_copyFrom_25_65 (xs_sI (xs_sI s 433 (((((s.1 433) + (40 : Int32)) - (1 : Int32)) - (((s.1 433) + (40 : Int32)) - (1 : Int32)) / (40 : Int32) * (40 : Int32)))) 434 (((s.1 434) - (1 : Int32)))) ).bind fun s_21 =>
some ((1 : Int32), s_21))
else
(if ((((s.1 433) + (40 : Int32)) - (1 : Int32)) - (((s.1 433) + (40 : Int32)) - (1 : Int32)) / (40 : Int32) * (40 : Int32)) = (19 : Int32) then
((xf_2_copyFrom_25_67 (xs_sI (xs_sI s 433 (((((s.1 433) + (40 : Int32)) - (1 : Int32)) - (((s.1 433) + (40 : Int32)) - (1 : Int32)) / (40 : Int32) * (40 : Int32)))) 434 (((s.1 434) - (1 : Int32)))) ).bind fun s_22 =>
some ((1 : Int32), s_22))
else
(if ((((s.1 433) + (40 : Int32)) - (1 : Int32)) - (((s.1 433) + (40 : Int32)) - (1 : Int32)) / (40 : Int32) * (40 : Int32)) = (20 : Int32) then
((xf_2_copyFrom_25_69 (xs_sI (xs_sI s 433 (((((s.1 433) + (40 : Int32)) - (1 : Int32)) - (((s.1 433) + (40 : Int32)) - (1 : Int32)) / (40 : Int32) * (40 : Int32)))) 434 (((s.1 434) - (1 : Int32)))) ).bind fun s_23 =>
some ((1 : Int32), s_23))
else
(if ((((s.1 433) + (40 : Int32)) - (1 : Int32)) - (((s.1 433) + (40 : Int32)) - (1 : Int32)) / (40 : Int32) * (40 : Int32)) = (21 : Int32) then
((xf_2_copyFrom_25_71 (xs_sI (xs_sI s 433 (((((s.1 433) + (40 : Int32)) - (1 : Int32)) - (((s.1 433) + (40 : Int32)) - (1 : Int32)) / (40 : Int32) * (40 : Int32)))) 434 (((s.1 434) - (1 : Int32)))) ).bind fun s_24 =>
some ((1 : Int32), s_24))
else
(if ((((s.1 433) + (40 : Int32)) - (1 : Int32)) - (((s.1 433) + (40 : Int32)) - (1 : Int32)) / (40 : Int32) * (40 : Int32)) = (22 : Int32) then
((xf_2_copyFrom_25_73 (xs_sI (xs_sI s 433 (((((s.1 433) + (40 : Int32)) - (1 : Int32)) - (((s.1 433) + (40 : Int32)) - (1 : Int32)) / (40 : Int32) * (40 : Int32)))) 434 (((s.1 434) - (1 : Int32)))) ).bind fun s_25 =>
some ((1 : Int32), s_25))
else
(if ((((s.1 433) + (40 : Int32)) - (1 : Int32)) - (((s.1 433) + (40 : Int32)) - (1 : Int32)) / (40 : Int32) * (40 : Int32)) = (23 : Int32) then
((xf_2_copyFrom_25_75 (xs_sI (xs_sI s 433 (((((s.1 433) + (40 : Int32)) - (1 : Int32)) - (((s.1 433) + (40 : Int32)) - (1 : Int32)) / (40 : Int32) * (40 : Int32)))) 434 (((s.1 434) - (1 : Int32)))) ).bind fun s_26 =>
some ((1 : Int32), s_26))
else
(if ((((s.1 433) + (40 : Int32)) - (1 : Int32)) - (((s.1 433) + (40 : Int32)) - (1 : Int32)) / (40 : Int32) * (40 : Int32)) = (24 : Int32) then
((xf_2_copyFrom_25_77 (xs_sI (xs_sI s 433 (((((s.1 433) + (40 : Int32)) - (1 : Int32)) - (((s.1 433) + (40 : Int32)) - (1 : Int32)) / (40 : Int32) * (40 : Int32)))) 434 (((s.1 434) - (1 : Int32)))) ).bind fun s_27 =>
some ((1 : Int32), s_27))
else
(if ((((s.1 433) + (40 : Int32)) - (1 : Int32)) - (((s.1 433) + (40 : Int32)) - (1 : Int32)) / (40 : Int32) * (40 : Int32)) = (25 : Int32) then
((xf_2_copyFrom_25_79 (xs_sI (xs_sI s 433 (((((s.1 433) + (40 : Int32)) - (1 : Int32)) - (((s.1 433) + (40 : Int32)) - (1 : Int32)) / (40 : Int32) * (40 : Int32)))) 434 (((s.1 434) - (1 : Int32)))) ).bind fun s_28 =>
some ((1 : Int32), s_28))
else
(if ((((s.1 433) + (40 : Int32)) - (1 : Int32)) - (((s.1 433) + (40 : Int32)) - (1 : Int32)) / (40 : Int32) * (40 : Int32)) = (26 : Int32) then
((xf_2_copyFrom_25_81 (xs_sI (xs_sI s 433 (((((s.1 433) + (40 : Int32)) - (1 : Int32)) - (((s.1 433) + (40 : Int32)) - (1 : Int32)) / (40 : Int32) * (40 : Int32)))) 434 (((s.1 434) - (1 : Int32)))) ).bind fun s_29 =>
some ((1 : Int32), s_29))
else
(if ((((s.1 433) + (40 : Int32)) - (1 : Int32)) - (((s.1 433) + (40 : Int32)) - (1 : Int32)) / (40 : Int32) * (40 : Int32)) = (27 : Int32) then
((xf_2_copyFrom_25_83 (xs_sI (xs_sI s 433 (((((s.1 433) + (40 : Int32)) - (1 : Int32)) - (((s.1 433) + (40 : Int32)) - (1 : Int32)) / (40 : Int32) * (40 : Int32)))) 434 (((s.1 434) - (1 : Int32)))) ).bind fun s_30 =>
some ((1 : Int32), s_30))
else
(if ((((s.1 433) + (40 : Int32)) - (1 : Int32)) - (((s.1 433) + (40 : Int32)) - (1 : Int32)) / (40 : Int32) * (40 : Int32)) = (28 : Int32) then
((xf_2_copyFrom_25_85 (xs_sI (xs_sI s 433 (((((s.1 433) + (40 : Int32)) - (1 : Int32)) - (((s.1 433) + (40 : Int32)) - (1 : Int32)) / (40 : Int32) * (40 : Int32)))) 434 (((s.1 434) - (1 : Int32)))) ).bind fun s_31 =>
some ((1 : Int32), s_31))
else
(if ((((s.1 433) + (40 : Int32)) - (1 : Int32)) - (((s.1 433) + (40 : Int32)) - (1 : Int32)) / (40 : Int32) * (40 : Int32)) = (29 : Int32) then
((xf_2_copyFrom_25_87 (xs_sI (xs_sI s 433 (((((s.1 433) + (40 : Int32)) - (1 : Int32)) - (((s.1 433) + (40 : Int32)) - (1 : Int32)) / (40 : Int32) * (40 : Int32)))) 434 (((s.1 434) - (1 : Int32)))) ).bind fun s_32 =>
some ((1 : Int32), s_32))
else
(if ((((s.1 433) + (40 : Int32)) - (1 : Int32)) - (((s.1 433) + (40 : Int32)) - (1 : Int32)) / (40 : Int32) * (40 : Int32)) = (30 : Int32) then
((xf_2_copyFrom_25_89 (xs_sI (xs_sI s 433 (((((s.1 433) + (40 : Int32)) - (1 : Int32)) - (((s.1 433) + (40 : Int32)) - (1 : Int32)) / (40 : Int32) * (40 : Int32)))) 434 (((s.1 434) - (1 : Int32)))) ).bind fun s_33 =>
some ((1 : Int32), s_33))
else
(if ((((s.1 433) + (40 : Int32)) - (1 : Int32)) - (((s.1 433) + (40 : Int32)) - (1 : Int32)) / (40 : Int32) * (40 : Int32)) = (31 : Int32) then
((xf_2_copyFrom_25_91 (xs_sI (xs_sI s 433 (((((s.1 433) + (40 : Int32)) - (1 : Int32)) - (((s.1 433) + (40 : Int32)) - (1 : Int32)) / (40 : Int32) * (40 : Int32)))) 434 (((s.1 434) - (1 : Int32)))) ).bind fun s_34 =>
some ((1 : Int32), s_34))
else
(if ((((s.1 433) + (40 : Int32)) - (1 : Int32)) - (((s.1 433) + (40 : Int32)) - (1 : Int32)) / (40 : Int32) * (40 : Int32)) = (32 : Int32) then
((xf_2_copyFrom_25_93 (xs_sI (xs_sI s 433 (((((s.1 433) + (40 : Int32)) - (1 : Int32)) - (((s.1 433) + (40 : Int32)) - (1 : Int32)) / (40 : Int32) * (40 : Int32)))) 434 (((s.1 434) - (1 : Int32)))) ).bind fun s_35 =>
some ((1 : Int32), s_35))
else
(if ((((s.1 433) + (40 : Int32)) - (1 : Int32)) - (((s.1 433) + (40 : Int32)) - (1 : Int32)) / (40 : Int32) * (40 : Int32)) = (33 : Int32) then
((xf_2_copyFrom_25_95 (xs_sI (xs_sI s 433 (((((s.1 433) + (40 : Int32)) - (1 : Int32)) - (((s.1 433) + (40 : Int32)) - (1 : Int32)) / (40 : Int32) * (40 : Int32)))) 434 (((s.1 434) - (1 : Int32)))) ).bind fun s_36 =>
some ((1 : Int32), s_36))
else
(if ((((s.1 433) + (40 : Int32)) - (1 : Int32)) - (((s.1 433) + (40 : Int32)) - (1 : Int32)) / (40 : Int32) * (40 : Int32)) = (34 : Int32) then
((xf_2_copyFrom_25_97 (xs_sI (xs_sI s 433 (((((s.1 433) + (40 : Int32)) - (1 : Int32)) - (((s.1 433) + (40 : Int32)) - (1 : Int32)) / (40 : Int32) * (40 : Int32)))) 434 (((s.1 434) - (1 : Int32)))) ).bind fun s_37 =>
some ((1 : Int32), s_37))
else
(if ((((s.1 433) + (40 : Int32)) - (1 : Int32)) - (((s.1 433) + (40 : Int32)) - (1 : Int32)) / (40 : Int32) * (40 : Int32)) = (35 : Int32) then
((xf_2_copyFrom_25_99 (xs_sI (xs_sI s 433 (((((s.1 433) + (40 : Int32)) - (1 : Int32)) - (((s.1 433) + (40 : Int32)) - (1 : Int32)) / (40 : Int32) * (40 : Int32)))) 434 (((s.1 434) - (1 : Int32)))) ).bind fun s_38 =>
some ((1 : Int32), s_38))
else
(if ((((s.1 433) + (40 : Int32)) - (1 : Int32)) - (((s.1 433) + (40 : Int32)) - (1 : Int32)) / (40 : Int32) * (40 : Int32)) = (36 : Int32) then
((xf_2_copyFrom_25_101 (xs_sI (xs_sI s 433 (((((s.1 433) + (40 : Int32)) - (1 : Int32)) - (((s.1 433) + (40 : Int32)) - (1 : Int32)) / (40 : Int32) * (40 : Int32)))) 434 (((s.1 434) - (1 : Int32)))) ).bind fun s_39 =>
some ((1 : Int32), s_39))
else
(if ((((s.1 433) + (40 : Int32)) - (1 : Int32)) - (((s.1 433) + (40 : Int32)) - (1 : Int32)) / (40 : Int32) * (40 : Int32)) = (37 : Int32) then
((xf_2_copyFrom_25_103 (xs_sI (xs_sI s 433 (((((s.1 433) + (40 : Int32)) - (1 : Int32)) - (((s.1 433) + (40 : Int32)) - (1 : Int32)) / (40 : Int32) * (40 : Int32)))) 434 (((s.1 434) - (1 : Int32)))) ).bind fun s_40 =>
some ((1 : Int32), s_40))
else
(if ((((s.1 433) + (40 : Int32)) - (1 : Int32)) - (((s.1 433) + (40 : Int32)) - (1 : Int32)) / (40 : Int32) * (40 : Int32)) = (38 : Int32) then
((xf_2_copyFrom_25_105 (xs_sI (xs_sI s 433 (((((s.1 433) + (40 : Int32)) - (1 : Int32)) - (((s.1 433) + (40 : Int32)) - (1 : Int32)) / (40 : Int32) * (40 : Int32)))) 434 (((s.1 434) - (1 : Int32)))) ).bind fun s_41 =>
some ((1 : Int32), s_41))
else
(if ((((s.1 433) + (40 : Int32)) - (1 : Int32)) - (((s.1 433) + (40 : Int32)) - (1 : Int32)) / (40 : Int32) * (40 : Int32)) = (39 : Int32) then
((xf_2_copyFrom_25_107 (xs_sI (xs_sI s 433 (((((s.1 433) + (40 : Int32)) - (1 : Int32)) - (((s.1 433) + (40 : Int32)) - (1 : Int32)) / (40 : Int32) * (40 : Int32)))) 434 (((s.1 434) - (1 : Int32)))) ).bind fun s_42 =>
some ((1 : Int32), s_42))
else
none)))))))))))))))))))))))))))))))))))))))))
set_option maxHeartbeats 4000000 in
theorem xb_5_takeBack_25 {C : mm_C} {Q : mm_R} {pt : Value} {ps : Value} {pg : Value} {pr : Value} (h_2_copyFrom_25_29 : xk_2_copyFrom_25_29 C) (h_2_copyFrom_25_31 : xk_2_copyFrom_25_31 C) (h_2_copyFrom_25_33 : xk_2_copyFrom_25_33 C) (h_2_copyFrom_25_35 : xk_2_copyFrom_25_35 C) (h_2_copyFrom_25_37 : xk_2_copyFrom_25_37 C) (h_2_copyFrom_25_39 : xk_2_copyFrom_25_39 C) (h_2_copyFrom_25_41 : xk_2_copyFrom_25_41 C) (h_2_copyFrom_25_43 : xk_2_copyFrom_25_43 C) (h_2_copyFrom_25_45 : xk_2_copyFrom_25_45 C) (h_2_copyFrom_25_47 : xk_2_copyFrom_25_47 C) (h_2_copyFrom_25_49 : xk_2_copyFrom_25_49 C) (h_2_copyFrom_25_51 : xk_2_copyFrom_25_51 C) (h_2_copyFrom_25_53 : xk_2_copyFrom_25_53 C) (h_2_copyFrom_25_55 : xk_2_copyFrom_25_55 C) (h_2_copyFrom_25_57 : xk_2_copyFrom_25_57 C) (h_2_copyFrom_25_59 : xk_2_copyFrom_25_59 C) (h_2_copyFrom_25_61 : xk_2_copyFrom_25_61 C) (h_2_copyFrom_25_63 : xk_2_copyFrom_25_63 C) (h_2_copyFrom_25_65 : xk_2_copyFrom_25_65 C) (h_2_copyFrom_25_67 : xk_2_copyFrom_25_67 C) (h_2_copyFrom_25_69 : xk_2_copyFrom_25_69 C) (h_2_copyFrom_25_71 : xk_2_copyFrom_25_71 C) (h_2_copyFrom_25_73 : xk_2_copyFrom_25_73 C) (h_2_copyFrom_25_75 : xk_2_copyFrom_25_75 C) (h_2_copyFrom_25_77 : xk_2_copyFrom_25_77 C) (h_2_copyFrom_25_79 : xk_2_copyFrom_25_79 C) (h_2_copyFrom_25_81 : xk_2_copyFrom_25_81 C) (h_2_copyFrom_25_83 : xk_2_copyFrom_25_83 C) (h_2_copyFrom_25_85 : xk_2_copyFrom_25_85 C) (h_2_copyFrom_25_87 : xk_2_copyFrom_25_87 C) (h_2_copyFrom_25_89 : xk_2_copyFrom_25_89 C) (h_2_copyFrom_25_91 : xk_2_copyFrom_25_91 C) (h_2_copyFrom_25_93 : xk_2_copyFrom_25_93 C) (h_2_copyFrom_25_95 : xk_2_copyFrom_25_95 C) (h_2_copyFrom_25_97 : xk_2_copyFrom_25_97 C) (h_2_copyFrom_25_99 : xk_2_copyFrom_25_99 C) (h_2_copyFrom_25_101 : xk_2_copyFrom_25_101 C) (h_2_copyFrom_25_103 : xk_2_copyFrom_25_103 C) (h_2_copyFrom_25_105 : xk_2_copyFrom_25_105 C) (h_2_copyFrom_25_107 : xk_2_copyFrom_25_107 C) (s : xs_S)  (v : Int32) (s2 : xs_S) (hf : xf_5_takeBack_25 s = some (v, s2)) (hK : Q (some (.int v)) (xs_H pt ps pg pr s2)) : mm_go C mm_Mk mm_Fk P_X5_takeBack Q P_X5_takeBack [(0, .ref 27), (1, .ref 25)] [] (xs_H pt ps pg pr s) 0 0 := by
  unfold xf_5_takeBack_25 at hf
  by_cases c_1 : (s.1 434) = (0 : Int32)
  · have hf := mo_pos hf c_1
    obtain ⟨rfl, rfl⟩ := mo_pair hf
    exact ⟨5, (And.intro (fun q => absurd c_1 q) (fun _ => (And.intro rfl hK)))⟩
  · have hf := mo_neg hf c_1
    refine mm_adv 24 (cs' := P_X5_takeBack.drop 26) (l' := [(0, .ref 27), (1, .ref 25)]) (st' := [.int ((((s.1 433) + (40 : Int32)) - (1 : Int32)) - (((s.1 433) + (40 : Int32)) - (1 : Int32)) / (40 : Int32) * (40 : Int32)), .ref 28, .ref 25]) (h' := (xs_H pt ps pg pr (xs_sI (xs_sI s 433 (((((s.1 433) + (40 : Int32)) - (1 : Int32)) - (((s.1 433) + (40 : Int32)) - (1 : Int32)) / (40 : Int32) * (40 : Int32)))) 434 (((s.1 434) - (1 : Int32)))))) (bc' := 0) (bs' := 0) (fun n g => (And.intro (fun _ => (And.intro (by decide) (And.intro trivial (And.intro trivial g)))) (fun q => absurd c_1 q))) ?_
    by_cases c_2_0 : ((((s.1 433) + (40 : Int32)) - (1 : Int32)) - (((s.1 433) + (40 : Int32)) - (1 : Int32)) / (40 : Int32) * (40 : Int32)) = (0 : Int32)
    · have hf := mo_pos hf c_2_0
      refine mm_ga (cs' := P_X5_takeBack.drop 27) (b := 29) rfl rfl rfl rfl (by rw [c_2_0]; exact mm_vi rfl) (by rw [c_2_0]; rfl) ?_
      obtain ⟨s_3, hr_3, hf⟩ := mo_bind hf
      obtain ⟨rfl, rfl⟩ := mo_pair hf
      exact ⟨3, (h_2_copyFrom_25_29 pt ps pg pr (xs_sI (xs_sI s 433 (((((s.1 433) + (40 : Int32)) - (1 : Int32)) - (((s.1 433) + (40 : Int32)) - (1 : Int32)) / (40 : Int32) * (40 : Int32)))) 434 (((s.1 434) - (1 : Int32))))  s_3 _ hr_3 (And.intro rfl hK))⟩
    replace hf := mo_neg hf c_2_0
    by_cases c_2_1 : ((((s.1 433) + (40 : Int32)) - (1 : Int32)) - (((s.1 433) + (40 : Int32)) - (1 : Int32)) / (40 : Int32) * (40 : Int32)) = (1 : Int32)
    · have hf := mo_pos hf c_2_1
      refine mm_ga (cs' := P_X5_takeBack.drop 27) (b := 31) rfl rfl rfl rfl (by rw [c_2_1]; exact mm_vi rfl) (by rw [c_2_1]; rfl) ?_
      obtain ⟨s_4, hr_4, hf⟩ := mo_bind hf
      obtain ⟨rfl, rfl⟩ := mo_pair hf
      exact ⟨3, (h_2_copyFrom_25_31 pt ps pg pr (xs_sI (xs_sI s 433 (((((s.1 433) + (40 : Int32)) - (1 : Int32)) - (((s.1 433) + (40 : Int32)) - (1 : Int32)) / (40 : Int32) * (40 : Int32)))) 434 (((s.1 434) - (1 : Int32))))  s_4 _ hr_4 (And.intro rfl hK))⟩
    replace hf := mo_neg hf c_2_1
    by_cases c_2_2 : ((((s.1 433) + (40 : Int32)) - (1 : Int32)) - (((s.1 433) + (40 : Int32)) - (1 : Int32)) / (40 : Int32) * (40 : Int32)) = (2 : Int32)
    · have hf := mo_pos hf c_2_2
      refine mm_ga (cs' := P_X5_takeBack.drop 27) (b := 33) rfl rfl rfl rfl (by rw [c_2_2]; exact mm_vi rfl) (by rw [c_2_2]; rfl) ?_
      obtain ⟨s_5, hr_5, hf⟩ := mo_bind hf
      obtain ⟨rfl, rfl⟩ := mo_pair hf
      exact ⟨3, (h_2_copyFrom_25_33 pt ps pg pr (xs_sI (xs_sI s 433 (((((s.1 433) + (40 : Int32)) - (1 : Int32)) - (((s.1 433) + (40 : Int32)) - (1 : Int32)) / (40 : Int32) * (40 : Int32)))) 434 (((s.1 434) - (1 : Int32))))  s_5 _ hr_5 (And.intro rfl hK))⟩
    replace hf := mo_neg hf c_2_2
    by_cases c_2_3 : ((((s.1 433) + (40 : Int32)) - (1 : Int32)) - (((s.1 433) + (40 : Int32)) - (1 : Int32)) / (40 : Int32) * (40 : Int32)) = (3 : Int32)
    · have hf := mo_pos hf c_2_3
      refine mm_ga (cs' := P_X5_takeBack.drop 27) (b := 35) rfl rfl rfl rfl (by rw [c_2_3]; exact mm_vi rfl) (by rw [c_2_3]; rfl) ?_
      obtain ⟨s_6, hr_6, hf⟩ := mo_bind hf
      obtain ⟨rfl, rfl⟩ := mo_pair hf
      exact ⟨3, (h_2_copyFrom_25_35 pt ps pg pr (xs_sI (xs_sI s 433 (((((s.1 433) + (40 : Int32)) - (1 : Int32)) - (((s.1 433) + (40 : Int32)) - (1 : Int32)) / (40 : Int32) * (40 : Int32)))) 434 (((s.1 434) - (1 : Int32))))  s_6 _ hr_6 (And.intro rfl hK))⟩
    replace hf := mo_neg hf c_2_3
    by_cases c_2_4 : ((((s.1 433) + (40 : Int32)) - (1 : Int32)) - (((s.1 433) + (40 : Int32)) - (1 : Int32)) / (40 : Int32) * (40 : Int32)) = (4 : Int32)
    · have hf := mo_pos hf c_2_4
      refine mm_ga (cs' := P_X5_takeBack.drop 27) (b := 37) rfl rfl rfl rfl (by rw [c_2_4]; exact mm_vi rfl) (by rw [c_2_4]; rfl) ?_
      obtain ⟨s_7, hr_7, hf⟩ := mo_bind hf
      obtain ⟨rfl, rfl⟩ := mo_pair hf
      exact ⟨3, (h_2_copyFrom_25_37 pt ps pg pr (xs_sI (xs_sI s 433 (((((s.1 433) + (40 : Int32)) - (1 : Int32)) - (((s.1 433) + (40 : Int32)) - (1 : Int32)) / (40 : Int32) * (40 : Int32)))) 434 (((s.1 434) - (1 : Int32))))  s_7 _ hr_7 (And.intro rfl hK))⟩
    replace hf := mo_neg hf c_2_4
    by_cases c_2_5 : ((((s.1 433) + (40 : Int32)) - (1 : Int32)) - (((s.1 433) + (40 : Int32)) - (1 : Int32)) / (40 : Int32) * (40 : Int32)) = (5 : Int32)
    · have hf := mo_pos hf c_2_5
      refine mm_ga (cs' := P_X5_takeBack.drop 27) (b := 39) rfl rfl rfl rfl (by rw [c_2_5]; exact mm_vi rfl) (by rw [c_2_5]; rfl) ?_
      obtain ⟨s_8, hr_8, hf⟩ := mo_bind hf
      obtain ⟨rfl, rfl⟩ := mo_pair hf
      exact ⟨3, (h_2_copyFrom_25_39 pt ps pg pr (xs_sI (xs_sI s 433 (((((s.1 433) + (40 : Int32)) - (1 : Int32)) - (((s.1 433) + (40 : Int32)) - (1 : Int32)) / (40 : Int32) * (40 : Int32)))) 434 (((s.1 434) - (1 : Int32))))  s_8 _ hr_8 (And.intro rfl hK))⟩
    replace hf := mo_neg hf c_2_5
    by_cases c_2_6 : ((((s.1 433) + (40 : Int32)) - (1 : Int32)) - (((s.1 433) + (40 : Int32)) - (1 : Int32)) / (40 : Int32) * (40 : Int32)) = (6 : Int32)
    · have hf := mo_pos hf c_2_6
      refine mm_ga (cs' := P_X5_takeBack.drop 27) (b := 41) rfl rfl rfl rfl (by rw [c_2_6]; exact mm_vi rfl) (by rw [c_2_6]; rfl) ?_
      obtain ⟨s_9, hr_9, hf⟩ := mo_bind hf
      obtain ⟨rfl, rfl⟩ := mo_pair hf
      exact ⟨3, (h_2_copyFrom_25_41 pt ps pg pr (xs_sI (xs_sI s 433 (((((s.1 433) + (40 : Int32)) - (1 : Int32)) - (((s.1 433) + (40 : Int32)) - (1 : Int32)) / (40 : Int32) * (40 : Int32)))) 434 (((s.1 434) - (1 : Int32))))  s_9 _ hr_9 (And.intro rfl hK))⟩
    replace hf := mo_neg hf c_2_6
    by_cases c_2_7 : ((((s.1 433) + (40 : Int32)) - (1 : Int32)) - (((s.1 433) + (40 : Int32)) - (1 : Int32)) / (40 : Int32) * (40 : Int32)) = (7 : Int32)
    · have hf := mo_pos hf c_2_7
      refine mm_ga (cs' := P_X5_takeBack.drop 27) (b := 43) rfl rfl rfl rfl (by rw [c_2_7]; exact mm_vi rfl) (by rw [c_2_7]; rfl) ?_
      obtain ⟨s_10, hr_10, hf⟩ := mo_bind hf
      obtain ⟨rfl, rfl⟩ := mo_pair hf
      exact ⟨3, (h_2_copyFrom_25_43 pt ps pg pr (xs_sI (xs_sI s 433 (((((s.1 433) + (40 : Int32)) - (1 : Int32)) - (((s.1 433) + (40 : Int32)) - (1 : Int32)) / (40 : Int32) * (40 : Int32)))) 434 (((s.1 434) - (1 : Int32))))  s_10 _ hr_10 (And.intro rfl hK))⟩
    replace hf := mo_neg hf c_2_7
    by_cases c_2_8 : ((((s.1 433) + (40 : Int32)) - (1 : Int32)) - (((s.1 433) + (40 : Int32)) - (1 : Int32)) / (40 : Int32) * (40 : Int32)) = (8 : Int32)
    · have hf := mo_pos hf c_2_8
      refine mm_ga (cs' := P_X5_takeBack.drop 27) (b := 45) rfl rfl rfl rfl (by rw [c_2_8]; exact mm_vi rfl) (by rw [c_2_8]; rfl) ?_
      obtain ⟨s_11, hr_11, hf⟩ := mo_bind hf
      obtain ⟨rfl, rfl⟩ := mo_pair hf
      exact ⟨3, (h_2_copyFrom_25_45 pt ps pg pr (xs_sI (xs_sI s 433 (((((s.1 433) + (40 : Int32)) - (1 : Int32)) - (((s.1 433) + (40 : Int32)) - (1 : Int32)) / (40 : Int32) * (40 : Int32)))) 434 (((s.1 434) - (1 : Int32))))  s_11 _ hr_11 (And.intro rfl hK))⟩
    replace hf := mo_neg hf c_2_8
    by_cases c_2_9 : ((((s.1 433) + (40 : Int32)) - (1 : Int32)) - (((s.1 433) + (40 : Int32)) - (1 : Int32)) / (40 : Int32) * (40 : Int32)) = (9 : Int32)
    · have hf := mo_pos hf c_2_9
      refine mm_ga (cs' := P_X5_takeBack.drop 27) (b := 47) rfl rfl rfl rfl (by rw [c_2_9]; exact mm_vi rfl) (by rw [c_2_9]; rfl) ?_
      obtain ⟨s_12, hr_12, hf⟩ := mo_bind hf
      obtain ⟨rfl, rfl⟩ := mo_pair hf
      exact ⟨3, (h_2_copyFrom_25_47 pt ps pg pr (xs_sI (xs_sI s 433 (((((s.1 433) + (40 : Int32)) - (1 : Int32)) - (((s.1 433) + (40 : Int32)) - (1 : Int32)) / (40 : Int32) * (40 : Int32)))) 434 (((s.1 434) - (1 : Int32))))  s_12 _ hr_12 (And.intro rfl hK))⟩
    replace hf := mo_neg hf c_2_9
    by_cases c_2_10 : ((((s.1 433) + (40 : Int32)) - (1 : Int32)) - (((s.1 433) + (40 : Int32)) - (1 : Int32)) / (40 : Int32) * (40 : Int32)) = (10 : Int32)
    · have hf := mo_pos hf c_2_10
      refine mm_ga (cs' := P_X5_takeBack.drop 27) (b := 49) rfl rfl rfl rfl (by rw [c_2_10]; exact mm_vi rfl) (by rw [c_2_10]; rfl) ?_
      obtain ⟨s_13, hr_13, hf⟩ := mo_bind hf
      obtain ⟨rfl, rfl⟩ := mo_pair hf
      exact ⟨3, (h_2_copyFrom_25_49 pt ps pg pr (xs_sI (xs_sI s 433 (((((s.1 433) + (40 : Int32)) - (1 : Int32)) - (((s.1 433) + (40 : Int32)) - (1 : Int32)) / (40 : Int32) * (40 : Int32)))) 434 (((s.1 434) - (1 : Int32))))  s_13 _ hr_13 (And.intro rfl hK))⟩
    replace hf := mo_neg hf c_2_10
    by_cases c_2_11 : ((((s.1 433) + (40 : Int32)) - (1 : Int32)) - (((s.1 433) + (40 : Int32)) - (1 : Int32)) / (40 : Int32) * (40 : Int32)) = (11 : Int32)
    · have hf := mo_pos hf c_2_11
      refine mm_ga (cs' := P_X5_takeBack.drop 27) (b := 51) rfl rfl rfl rfl (by rw [c_2_11]; exact mm_vi rfl) (by rw [c_2_11]; rfl) ?_
      obtain ⟨s_14, hr_14, hf⟩ := mo_bind hf
      obtain ⟨rfl, rfl⟩ := mo_pair hf
      exact ⟨3, (h_2_copyFrom_25_51 pt ps pg pr (xs_sI (xs_sI s 433 (((((s.1 433) + (40 : Int32)) - (1 : Int32)) - (((s.1 433) + (40 : Int32)) - (1 : Int32)) / (40 : Int32) * (40 : Int32)))) 434 (((s.1 434) - (1 : Int32))))  s_14 _ hr_14 (And.intro rfl hK))⟩
    replace hf := mo_neg hf c_2_11
    by_cases c_2_12 : ((((s.1 433) + (40 : Int32)) - (1 : Int32)) - (((s.1 433) + (40 : Int32)) - (1 : Int32)) / (40 : Int32) * (40 : Int32)) = (12 : Int32)
    · have hf := mo_pos hf c_2_12
      refine mm_ga (cs' := P_X5_takeBack.drop 27) (b := 53) rfl rfl rfl rfl (by rw [c_2_12]; exact mm_vi rfl) (by rw [c_2_12]; rfl) ?_
      obtain ⟨s_15, hr_15, hf⟩ := mo_bind hf
      obtain ⟨rfl, rfl⟩ := mo_pair hf
      exact ⟨3, (h_2_copyFrom_25_53 pt ps pg pr (xs_sI (xs_sI s 433 (((((s.1 433) + (40 : Int32)) - (1 : Int32)) - (((s.1 433) + (40 : Int32)) - (1 : Int32)) / (40 : Int32) * (40 : Int32)))) 434 (((s.1 434) - (1 : Int32))))  s_15 _ hr_15 (And.intro rfl hK))⟩
    replace hf := mo_neg hf c_2_12
    by_cases c_2_13 : ((((s.1 433) + (40 : Int32)) - (1 : Int32)) - (((s.1 433) + (40 : Int32)) - (1 : Int32)) / (40 : Int32) * (40 : Int32)) = (13 : Int32)
    · have hf := mo_pos hf c_2_13
      refine mm_ga (cs' := P_X5_takeBack.drop 27) (b := 55) rfl rfl rfl rfl (by rw [c_2_13]; exact mm_vi rfl) (by rw [c_2_13]; rfl) ?_
      obtain ⟨s_16, hr_16, hf⟩ := mo_bind hf
      obtain ⟨rfl, rfl⟩ := mo_pair hf
      exact ⟨3, (h_2_copyFrom_25_55 pt ps pg pr (xs_sI (xs_sI s 433 (((((s.1 433) + (40 : Int32)) - (1 : Int32)) - (((s.1 433) + (40 : Int32)) - (1 : Int32)) / (40 : Int32) * (40 : Int32)))) 434 (((s.1 434) - (1 : Int32))))  s_16 _ hr_16 (And.intro rfl hK))⟩
    replace hf := mo_neg hf c_2_13
    by_cases c_2_14 : ((((s.1 433) + (40 : Int32)) - (1 : Int32)) - (((s.1 433) + (40 : Int32)) - (1 : Int32)) / (40 : Int32) * (40 : Int32)) = (14 : Int32)
    · have hf := mo_pos hf c_2_14
      refine mm_ga (cs' := P_X5_takeBack.drop 27) (b := 57) rfl rfl rfl rfl (by rw [c_2_14]; exact mm_vi rfl) (by rw [c_2_14]; rfl) ?_
      obtain ⟨s_17, hr_17, hf⟩ := mo_bind hf
      obtain ⟨rfl, rfl⟩ := mo_pair hf
      exact ⟨3, (h_2_copyFrom_25_57 pt ps pg pr (xs_sI (xs_sI s 433 (((((s.1 433) + (40 : Int32)) - (1 : Int32)) - (((s.1 433) + (40 : Int32)) - (1 : Int32)) / (40 : Int32) * (40 : Int32)))) 434 (((s.1 434) - (1 : Int32))))  s_17 _ hr_17 (And.intro rfl hK))⟩
    replace hf := mo_neg hf c_2_14
    by_cases c_2_15 : ((((s.1 433) + (40 : Int32)) - (1 : Int32)) - (((s.1 433) + (40 : Int32)) - (1 : Int32)) / (40 : Int32) * (40 : Int32)) = (15 : Int32)
    · have hf := mo_pos hf c_2_15
      refine mm_ga (cs' := P_X5_takeBack.drop 27) (b := 59) rfl rfl rfl rfl (by rw [c_2_15]; exact mm_vi rfl) (by rw [c_2_15]; rfl) ?_
      obtain ⟨s_18, hr_18, hf⟩ := mo_bind hf
      obtain ⟨rfl, rfl⟩ := mo_pair hf
      exact ⟨3, (h_2_copyFrom_25_59 pt ps pg pr (xs_sI (xs_sI s 433 (((((s.1 433) + (40 : Int32)) - (1 : Int32)) - (((s.1 433) + (40 : Int32)) - (1 : Int32)) / (40 : Int32) * (40 : Int32)))) 434 (((s.1 434) - (1 : Int32))))  s_18 _ hr_18 (And.intro rfl hK))⟩
    replace hf := mo_neg hf c_2_15
    by_cases c_2_16 : ((((s.1 433) + (40 : Int32)) - (1 : Int32)) - (((s.1 433) + (40 : Int32)) - (1 : Int32)) / (40 : Int32) * (40 : Int32)) = (16 : Int32)
    · have hf := mo_pos hf c_2_16
      refine mm_ga (cs' := P_X5_takeBack.drop 27) (b := 61) rfl rfl rfl rfl (by rw [c_2_16]; exact mm_vi rfl) (by rw [c_2_16]; rfl) ?_
      obtain ⟨s_19, hr_19, hf⟩ := mo_bind hf
      obtain ⟨rfl, rfl⟩ := mo_pair hf
      exact ⟨3, (h_2_copyFrom_25_61 pt ps pg pr (xs_sI (xs_sI s 433 (((((s.1 433) + (40 : Int32)) - (1 : Int32)) - (((s.1 433) + (40 : Int32)) - (1 : Int32)) / (40 : Int32) * (40 : Int32)))) 434 (((s.1 434) - (1 : Int32))))  s_19 _ hr_19 (And.intro rfl hK))⟩
    replace hf := mo_neg hf c_2_16
    by_cases c_2_17 : ((((s.1 433) + (40 : Int32)) - (1 : Int32)) - (((s.1 433) + (40 : Int32)) - (1 : Int32)) / (40 : Int32) * (40 : Int32)) = (17 : Int32)
    · have hf := mo_pos hf c_2_17
      refine mm_ga (cs' := P_X5_takeBack.drop 27) (b := 63) rfl rfl rfl rfl (by rw [c_2_17]; exact mm_vi rfl) (by rw [c_2_17]; rfl) ?_
      obtain ⟨s_20, hr_20, hf⟩ := mo_bind hf
      obtain ⟨rfl, rfl⟩ := mo_pair hf
      exact ⟨3, (h_2_copyFrom_25_63 pt ps pg pr (xs_sI (xs_sI s 433 (((((s.1 433) + (40 : Int32)) - (1 : Int32)) - (((s.1 433) + (40 : Int32)) - (1 : Int32)) / (40 : Int32) * (40 : Int32)))) 434 (((s.1 434) - (1 : Int32))))  s_20 _ hr_20 (And.intro rfl hK))⟩
    replace hf := mo_neg hf c_2_17
    by_cases c_2_18 : ((((s.1 433) + (40 : Int32)) - (1 : Int32)) - (((s.1 433) + (40 : Int32)) - (1 : Int32)) / (40 : Int32) * (40 : Int32)) = (18 : Int32)
    · have hf := mo_pos hf c_2_18
      refine mm_ga (cs' := P_X5_takeBack.drop 27) (b := 65) rfl rfl rfl rfl (by rw [c_2_18]; exact mm_vi rfl) (by rw [c_2_18]; rfl) ?_
      obtain ⟨s_21, hr_21, hf⟩ := mo_bind hf
      obtain ⟨rfl, rfl⟩ := mo_pair hf
      exact ⟨3, (h_2_copyFrom_25_65 pt ps pg pr (xs_sI (xs_sI s 433 (((((s.1 433) + (40 : Int32)) - (1 : Int32)) - (((s.1 433) + (40 : Int32)) - (1 : Int32)) / (40 : Int32) * (40 : Int32)))) 434 (((s.1 434) - (1 : Int32))))  s_21 _ hr_21 (And.intro rfl hK))⟩
    replace hf := mo_neg hf c_2_18
    by_cases c_2_19 : ((((s.1 433) + (40 : Int32)) - (1 : Int32)) - (((s.1 433) + (40 : Int32)) - (1 : Int32)) / (40 : Int32) * (40 : Int32)) = (19 : Int32)
    · have hf := mo_pos hf c_2_19
      refine mm_ga (cs' := P_X5_takeBack.drop 27) (b := 67) rfl rfl rfl rfl (by rw [c_2_19]; exact mm_vi rfl) (by rw [c_2_19]; rfl) ?_
      obtain ⟨s_22, hr_22, hf⟩ := mo_bind hf
      obtain ⟨rfl, rfl⟩ := mo_pair hf
      exact ⟨3, (h_2_copyFrom_25_67 pt ps pg pr (xs_sI (xs_sI s 433 (((((s.1 433) + (40 : Int32)) - (1 : Int32)) - (((s.1 433) + (40 : Int32)) - (1 : Int32)) / (40 : Int32) * (40 : Int32)))) 434 (((s.1 434) - (1 : Int32))))  s_22 _ hr_22 (And.intro rfl hK))⟩
    replace hf := mo_neg hf c_2_19
    by_cases c_2_20 : ((((s.1 433) + (40 : Int32)) - (1 : Int32)) - (((s.1 433) + (40 : Int32)) - (1 : Int32)) / (40 : Int32) * (40 : Int32)) = (20 : Int32)
    · have hf := mo_pos hf c_2_20
      refine mm_ga (cs' := P_X5_takeBack.drop 27) (b := 69) rfl rfl rfl rfl (by rw [c_2_20]; exact mm_vi rfl) (by rw [c_2_20]; rfl) ?_
      obtain ⟨s_23, hr_23, hf⟩ := mo_bind hf
      obtain ⟨rfl, rfl⟩ := mo_pair hf
      exact ⟨3, (h_2_copyFrom_25_69 pt ps pg pr (xs_sI (xs_sI s 433 (((((s.1 433) + (40 : Int32)) - (1 : Int32)) - (((s.1 433) + (40 : Int32)) - (1 : Int32)) / (40 : Int32) * (40 : Int32)))) 434 (((s.1 434) - (1 : Int32))))  s_23 _ hr_23 (And.intro rfl hK))⟩
    replace hf := mo_neg hf c_2_20
    by_cases c_2_21 : ((((s.1 433) + (40 : Int32)) - (1 : Int32)) - (((s.1 433) + (40 : Int32)) - (1 : Int32)) / (40 : Int32) * (40 : Int32)) = (21 : Int32)
    · have hf := mo_pos hf c_2_21
      refine mm_ga (cs' := P_X5_takeBack.drop 27) (b := 71) rfl rfl rfl rfl (by rw [c_2_21]; exact mm_vi rfl) (by rw [c_2_21]; rfl) ?_
      obtain ⟨s_24, hr_24, hf⟩ := mo_bind hf
      obtain ⟨rfl, rfl⟩ := mo_pair hf
      exact ⟨3, (h_2_copyFrom_25_71 pt ps pg pr (xs_sI (xs_sI s 433 (((((s.1 433) + (40 : Int32)) - (1 : Int32)) - (((s.1 433) + (40 : Int32)) - (1 : Int32)) / (40 : Int32) * (40 : Int32)))) 434 (((s.1 434) - (1 : Int32))))  s_24 _ hr_24 (And.intro rfl hK))⟩
    replace hf := mo_neg hf c_2_21
    by_cases c_2_22 : ((((s.1 433) + (40 : Int32)) - (1 : Int32)) - (((s.1 433) + (40 : Int32)) - (1 : Int32)) / (40 : Int32) * (40 : Int32)) = (22 : Int32)
    · have hf := mo_pos hf c_2_22
      refine mm_ga (cs' := P_X5_takeBack.drop 27) (b := 73) rfl rfl rfl rfl (by rw [c_2_22]; exact mm_vi rfl) (by rw [c_2_22]; rfl) ?_
      obtain ⟨s_25, hr_25, hf⟩ := mo_bind hf
      obtain ⟨rfl, rfl⟩ := mo_pair hf
      exact ⟨3, (h_2_copyFrom_25_73 pt ps pg pr (xs_sI (xs_sI s 433 (((((s.1 433) + (40 : Int32)) - (1 : Int32)) - (((s.1 433) + (40 : Int32)) - (1 : Int32)) / (40 : Int32) * (40 : Int32)))) 434 (((s.1 434) - (1 : Int32))))  s_25 _ hr_25 (And.intro rfl hK))⟩
    replace hf := mo_neg hf c_2_22
    by_cases c_2_23 : ((((s.1 433) + (40 : Int32)) - (1 : Int32)) - (((s.1 433) + (40 : Int32)) - (1 : Int32)) / (40 : Int32) * (40 : Int32)) = (23 : Int32)
    · have hf := mo_pos hf c_2_23
      refine mm_ga (cs' := P_X5_takeBack.drop 27) (b := 75) rfl rfl rfl rfl (by rw [c_2_23]; exact mm_vi rfl) (by rw [c_2_23]; rfl) ?_
      obtain ⟨s_26, hr_26, hf⟩ := mo_bind hf
      obtain ⟨rfl, rfl⟩ := mo_pair hf
      exact ⟨3, (h_2_copyFrom_25_75 pt ps pg pr (xs_sI (xs_sI s 433 (((((s.1 433) + (40 : Int32)) - (1 : Int32)) - (((s.1 433) + (40 : Int32)) - (1 : Int32)) / (40 : Int32) * (40 : Int32)))) 434 (((s.1 434) - (1 : Int32))))  s_26 _ hr_26 (And.intro rfl hK))⟩
    replace hf := mo_neg hf c_2_23
    by_cases c_2_24 : ((((s.1 433) + (40 : Int32)) - (1 : Int32)) - (((s.1 433) + (40 : Int32)) - (1 : Int32)) / (40 : Int32) * (40 : Int32)) = (24 : Int32)
    · have hf := mo_pos hf c_2_24
      refine mm_ga (cs' := P_X5_takeBack.drop 27) (b := 77) rfl rfl rfl rfl (by rw [c_2_24]; exact mm_vi rfl) (by rw [c_2_24]; rfl) ?_
      obtain ⟨s_27, hr_27, hf⟩ := mo_bind hf
      obtain ⟨rfl, rfl⟩ := mo_pair hf
      exact ⟨3, (h_2_copyFrom_25_77 pt ps pg pr (xs_sI (xs_sI s 433 (((((s.1 433) + (40 : Int32)) - (1 : Int32)) - (((s.1 433) + (40 : Int32)) - (1 : Int32)) / (40 : Int32) * (40 : Int32)))) 434 (((s.1 434) - (1 : Int32))))  s_27 _ hr_27 (And.intro rfl hK))⟩
    replace hf := mo_neg hf c_2_24
    by_cases c_2_25 : ((((s.1 433) + (40 : Int32)) - (1 : Int32)) - (((s.1 433) + (40 : Int32)) - (1 : Int32)) / (40 : Int32) * (40 : Int32)) = (25 : Int32)
    · have hf := mo_pos hf c_2_25
      refine mm_ga (cs' := P_X5_takeBack.drop 27) (b := 79) rfl rfl rfl rfl (by rw [c_2_25]; exact mm_vi rfl) (by rw [c_2_25]; rfl) ?_
      obtain ⟨s_28, hr_28, hf⟩ := mo_bind hf
      obtain ⟨rfl, rfl⟩ := mo_pair hf
      exact ⟨3, (h_2_copyFrom_25_79 pt ps pg pr (xs_sI (xs_sI s 433 (((((s.1 433) + (40 : Int32)) - (1 : Int32)) - (((s.1 433) + (40 : Int32)) - (1 : Int32)) / (40 : Int32) * (40 : Int32)))) 434 (((s.1 434) - (1 : Int32))))  s_28 _ hr_28 (And.intro rfl hK))⟩
    replace hf := mo_neg hf c_2_25
    by_cases c_2_26 : ((((s.1 433) + (40 : Int32)) - (1 : Int32)) - (((s.1 433) + (40 : Int32)) - (1 : Int32)) / (40 : Int32) * (40 : Int32)) = (26 : Int32)
    · have hf := mo_pos hf c_2_26
      refine mm_ga (cs' := P_X5_takeBack.drop 27) (b := 81) rfl rfl rfl rfl (by rw [c_2_26]; exact mm_vi rfl) (by rw [c_2_26]; rfl) ?_
      obtain ⟨s_29, hr_29, hf⟩ := mo_bind hf
      obtain ⟨rfl, rfl⟩ := mo_pair hf
      exact ⟨3, (h_2_copyFrom_25_81 pt ps pg pr (xs_sI (xs_sI s 433 (((((s.1 433) + (40 : Int32)) - (1 : Int32)) - (((s.1 433) + (40 : Int32)) - (1 : Int32)) / (40 : Int32) * (40 : Int32)))) 434 (((s.1 434) - (1 : Int32))))  s_29 _ hr_29 (And.intro rfl hK))⟩
    replace hf := mo_neg hf c_2_26
    by_cases c_2_27 : ((((s.1 433) + (40 : Int32)) - (1 : Int32)) - (((s.1 433) + (40 : Int32)) - (1 : Int32)) / (40 : Int32) * (40 : Int32)) = (27 : Int32)
    · have hf := mo_pos hf c_2_27
      refine mm_ga (cs' := P_X5_takeBack.drop 27) (b := 83) rfl rfl rfl rfl (by rw [c_2_27]; exact mm_vi rfl) (by rw [c_2_27]; rfl) ?_
      obtain ⟨s_30, hr_30, hf⟩ := mo_bind hf
      obtain ⟨rfl, rfl⟩ := mo_pair hf
      exact ⟨3, (h_2_copyFrom_25_83 pt ps pg pr (xs_sI (xs_sI s 433 (((((s.1 433) + (40 : Int32)) - (1 : Int32)) - (((s.1 433) + (40 : Int32)) - (1 : Int32)) / (40 : Int32) * (40 : Int32)))) 434 (((s.1 434) - (1 : Int32))))  s_30 _ hr_30 (And.intro rfl hK))⟩
    replace hf := mo_neg hf c_2_27
    by_cases c_2_28 : ((((s.1 433) + (40 : Int32)) - (1 : Int32)) - (((s.1 433) + (40 : Int32)) - (1 : Int32)) / (40 : Int32) * (40 : Int32)) = (28 : Int32)
    · have hf := mo_pos hf c_2_28
      refine mm_ga (cs' := P_X5_takeBack.drop 27) (b := 85) rfl rfl rfl rfl (by rw [c_2_28]; exact mm_vi rfl) (by rw [c_2_28]; rfl) ?_
      obtain ⟨s_31, hr_31, hf⟩ := mo_bind hf
      obtain ⟨rfl, rfl⟩ := mo_pair hf
      exact ⟨3, (h_2_copyFrom_25_85 pt ps pg pr (xs_sI (xs_sI s 433 (((((s.1 433) + (40 : Int32)) - (1 : Int32)) - (((s.1 433) + (40 : Int32)) - (1 : Int32)) / (40 : Int32) * (40 : Int32)))) 434 (((s.1 434) - (1 : Int32))))  s_31 _ hr_31 (And.intro rfl hK))⟩
    replace hf := mo_neg hf c_2_28
    by_cases c_2_29 : ((((s.1 433) + (40 : Int32)) - (1 : Int32)) - (((s.1 433) + (40 : Int32)) - (1 : Int32)) / (40 : Int32) * (40 : Int32)) = (29 : Int32)
    · have hf := mo_pos hf c_2_29
      refine mm_ga (cs' := P_X5_takeBack.drop 27) (b := 87) rfl rfl rfl rfl (by rw [c_2_29]; exact mm_vi rfl) (by rw [c_2_29]; rfl) ?_
      obtain ⟨s_32, hr_32, hf⟩ := mo_bind hf
      obtain ⟨rfl, rfl⟩ := mo_pair hf
      exact ⟨3, (h_2_copyFrom_25_87 pt ps pg pr (xs_sI (xs_sI s 433 (((((s.1 433) + (40 : Int32)) - (1 : Int32)) - (((s.1 433) + (40 : Int32)) - (1 : Int32)) / (40 : Int32) * (40 : Int32)))) 434 (((s.1 434) - (1 : Int32))))  s_32 _ hr_32 (And.intro rfl hK))⟩
    replace hf := mo_neg hf c_2_29
    by_cases c_2_30 : ((((s.1 433) + (40 : Int32)) - (1 : Int32)) - (((s.1 433) + (40 : Int32)) - (1 : Int32)) / (40 : Int32) * (40 : Int32)) = (30 : Int32)
    · have hf := mo_pos hf c_2_30
      refine mm_ga (cs' := P_X5_takeBack.drop 27) (b := 89) rfl rfl rfl rfl (by rw [c_2_30]; exact mm_vi rfl) (by rw [c_2_30]; rfl) ?_
      obtain ⟨s_33, hr_33, hf⟩ := mo_bind hf
      obtain ⟨rfl, rfl⟩ := mo_pair hf
      exact ⟨3, (h_2_copyFrom_25_89 pt ps pg pr (xs_sI (xs_sI s 433 (((((s.1 433) + (40 : Int32)) - (1 : Int32)) - (((s.1 433) + (40 : Int32)) - (1 : Int32)) / (40 : Int32) * (40 : Int32)))) 434 (((s.1 434) - (1 : Int32))))  s_33 _ hr_33 (And.intro rfl hK))⟩
    replace hf := mo_neg hf c_2_30
    by_cases c_2_31 : ((((s.1 433) + (40 : Int32)) - (1 : Int32)) - (((s.1 433) + (40 : Int32)) - (1 : Int32)) / (40 : Int32) * (40 : Int32)) = (31 : Int32)
    · have hf := mo_pos hf c_2_31
      refine mm_ga (cs' := P_X5_takeBack.drop 27) (b := 91) rfl rfl rfl rfl (by rw [c_2_31]; exact mm_vi rfl) (by rw [c_2_31]; rfl) ?_
      obtain ⟨s_34, hr_34, hf⟩ := mo_bind hf
      obtain ⟨rfl, rfl⟩ := mo_pair hf
      exact ⟨3, (h_2_copyFrom_25_91 pt ps pg pr (xs_sI (xs_sI s 433 (((((s.1 433) + (40 : Int32)) - (1 : Int32)) - (((s.1 433) + (40 : Int32)) - (1 : Int32)) / (40 : Int32) * (40 : Int32)))) 434 (((s.1 434) - (1 : Int32))))  s_34 _ hr_34 (And.intro rfl hK))⟩
    replace hf := mo_neg hf c_2_31
    by_cases c_2_32 : ((((s.1 433) + (40 : Int32)) - (1 : Int32)) - (((s.1 433) + (40 : Int32)) - (1 : Int32)) / (40 : Int32) * (40 : Int32)) = (32 : Int32)
    · have hf := mo_pos hf c_2_32
      refine mm_ga (cs' := P_X5_takeBack.drop 27) (b := 93) rfl rfl rfl rfl (by rw [c_2_32]; exact mm_vi rfl) (by rw [c_2_32]; rfl) ?_
      obtain ⟨s_35, hr_35, hf⟩ := mo_bind hf
      obtain ⟨rfl, rfl⟩ := mo_pair hf
      exact ⟨3, (h_2_copyFrom_25_93 pt ps pg pr (xs_sI (xs_sI s 433 (((((s.1 433) + (40 : Int32)) - (1 : Int32)) - (((s.1 433) + (40 : Int32)) - (1 : Int32)) / (40 : Int32) * (40 : Int32)))) 434 (((s.1 434) - (1 : Int32))))  s_35 _ hr_35 (And.intro rfl hK))⟩
    replace hf := mo_neg hf c_2_32
    by_cases c_2_33 : ((((s.1 433) + (40 : Int32)) - (1 : Int32)) - (((s.1 433) + (40 : Int32)) - (1 : Int32)) / (40 : Int32) * (40 : Int32)) = (33 : Int32)
    · have hf := mo_pos hf c_2_33
      refine mm_ga (cs' := P_X5_takeBack.drop 27) (b := 95) rfl rfl rfl rfl (by rw [c_2_33]; exact mm_vi rfl) (by rw [c_2_33]; rfl) ?_
      obtain ⟨s_36, hr_36, hf⟩ := mo_bind hf
      obtain ⟨rfl, rfl⟩ := mo_pair hf
      exact ⟨3, (h_2_copyFrom_25_95 pt ps pg pr (xs_sI (xs_sI s 433 (((((s.1 433) + (40 : Int32)) - (1 : Int32)) - (((s.1 433) + (40 : Int32)) - (1 : Int32)) / (40 : Int32) * (40 : Int32)))) 434 (((s.1 434) - (1 : Int32))))  s_36 _ hr_36 (And.intro rfl hK))⟩
    replace hf := mo_neg hf c_2_33
    by_cases c_2_34 : ((((s.1 433) + (40 : Int32)) - (1 : Int32)) - (((s.1 433) + (40 : Int32)) - (1 : Int32)) / (40 : Int32) * (40 : Int32)) = (34 : Int32)
    · have hf := mo_pos hf c_2_34
      refine mm_ga (cs' := P_X5_takeBack.drop 27) (b := 97) rfl rfl rfl rfl (by rw [c_2_34]; exact mm_vi rfl) (by rw [c_2_34]; rfl) ?_
      obtain ⟨s_37, hr_37, hf⟩ := mo_bind hf
      obtain ⟨rfl, rfl⟩ := mo_pair hf
      exact ⟨3, (h_2_copyFrom_25_97 pt ps pg pr (xs_sI (xs_sI s 433 (((((s.1 433) + (40 : Int32)) - (1 : Int32)) - (((s.1 433) + (40 : Int32)) - (1 : Int32)) / (40 : Int32) * (40 : Int32)))) 434 (((s.1 434) - (1 : Int32))))  s_37 _ hr_37 (And.intro rfl hK))⟩
    replace hf := mo_neg hf c_2_34
    by_cases c_2_35 : ((((s.1 433) + (40 : Int32)) - (1 : Int32)) - (((s.1 433) + (40 : Int32)) - (1 : Int32)) / (40 : Int32) * (40 : Int32)) = (35 : Int32)
    · have hf := mo_pos hf c_2_35
      refine mm_ga (cs' := P_X5_takeBack.drop 27) (b := 99) rfl rfl rfl rfl (by rw [c_2_35]; exact mm_vi rfl) (by rw [c_2_35]; rfl) ?_
      obtain ⟨s_38, hr_38, hf⟩ := mo_bind hf
      obtain ⟨rfl, rfl⟩ := mo_pair hf
      exact ⟨3, (h_2_copyFrom_25_99 pt ps pg pr (xs_sI (xs_sI s 433 (((((s.1 433) + (40 : Int32)) - (1 : Int32)) - (((s.1 433) + (40 : Int32)) - (1 : Int32)) / (40 : Int32) * (40 : Int32)))) 434 (((s.1 434) - (1 : Int32))))  s_38 _ hr_38 (And.intro rfl hK))⟩
    replace hf := mo_neg hf c_2_35
    by_cases c_2_36 : ((((s.1 433) + (40 : Int32)) - (1 : Int32)) - (((s.1 433) + (40 : Int32)) - (1 : Int32)) / (40 : Int32) * (40 : Int32)) = (36 : Int32)
    · have hf := mo_pos hf c_2_36
      refine mm_ga (cs' := P_X5_takeBack.drop 27) (b := 101) rfl rfl rfl rfl (by rw [c_2_36]; exact mm_vi rfl) (by rw [c_2_36]; rfl) ?_
      obtain ⟨s_39, hr_39, hf⟩ := mo_bind hf
      obtain ⟨rfl, rfl⟩ := mo_pair hf
      exact ⟨3, (h_2_copyFrom_25_101 pt ps pg pr (xs_sI (xs_sI s 433 (((((s.1 433) + (40 : Int32)) - (1 : Int32)) - (((s.1 433) + (40 : Int32)) - (1 : Int32)) / (40 : Int32) * (40 : Int32)))) 434 (((s.1 434) - (1 : Int32))))  s_39 _ hr_39 (And.intro rfl hK))⟩
    replace hf := mo_neg hf c_2_36
    by_cases c_2_37 : ((((s.1 433) + (40 : Int32)) - (1 : Int32)) - (((s.1 433) + (40 : Int32)) - (1 : Int32)) / (40 : Int32) * (40 : Int32)) = (37 : Int32)
    · have hf := mo_pos hf c_2_37
      refine mm_ga (cs' := P_X5_takeBack.drop 27) (b := 103) rfl rfl rfl rfl (by rw [c_2_37]; exact mm_vi rfl) (by rw [c_2_37]; rfl) ?_
      obtain ⟨s_40, hr_40, hf⟩ := mo_bind hf
      obtain ⟨rfl, rfl⟩ := mo_pair hf
      exact ⟨3, (h_2_copyFrom_25_103 pt ps pg pr (xs_sI (xs_sI s 433 (((((s.1 433) + (40 : Int32)) - (1 : Int32)) - (((s.1 433) + (40 : Int32)) - (1 : Int32)) / (40 : Int32) * (40 : Int32)))) 434 (((s.1 434) - (1 : Int32))))  s_40 _ hr_40 (And.intro rfl hK))⟩
    replace hf := mo_neg hf c_2_37
    by_cases c_2_38 : ((((s.1 433) + (40 : Int32)) - (1 : Int32)) - (((s.1 433) + (40 : Int32)) - (1 : Int32)) / (40 : Int32) * (40 : Int32)) = (38 : Int32)
    · have hf := mo_pos hf c_2_38
      refine mm_ga (cs' := P_X5_takeBack.drop 27) (b := 105) rfl rfl rfl rfl (by rw [c_2_38]; exact mm_vi rfl) (by rw [c_2_38]; rfl) ?_
      obtain ⟨s_41, hr_41, hf⟩ := mo_bind hf
      obtain ⟨rfl, rfl⟩ := mo_pair hf
      exact ⟨3, (h_2_copyFrom_25_105 pt ps pg pr (xs_sI (xs_sI s 433 (((((s.1 433) + (40 : Int32)) - (1 : Int32)) - (((s.1 433) + (40 : Int32)) - (1 : Int32)) / (40 : Int32) * (40 : Int32)))) 434 (((s.1 434) - (1 : Int32))))  s_41 _ hr_41 (And.intro rfl hK))⟩
    replace hf := mo_neg hf c_2_38
    by_cases c_2_39 : ((((s.1 433) + (40 : Int32)) - (1 : Int32)) - (((s.1 433) + (40 : Int32)) - (1 : Int32)) / (40 : Int32) * (40 : Int32)) = (39 : Int32)
    · have hf := mo_pos hf c_2_39
      refine mm_ga (cs' := P_X5_takeBack.drop 27) (b := 107) rfl rfl rfl rfl (by rw [c_2_39]; exact mm_vi rfl) (by rw [c_2_39]; rfl) ?_
      obtain ⟨s_42, hr_42, hf⟩ := mo_bind hf
      obtain ⟨rfl, rfl⟩ := mo_pair hf
      exact ⟨3, (h_2_copyFrom_25_107 pt ps pg pr (xs_sI (xs_sI s 433 (((((s.1 433) + (40 : Int32)) - (1 : Int32)) - (((s.1 433) + (40 : Int32)) - (1 : Int32)) / (40 : Int32) * (40 : Int32)))) 434 (((s.1 434) - (1 : Int32))))  s_42 _ hr_42 (And.intro rfl hK))⟩
    replace hf := mo_neg hf c_2_39
    cases hf
def xk_5_takeBack_25 (C : mm_C) : Prop := ∀ (pt : Value) (ps : Value) (pg : Value) (pr : Value) (s : xs_S)  (v : Int32) (s2 : xs_S) (Q : mm_R), xf_5_takeBack_25 s = some (v, s2) → Q (some (.int v)) (xs_H pt ps pg pr s2) → C 164 [.ref 27, .ref 25] (xs_H pt ps pg pr s) Q
