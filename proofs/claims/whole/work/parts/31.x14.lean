/-! the class, method by method, 14 -/
-- 2_copyFrom_110_25
noncomputable def xf_2_copyFrom_110_25 (s : xs_S)  : Option (xs_S) :=
some (xs_sA (xs_sI (xs_sI (xs_sI (xs_sI (xs_sI s 1760 ((s.1 400))) 1761 ((s.1 401))) 1762 ((s.1 402))) 1763 ((s.1 403))) 1764 ((s.1 404))) 111 (va_cpy (s.2.1 26) (s.2.1 111) 0 0 5))
set_option maxHeartbeats 4000000 in
theorem xb_2_copyFrom_110_25 {C : mm_C} {Q : mm_R} {pt : Value} {ps : Value} {pg : Value} {pr : Value}  (s : xs_S)  (s2 : xs_S) (hf : xf_2_copyFrom_110_25 s = some s2) (hK : Q (none) (xs_H pt ps pg pr s2)) : mm_go C mm_Mk mm_Fk P_X2_copyFrom Q P_X2_copyFrom [(0, .ref 110), (1, .ref 25)] [] (xs_H pt ps pg pr s) 0 0 := by
  unfold xf_2_copyFrom_110_25 at hf
  obtain rfl := Option.some.inj hf
  exact ⟨29, (And.intro trivial (And.intro trivial (And.intro trivial (And.intro trivial (And.intro trivial (And.intro (by decide) hK))))))⟩
def xk_2_copyFrom_110_25 (C : mm_C) : Prop := ∀ (pt : Value) (ps : Value) (pg : Value) (pr : Value) (s : xs_S)  (s2 : xs_S) (Q : mm_R), xf_2_copyFrom_110_25 s = some s2 → Q (none) (xs_H pt ps pg pr s2) → C 149 [.ref 110, .ref 25] (xs_H pt ps pg pr s) Q
-- 2_copyFrom_112_25
noncomputable def xf_2_copyFrom_112_25 (s : xs_S)  : Option (xs_S) :=
some (xs_sA (xs_sI (xs_sI (xs_sI (xs_sI (xs_sI s 1792 ((s.1 400))) 1793 ((s.1 401))) 1794 ((s.1 402))) 1795 ((s.1 403))) 1796 ((s.1 404))) 113 (va_cpy (s.2.1 26) (s.2.1 113) 0 0 5))
set_option maxHeartbeats 4000000 in
theorem xb_2_copyFrom_112_25 {C : mm_C} {Q : mm_R} {pt : Value} {ps : Value} {pg : Value} {pr : Value}  (s : xs_S)  (s2 : xs_S) (hf : xf_2_copyFrom_112_25 s = some s2) (hK : Q (none) (xs_H pt ps pg pr s2)) : mm_go C mm_Mk mm_Fk P_X2_copyFrom Q P_X2_copyFrom [(0, .ref 112), (1, .ref 25)] [] (xs_H pt ps pg pr s) 0 0 := by
  unfold xf_2_copyFrom_112_25 at hf
  obtain rfl := Option.some.inj hf
  exact ⟨29, (And.intro trivial (And.intro trivial (And.intro trivial (And.intro trivial (And.intro trivial (And.intro (by decide) hK))))))⟩
def xk_2_copyFrom_112_25 (C : mm_C) : Prop := ∀ (pt : Value) (ps : Value) (pg : Value) (pr : Value) (s : xs_S)  (s2 : xs_S) (Q : mm_R), xf_2_copyFrom_112_25 s = some s2 → Q (none) (xs_H pt ps pg pr s2) → C 149 [.ref 112, .ref 25] (xs_H pt ps pg pr s) Q
-- 2_copyFrom_114_25
noncomputable def xf_2_copyFrom_114_25 (s : xs_S)  : Option (xs_S) :=
some (xs_sA (xs_sI (xs_sI (xs_sI (xs_sI (xs_sI s 1824 ((s.1 400))) 1825 ((s.1 401))) 1826 ((s.1 402))) 1827 ((s.1 403))) 1828 ((s.1 404))) 115 (va_cpy (s.2.1 26) (s.2.1 115) 0 0 5))
set_option maxHeartbeats 4000000 in
theorem xb_2_copyFrom_114_25 {C : mm_C} {Q : mm_R} {pt : Value} {ps : Value} {pg : Value} {pr : Value}  (s : xs_S)  (s2 : xs_S) (hf : xf_2_copyFrom_114_25 s = some s2) (hK : Q (none) (xs_H pt ps pg pr s2)) : mm_go C mm_Mk mm_Fk P_X2_copyFrom Q P_X2_copyFrom [(0, .ref 114), (1, .ref 25)] [] (xs_H pt ps pg pr s) 0 0 := by
  unfold xf_2_copyFrom_114_25 at hf
  obtain rfl := Option.some.inj hf
  exact ⟨29, (And.intro trivial (And.intro trivial (And.intro trivial (And.intro trivial (And.intro trivial (And.intro (by decide) hK))))))⟩
def xk_2_copyFrom_114_25 (C : mm_C) : Prop := ∀ (pt : Value) (ps : Value) (pg : Value) (pr : Value) (s : xs_S)  (s2 : xs_S) (Q : mm_R), xf_2_copyFrom_114_25 s = some s2 → Q (none) (xs_H pt ps pg pr s2) → C 149 [.ref 114, .ref 25] (xs_H pt ps pg pr s) Q
-- 11_hold
noncomputable def xf_11_hold (s : xs_S) (a0 : Int32) : Option (Int32 × xs_S) :=
(if a0 < (0 : Int32) then
some ((0 : Int32), s)
else
(if a0 < (3 : Int32) then
(if a0 = (0 : Int32) then
((xf_2_copyFrom_110_25 s ).bind fun s_4 =>
(bif mo_in a0 3 then some ((1 : Int32), (xs_sA s_4 116 (upd (s_4.2.1 116) (a0).toNatClampNeg ((vp_nar .boolean (1 : Int32)))))) else none))
else
(if a0 = (1 : Int32) then
((xf_2_copyFrom_112_25 s ).bind fun s_6 =>
(bif mo_in a0 3 then some ((1 : Int32), (xs_sA s_6 116 (upd (s_6.2.1 116) (a0).toNatClampNeg ((vp_nar .boolean (1 : Int32)))))) else none))
else
(if a0 = (2 : Int32) then
((xf_2_copyFrom_114_25 s ).bind fun s_8 =>
(bif mo_in a0 3 then some ((1 : Int32), (xs_sA s_8 116 (upd (s_8.2.1 116) (a0).toNatClampNeg ((vp_nar .boolean (1 : Int32)))))) else none))
else
none)))
else
some ((0 : Int32), s)))
set_option maxHeartbeats 4000000 in
theorem xb_11_hold {C : mm_C} {Q : mm_R} {pt : Value} {ps : Value} {pg : Value} {pr : Value} (h_2_copyFrom_110_25 : xk_2_copyFrom_110_25 C) (h_2_copyFrom_112_25 : xk_2_copyFrom_112_25 C) (h_2_copyFrom_114_25 : xk_2_copyFrom_114_25 C) (s : xs_S) (a0 : Int32) (v : Int32) (s2 : xs_S) (hf : xf_11_hold s a0 = some (v, s2)) (hK : Q (some (.int v)) (xs_H pt ps pg pr s2)) : mm_go C mm_Mk mm_Fk P_X11_hold Q P_X11_hold [(0, .ref 0), (1, .int a0)] [] (xs_H pt ps pg pr s) 0 0 := by
  unfold xf_11_hold at hf
  by_cases c_1 : a0 < (0 : Int32)
  · have hf := mo_pos hf c_1
    obtain ⟨rfl, rfl⟩ := mo_pair hf
    exact ⟨4, (And.intro (fun _ => (And.intro rfl hK)) (fun q => absurd c_1 q))⟩
  · have hf := mo_neg hf c_1
    by_cases c_2 : a0 < (3 : Int32)
    · have hf := mo_pos hf c_2
      refine mm_adv 8 (cs' := P_X11_hold.drop 10) (l' := [(0, .ref 0), (1, .int a0)]) (st' := [.int a0, .ref 109]) (h' := (xs_H pt ps pg pr s)) (bc' := 0) (bs' := 0) (fun n g => (And.intro (fun q => absurd q c_1) (fun _ => (And.intro (fun _ => g) (fun q => absurd c_2 q))))) ?_
      by_cases c_3_0 : a0 = (0 : Int32)
      · have hf := mo_pos hf c_3_0
        refine mm_ga (cs' := P_X11_hold.drop 11) (b := 110) rfl rfl rfl rfl (by rw [c_3_0]; exact mm_vi rfl) (by rw [c_3_0]; rfl) ?_
        obtain ⟨s_4, hr_4, hf⟩ := mo_bind hf
        obtain ⟨hi_5, hf⟩ := mo_if hf
        obtain ⟨rfl, rfl⟩ := mo_pair hf
        exact ⟨10, (h_2_copyFrom_110_25 pt ps pg pr s  s_4 _ hr_4 (And.intro hi_5 (And.intro rfl hK)))⟩
      replace hf := mo_neg hf c_3_0
      by_cases c_3_1 : a0 = (1 : Int32)
      · have hf := mo_pos hf c_3_1
        refine mm_ga (cs' := P_X11_hold.drop 11) (b := 112) rfl rfl rfl rfl (by rw [c_3_1]; exact mm_vi rfl) (by rw [c_3_1]; rfl) ?_
        obtain ⟨s_6, hr_6, hf⟩ := mo_bind hf
        obtain ⟨hi_7, hf⟩ := mo_if hf
        obtain ⟨rfl, rfl⟩ := mo_pair hf
        exact ⟨10, (h_2_copyFrom_112_25 pt ps pg pr s  s_6 _ hr_6 (And.intro hi_7 (And.intro rfl hK)))⟩
      replace hf := mo_neg hf c_3_1
      by_cases c_3_2 : a0 = (2 : Int32)
      · have hf := mo_pos hf c_3_2
        refine mm_ga (cs' := P_X11_hold.drop 11) (b := 114) rfl rfl rfl rfl (by rw [c_3_2]; exact mm_vi rfl) (by rw [c_3_2]; rfl) ?_
        obtain ⟨s_8, hr_8, hf⟩ := mo_bind hf
        obtain ⟨hi_9, hf⟩ := mo_if hf
        obtain ⟨rfl, rfl⟩ := mo_pair hf
        exact ⟨10, (h_2_copyFrom_114_25 pt ps pg pr s  s_8 _ hr_8 (And.intro hi_9 (And.intro rfl hK)))⟩
      replace hf := mo_neg hf c_3_2
      cases hf
    · have hf := mo_neg hf c_2
      obtain ⟨rfl, rfl⟩ := mo_pair hf
      exact ⟨7, (And.intro (fun q => absurd q c_1) (fun _ => (And.intro (fun q => absurd q c_2) (fun _ => (And.intro rfl hK)))))⟩
def xk_11_hold (C : mm_C) : Prop := ∀ (pt : Value) (ps : Value) (pg : Value) (pr : Value) (s : xs_S) (a0 : Int32) (v : Int32) (s2 : xs_S) (Q : mm_R), xf_11_hold s a0 = some (v, s2) → Q (some (.int v)) (xs_H pt ps pg pr s2) → C 258 [.ref 0, .int a0] (xs_H pt ps pg pr s) Q
-- 2_copyFrom_25_110
noncomputable def xf_2_copyFrom_25_110 (s : xs_S)  : Option (xs_S) :=
some (xs_sA (xs_sI (xs_sI (xs_sI (xs_sI (xs_sI s 400 ((s.1 1760))) 401 ((s.1 1761))) 402 ((s.1 1762))) 403 ((s.1 1763))) 404 ((s.1 1764))) 26 (va_cpy (s.2.1 111) (s.2.1 26) 0 0 5))
set_option maxHeartbeats 4000000 in
theorem xb_2_copyFrom_25_110 {C : mm_C} {Q : mm_R} {pt : Value} {ps : Value} {pg : Value} {pr : Value}  (s : xs_S)  (s2 : xs_S) (hf : xf_2_copyFrom_25_110 s = some s2) (hK : Q (none) (xs_H pt ps pg pr s2)) : mm_go C mm_Mk mm_Fk P_X2_copyFrom Q P_X2_copyFrom [(0, .ref 25), (1, .ref 110)] [] (xs_H pt ps pg pr s) 0 0 := by
  unfold xf_2_copyFrom_25_110 at hf
  obtain rfl := Option.some.inj hf
  exact ⟨29, (And.intro trivial (And.intro trivial (And.intro trivial (And.intro trivial (And.intro trivial (And.intro (by decide) hK))))))⟩
def xk_2_copyFrom_25_110 (C : mm_C) : Prop := ∀ (pt : Value) (ps : Value) (pg : Value) (pr : Value) (s : xs_S)  (s2 : xs_S) (Q : mm_R), xf_2_copyFrom_25_110 s = some s2 → Q (none) (xs_H pt ps pg pr s2) → C 149 [.ref 25, .ref 110] (xs_H pt ps pg pr s) Q
-- 2_copyFrom_25_112
noncomputable def xf_2_copyFrom_25_112 (s : xs_S)  : Option (xs_S) :=
some (xs_sA (xs_sI (xs_sI (xs_sI (xs_sI (xs_sI s 400 ((s.1 1792))) 401 ((s.1 1793))) 402 ((s.1 1794))) 403 ((s.1 1795))) 404 ((s.1 1796))) 26 (va_cpy (s.2.1 113) (s.2.1 26) 0 0 5))
set_option maxHeartbeats 4000000 in
theorem xb_2_copyFrom_25_112 {C : mm_C} {Q : mm_R} {pt : Value} {ps : Value} {pg : Value} {pr : Value}  (s : xs_S)  (s2 : xs_S) (hf : xf_2_copyFrom_25_112 s = some s2) (hK : Q (none) (xs_H pt ps pg pr s2)) : mm_go C mm_Mk mm_Fk P_X2_copyFrom Q P_X2_copyFrom [(0, .ref 25), (1, .ref 112)] [] (xs_H pt ps pg pr s) 0 0 := by
  unfold xf_2_copyFrom_25_112 at hf
  obtain rfl := Option.some.inj hf
  exact ⟨29, (And.intro trivial (And.intro trivial (And.intro trivial (And.intro trivial (And.intro trivial (And.intro (by decide) hK))))))⟩
def xk_2_copyFrom_25_112 (C : mm_C) : Prop := ∀ (pt : Value) (ps : Value) (pg : Value) (pr : Value) (s : xs_S)  (s2 : xs_S) (Q : mm_R), xf_2_copyFrom_25_112 s = some s2 → Q (none) (xs_H pt ps pg pr s2) → C 149 [.ref 25, .ref 112] (xs_H pt ps pg pr s) Q
-- 2_copyFrom_25_114
noncomputable def xf_2_copyFrom_25_114 (s : xs_S)  : Option (xs_S) :=
some (xs_sA (xs_sI (xs_sI (xs_sI (xs_sI (xs_sI s 400 ((s.1 1824))) 401 ((s.1 1825))) 402 ((s.1 1826))) 403 ((s.1 1827))) 404 ((s.1 1828))) 26 (va_cpy (s.2.1 115) (s.2.1 26) 0 0 5))
set_option maxHeartbeats 4000000 in
theorem xb_2_copyFrom_25_114 {C : mm_C} {Q : mm_R} {pt : Value} {ps : Value} {pg : Value} {pr : Value}  (s : xs_S)  (s2 : xs_S) (hf : xf_2_copyFrom_25_114 s = some s2) (hK : Q (none) (xs_H pt ps pg pr s2)) : mm_go C mm_Mk mm_Fk P_X2_copyFrom Q P_X2_copyFrom [(0, .ref 25), (1, .ref 114)] [] (xs_H pt ps pg pr s) 0 0 := by
  unfold xf_2_copyFrom_25_114 at hf
  obtain rfl := Option.some.inj hf
  exact ⟨29, (And.intro trivial (And.intro trivial (And.intro trivial (And.intro trivial (And.intro trivial (And.intro (by decide) hK))))))⟩
def xk_2_copyFrom_25_114 (C : mm_C) : Prop := ∀ (pt : Value) (ps : Value) (pg : Value) (pr : Value) (s : xs_S)  (s2 : xs_S) (Q : mm_R), xf_2_copyFrom_25_114 s = some s2 → Q (none) (xs_H pt ps pg pr s2) → C 149 [.ref 25, .ref 114] (xs_H pt ps pg pr s) Q
-- 11_restore
noncomputable def xf_11_restore (s : xs_S) (a0 : Int32) : Option (Int32 × xs_S) :=
(if a0 < (0 : Int32) then
some ((0 : Int32), s)
else
(if (3 : Int32) ≤ a0 then
some ((0 : Int32), s)
else
((mo_ag 3 (s.2.1 116) a0).bind fun x_3 =>
(if x_3 = (0 : Int32) then
some ((0 : Int32), s)
else
(if a0 = (0 : Int32) then
((xf_2_copyFrom_25_110 s ).bind fun s_6 =>
((xf_1_lay_9 (xs_sI s_6 434 ((0 : Int32))) ((s_6.1 401)) ((s_6.1 402))).bind fun s_7 =>
some ((1 : Int32), s_7)))
else
(if a0 = (1 : Int32) then
((xf_2_copyFrom_25_112 s ).bind fun s_8 =>
((xf_1_lay_9 (xs_sI s_8 434 ((0 : Int32))) ((s_8.1 401)) ((s_8.1 402))).bind fun s_9 =>
some ((1 : Int32), s_9)))
else
(if a0 = (2 : Int32) then
((xf_2_copyFrom_25_114 s ).bind fun s_10 =>
((xf_1_lay_9 (xs_sI s_10 434 ((0 : Int32))) ((s_10.1 401)) ((s_10.1 402))).bind fun s_11 =>
some ((1 : Int32), s_11)))
else
none)))))))
set_option maxHeartbeats 4000000 in
theorem xb_11_restore {C : mm_C} {Q : mm_R} {ps : Value} {pr : Value} (h_2_copyFrom_25_110 : xk_2_copyFrom_25_110 C) (h_1_lay_9 : xk_1_lay_9 C) (h_2_copyFrom_25_112 : xk_2_copyFrom_25_112 C) (h_2_copyFrom_25_114 : xk_2_copyFrom_25_114 C) (s : xs_S) (a0 : Int32) (v : Int32) (s2 : xs_S) (hf : xf_11_restore s a0 = some (v, s2)) (hK : Q (some (.int v)) (xs_H (.ref 9) ps (.ref 9) pr s2)) : mm_go C mm_Mk mm_Fk P_X11_restore Q P_X11_restore [(0, .ref 0), (1, .int a0)] [] (xs_H (.ref 9) ps (.ref 9) pr s) 0 0 := by
  unfold xf_11_restore at hf
  by_cases c_1 : a0 < (0 : Int32)
  · have hf := mo_pos hf c_1
    obtain ⟨rfl, rfl⟩ := mo_pair hf
    exact ⟨4, (And.intro (fun _ => (And.intro rfl hK)) (fun q => absurd c_1 q))⟩
  · have hf := mo_neg hf c_1
    by_cases c_2 : (3 : Int32) ≤ a0
    · have hf := mo_pos hf c_2
      obtain ⟨rfl, rfl⟩ := mo_pair hf
      exact ⟨7, (And.intro (fun q => absurd q c_1) (fun _ => (And.intro (fun _ => (And.intro rfl hK)) (fun q => absurd c_2 q))))⟩
    · have hf := mo_neg hf c_2
      obtain ⟨x_3, hx_3, hf⟩ := mo_bind hf
      obtain ⟨hi_3, rfl⟩ := mo_ag_inv hx_3
      by_cases c_4 : ((s.2.1 116) (a0).toNatClampNeg) = (0 : Int32)
      · have hf := mo_pos hf c_4
        obtain ⟨rfl, rfl⟩ := mo_pair hf
        exact ⟨12, (And.intro (fun q => absurd q c_1) (fun _ => (And.intro (fun q => absurd q c_2) (fun _ => (And.intro hi_3 (And.intro (fun q => absurd c_4 q) (fun _ => (And.intro rfl hK))))))))⟩
      · have hf := mo_neg hf c_4
        refine mm_adv 15 (cs' := P_X11_restore.drop 17) (l' := [(0, .ref 0), (1, .int a0)]) (st' := [.int a0, .ref 109, .ref 25]) (h' := (xs_H (.ref 9) ps (.ref 9) pr s)) (bc' := 0) (bs' := 0) (fun n g => (And.intro (fun q => absurd q c_1) (fun _ => (And.intro (fun q => absurd q c_2) (fun _ => (And.intro hi_3 (And.intro (fun _ => g) (fun q => absurd c_4 q)))))))) ?_
        by_cases c_5_0 : a0 = (0 : Int32)
        · have hf := mo_pos hf c_5_0
          refine mm_ga (cs' := P_X11_restore.drop 18) (b := 110) rfl rfl rfl rfl (by rw [c_5_0]; exact mm_vi rfl) (by rw [c_5_0]; rfl) ?_
          obtain ⟨s_6, hr_6, hf⟩ := mo_bind hf
          obtain ⟨s_7, hr_7, hf⟩ := mo_bind hf
          obtain ⟨rfl, rfl⟩ := mo_pair hf
          exact ⟨18, (h_2_copyFrom_25_110 (.ref 9) ps (.ref 9) pr s  s_6 _ hr_6 (And.intro trivial (h_1_lay_9 (.ref 9) ps pr (xs_sI s_6 434 ((0 : Int32))) ((s_6.1 401)) ((s_6.1 402)) s_7 _ hr_7 (And.intro rfl hK))))⟩
        replace hf := mo_neg hf c_5_0
        by_cases c_5_1 : a0 = (1 : Int32)
        · have hf := mo_pos hf c_5_1
          refine mm_ga (cs' := P_X11_restore.drop 18) (b := 112) rfl rfl rfl rfl (by rw [c_5_1]; exact mm_vi rfl) (by rw [c_5_1]; rfl) ?_
          obtain ⟨s_8, hr_8, hf⟩ := mo_bind hf
          obtain ⟨s_9, hr_9, hf⟩ := mo_bind hf
          obtain ⟨rfl, rfl⟩ := mo_pair hf
          exact ⟨18, (h_2_copyFrom_25_112 (.ref 9) ps (.ref 9) pr s  s_8 _ hr_8 (And.intro trivial (h_1_lay_9 (.ref 9) ps pr (xs_sI s_8 434 ((0 : Int32))) ((s_8.1 401)) ((s_8.1 402)) s_9 _ hr_9 (And.intro rfl hK))))⟩
        replace hf := mo_neg hf c_5_1
        by_cases c_5_2 : a0 = (2 : Int32)
        · have hf := mo_pos hf c_5_2
          refine mm_ga (cs' := P_X11_restore.drop 18) (b := 114) rfl rfl rfl rfl (by rw [c_5_2]; exact mm_vi rfl) (by rw [c_5_2]; rfl) ?_
          obtain ⟨s_10, hr_10, hf⟩ := mo_bind hf
          obtain ⟨s_11, hr_11, hf⟩ := mo_bind hf
          obtain ⟨rfl, rfl⟩ := mo_pair hf
          exact ⟨18, (h_2_copyFrom_25_114 (.ref 9) ps (.ref 9) pr s  s_10 _ hr_10 (And.intro trivial (h_1_lay_9 (.ref 9) ps pr (xs_sI s_10 434 ((0 : Int32))) ((s_10.1 401)) ((s_10.1 402)) s_11 _ hr_11 (And.intro rfl hK))))⟩
        replace hf := mo_neg hf c_5_2
        cases hf
def xk_11_restore (C : mm_C) : Prop := ∀ (ps : Value) (pr : Value) (s : xs_S) (a0 : Int32) (v : Int32) (s2 : xs_S) (Q : mm_R), xf_11_restore s a0 = some (v, s2) → Q (some (.int v)) (xs_H (.ref 9) ps (.ref 9) pr s2) → C 259 [.ref 0, .int a0] (xs_H (.ref 9) ps (.ref 9) pr s) Q
-- 11_orNotThere
noncomputable def xf_11_orNotThere (a0 : Int32) : Option (Int32) :=
(if (0 : Int32) ≤ a0 then
some (a0)
else
some ((-2 : Int32)))
set_option maxHeartbeats 4000000 in
theorem xb_11_orNotThere {C : mm_C} {Q : mm_R}  {h : mm_H} (a0 : Int32) (v : Int32) (hf : xf_11_orNotThere a0 = some v) (hK : Q (some (.int v)) h) : mm_go C mm_Mk mm_Fk P_X11_orNotThere Q P_X11_orNotThere [(0, .int a0)] [] h 0 0 := by
  unfold xf_11_orNotThere at hf
  by_cases c_1 : (0 : Int32) ≤ a0
  · have hf := mo_pos hf c_1
    obtain rfl := Option.some.inj hf
    exact ⟨4, (And.intro (fun _ => hK) (fun q => absurd c_1 q))⟩
  · have hf := mo_neg hf c_1
    obtain rfl := Option.some.inj hf
    exact ⟨5, (And.intro (fun q => absurd q c_1) (fun _ => hK))⟩
def xk_11_orNotThere (C : mm_C) : Prop := ∀ (h : mm_H) (a0 : Int32) (v : Int32) (Q : mm_R), xf_11_orNotThere a0 = some v → Q (some (.int v)) h → C 268 [.int a0] h Q
-- 11_heldSlots
noncomputable def xf_11_heldSlots_j13 (s : xs_S) (v1 : Int32) (v2 : Int32) : Option ((Int32 × Int32 × xs_S) ⊕ ((Int32 × xs_S))) :=
some (.inl (v1, (v2 + (1 : Int32)), s))
set_option maxHeartbeats 4000000 in
theorem xb_11_heldSlots_j13 {C : mm_C} {Q : mm_R} {pt : Value} {ps : Value} {pg : Value} {pr : Value}  (s : xs_S) (v1 : Int32) (v2 : Int32) (r : (Int32 × Int32 × xs_S) ⊕ ((Int32 × xs_S))) (hf : xf_11_heldSlots_j13 s v1 v2 = some r) (hK : mo_sum (mo_c2 (fun y1 => (mo_c2 (fun y2 sy => mm_go C mm_Mk mm_Fk P_X11_heldSlots Q (P_X11_heldSlots.drop 4) [(0, .ref 0), (1, .int y1), (2, .int y2)] [] (xs_H pt ps pg pr sy) 0 0))))  (mo_c2 (fun y1 sy => mm_go C mm_Mk mm_Fk P_X11_heldSlots Q (P_X11_heldSlots.drop 15) [(1, .int y1)] [] (xs_H pt ps pg pr sy) 0 0))  r) : mm_go C mm_Mk mm_Fk P_X11_heldSlots Q (P_X11_heldSlots.drop 13) [(0, .ref 0), (1, .int v1), (2, .int v2)] [] (xs_H pt ps pg pr s) 0 0 := by
  unfold xf_11_heldSlots_j13 at hf
  obtain rfl := Option.some.inj hf
  refine mm_adv 2 (cs' := P_X11_heldSlots.drop 4) (l' := [(2, .int (v2 + (1 : Int32))), (0, .ref 0), (1, .int v1)]) (st' := []) (h' := (xs_H pt ps pg pr s)) (bc' := 0) (bs' := 0) (fun n g => g) ?_
  exact mm_re (c := [(0, .ref 0), (1, .int v1), (2, .int (v2 + (1 : Int32)))]) hK rfl rfl
noncomputable def xf_11_heldSlots_l4  : (Int32 × Int32 × xs_S) → Option ((Int32 × Int32 × xs_S) ⊕ ((Int32 × xs_S))) := fun (w1, w2, s) =>
(if (3 : Int32) ≤ w2 then
some (.inr (w1, s))
else
((mo_ag 3 (s.2.1 116) w2).bind fun x_2 =>
(if x_2 = (0 : Int32) then
(xf_11_heldSlots_j13 (s) (w1) (w2))
else
(xf_11_heldSlots_j13 (s) ((w1 + (1 : Int32))) (w2)))))
set_option maxHeartbeats 4000000 in
theorem xb_11_heldSlots_l4 {C : mm_C} {Q : mm_R} {pt : Value} {ps : Value} {pg : Value} {pr : Value}   (t : Int32 × Int32 × xs_S) (x : (Int32 × xs_S)) (hl : mo_loop (xf_11_heldSlots_l4 ) t = some x) (hK : (mo_c2 (fun y1 sy => mm_go C mm_Mk mm_Fk P_X11_heldSlots Q (P_X11_heldSlots.drop 15) [(1, .int y1)] [] (xs_H pt ps pg pr sy) 0 0)) x) : (mo_c2 (fun y1 => (mo_c2 (fun y2 sy => mm_go C mm_Mk mm_Fk P_X11_heldSlots Q (P_X11_heldSlots.drop 4) [(0, .ref 0), (1, .int y1), (2, .int y2)] [] (xs_H pt ps pg pr sy) 0 0)))) t := by
  refine mo_loop_go (G := (mo_c2 (fun y1 => (mo_c2 (fun y2 sy => mm_go C mm_Mk mm_Fk P_X11_heldSlots Q (P_X11_heldSlots.drop 4) [(0, .ref 0), (1, .int y1), (2, .int y2)] [] (xs_H pt ps pg pr sy) 0 0)))) ) (K := (mo_c2 (fun y1 sy => mm_go C mm_Mk mm_Fk P_X11_heldSlots Q (P_X11_heldSlots.drop 15) [(1, .int y1)] [] (xs_H pt ps pg pr sy) 0 0)) ) ?_ t x hl hK
  intro t r hf hK
  obtain ⟨w1, w2, s⟩ := t
  unfold xf_11_heldSlots_l4 at hf
  by_cases c_1 : (3 : Int32) ≤ w2
  · have hf := mo_pos hf c_1
    obtain rfl := Option.some.inj hf
    refine mm_adv 3 (cs' := P_X11_heldSlots.drop 15) (l' := [(0, .ref 0), (1, .int w1), (2, .int w2)]) (st' := []) (h' := (xs_H pt ps pg pr s)) (bc' := 0) (bs' := 0) (fun n g => (And.intro (fun _ => g) (fun q => absurd c_1 q))) ?_
    exact mm_re (c := [(1, .int w1)]) hK rfl rfl
  · have hf := mo_neg hf c_1
    obtain ⟨x_2, hx_2, hf⟩ := mo_bind hf
    obtain ⟨hi_2, rfl⟩ := mo_ag_inv hx_2
    by_cases c_3 : ((s.2.1 116) (w2).toNatClampNeg) = (0 : Int32)
    · have hf := mo_pos hf c_3
      refine mm_adv 8 (cs' := P_X11_heldSlots.drop 13) (l' := [(0, .ref 0), (1, .int w1), (2, .int w2)]) (st' := []) (h' := (xs_H pt ps pg pr s)) (bc' := 0) (bs' := 0) (fun n g => (And.intro (fun q => absurd q c_1) (fun _ => (And.intro hi_2 (And.intro (fun _ => g) (fun q => absurd c_3 q)))))) ?_
      refine mm_re (l' := [(0, .ref 0), (1, .int w1), (2, .int w2)]) (c := [(0, .ref 0), (1, .int w1), (2, .int w2)]) ?_ rfl rfl
      exact xb_11_heldSlots_j13  s (w1) (w2) _ hf hK
    · have hf := mo_neg hf c_3
      refine mm_adv 9 (cs' := P_X11_heldSlots.drop 13) (l' := [(1, .int (w1 + (1 : Int32))), (0, .ref 0), (2, .int w2)]) (st' := []) (h' := (xs_H pt ps pg pr s)) (bc' := 0) (bs' := 0) (fun n g => (And.intro (fun q => absurd q c_1) (fun _ => (And.intro hi_2 (And.intro (fun q => absurd q c_3) (fun _ => g)))))) ?_
      refine mm_re (l' := [(0, .ref 0), (1, .int (w1 + (1 : Int32))), (2, .int w2)]) (c := [(0, .ref 0), (1, .int (w1 + (1 : Int32))), (2, .int w2)]) ?_ rfl rfl
      exact xb_11_heldSlots_j13  s ((w1 + (1 : Int32))) (w2) _ hf hK
noncomputable def xf_11_heldSlots (s : xs_S)  : Option (Int32 × xs_S) :=
((mo_loop (xf_11_heldSlots_l4 ) ((0 : Int32), (0 : Int32), s)).bind fun (e1_4, s_4) =>
some (e1_4, s_4))
set_option maxHeartbeats 4000000 in
theorem xb_11_heldSlots {C : mm_C} {Q : mm_R} {pt : Value} {ps : Value} {pg : Value} {pr : Value}  (s : xs_S)  (v : Int32) (s2 : xs_S) (hf : xf_11_heldSlots s = some (v, s2)) (hK : Q (some (.int v)) (xs_H pt ps pg pr s2)) : mm_go C mm_Mk mm_Fk P_X11_heldSlots Q P_X11_heldSlots [(0, .ref 0)] [] (xs_H pt ps pg pr s) 0 0 := by
  unfold xf_11_heldSlots at hf
  obtain ⟨x_4, hl_4, hf⟩ := mo_bind hf
  refine mm_adv 4 (cs' := P_X11_heldSlots.drop 4) (l' := [(2, .int (0 : Int32)), (1, .int (0 : Int32)), (0, .ref 0)]) (st' := []) (h' := (xs_H pt ps pg pr s)) (bc' := 0) (bs' := 0) (fun n g => g) ?_
  refine mm_re (l' := [(0, .ref 0), (1, .int (0 : Int32)), (2, .int (0 : Int32))]) (c := [(0, .ref 0), (1, .int (0 : Int32)), (2, .int (0 : Int32))]) ?_ rfl rfl
  refine xb_11_heldSlots_l4   ((0 : Int32), (0 : Int32), s) x_4 hl_4 ?_
  obtain ⟨e1_4, s_4⟩ := x_4
  obtain ⟨rfl, rfl⟩ := mo_pair hf
  exact ⟨2, hK⟩
def xk_11_heldSlots (C : mm_C) : Prop := ∀ (pt : Value) (ps : Value) (pg : Value) (pr : Value) (s : xs_S)  (v : Int32) (s2 : xs_S) (Q : mm_R), xf_11_heldSlots s = some (v, s2) → Q (some (.int v)) (xs_H pt ps pg pr s2) → C 267 [.ref 0] (xs_H pt ps pg pr s) Q
-- 11_count
noncomputable def xf_11_count (s : xs_S) (a0 : Int32) : Option (Int32 × xs_S) :=
(if a0 = (0 : Int32) then
some ((s.1 147), s)
else
(if a0 = (1 : Int32) then
some ((s.1 148), s)
else
(if a0 = (2 : Int32) then
((xf_11_slopeOf ((s.1 400))).bind fun v_2 =>
some (v_2, s))
else
(if a0 = (3 : Int32) then
((xf_11_turnOf ((s.1 400))).bind fun v_3 =>
some (v_3, s))
else
(if a0 = (4 : Int32) then
((xf_11_lastOf ((s.1 400))).bind fun v_4 =>
((xf_11_orNotThere (v_4)).bind fun v_5 =>
some (v_5, s)))
else
(if a0 = (5 : Int32) then
((xf_11_orNotThere ((s.1 401))).bind fun v_6 =>
some (v_6, s))
else
(if a0 = (6 : Int32) then
((xf_11_orNotThere ((s.1 402))).bind fun v_7 =>
some (v_7, s))
else
(if a0 = (7 : Int32) then
some ((s.1 403), s)
else
(if a0 = (8 : Int32) then
some ((s.1 17), s)
else
(if a0 = (9 : Int32) then
some ((s.1 434), s)
else
(if a0 = (10 : Int32) then
some ((s.1 1924), s)
else
(if a0 = (11 : Int32) then
((xf_11_heldSlots s ).bind fun (v_8, s_8) =>
some (v_8, s_8))
else
(if a0 = (12 : Int32) then
some ((s.1 404), s)
else
(if a0 = (13 : Int32) then
((xf_11_sayable s ).bind fun (v_9, s_9) =>
some (v_9, s_9))
else
some ((-1 : Int32), s)))))))))))))))
set_option maxHeartbeats 4000000 in
theorem xb_11_count {C : mm_C} {Q : mm_R} {ps : Value} {pr : Value} (h_11_slopeOf : xk_11_slopeOf C) (h_11_turnOf : xk_11_turnOf C) (h_11_lastOf : xk_11_lastOf C) (h_11_orNotThere : xk_11_orNotThere C) (h_11_heldSlots : xk_11_heldSlots C) (h_11_sayable : xk_11_sayable C) (s : xs_S) (a0 : Int32) (v : Int32) (s2 : xs_S) (hf : xf_11_count s a0 = some (v, s2)) (hK : Q (some (.int v)) (xs_H (.ref 9) ps (.ref 9) pr s2)) : mm_go C mm_Mk mm_Fk P_X11_count Q P_X11_count [(0, .ref 0), (1, .int a0)] [] (xs_H (.ref 9) ps (.ref 9) pr s) 0 0 := by
  unfold xf_11_count at hf
  by_cases c_1_0 : a0 = (0 : Int32)
  · have hf := mo_pos hf c_1_0
    obtain ⟨rfl, rfl⟩ := mo_pair hf
    exact ⟨6, (And.intro (fun _ => hK) (fun q => absurd c_1_0 q))⟩
  replace hf := mo_neg hf c_1_0
  by_cases c_1_1 : a0 = (1 : Int32)
  · have hf := mo_pos hf c_1_1
    obtain ⟨rfl, rfl⟩ := mo_pair hf
    exact ⟨6, (And.intro (fun q => absurd q c_1_0) (fun _ => (And.intro (fun _ => hK) (fun q => absurd c_1_1 q))))⟩
  replace hf := mo_neg hf c_1_1
  by_cases c_1_2 : a0 = (2 : Int32)
  · have hf := mo_pos hf c_1_2
    obtain ⟨v_2, hr_2, hf⟩ := mo_bind hf
    obtain ⟨rfl, rfl⟩ := mo_pair hf
    exact ⟨7, (And.intro (fun q => absurd q c_1_0) (fun _ => (And.intro (fun q => absurd q c_1_1) (fun _ => (And.intro (fun _ => (h_11_slopeOf _ ((s.1 400)) v_2 _ hr_2 hK)) (fun q => absurd c_1_2 q))))))⟩
  replace hf := mo_neg hf c_1_2
  by_cases c_1_3 : a0 = (3 : Int32)
  · have hf := mo_pos hf c_1_3
    obtain ⟨v_3, hr_3, hf⟩ := mo_bind hf
    obtain ⟨rfl, rfl⟩ := mo_pair hf
    exact ⟨7, (And.intro (fun q => absurd q c_1_0) (fun _ => (And.intro (fun q => absurd q c_1_1) (fun _ => (And.intro (fun q => absurd q c_1_2) (fun _ => (And.intro (fun _ => (h_11_turnOf _ ((s.1 400)) v_3 _ hr_3 hK)) (fun q => absurd c_1_3 q))))))))⟩
  replace hf := mo_neg hf c_1_3
  by_cases c_1_4 : a0 = (4 : Int32)
  · have hf := mo_pos hf c_1_4
    obtain ⟨v_4, hr_4, hf⟩ := mo_bind hf
    obtain ⟨v_5, hr_5, hf⟩ := mo_bind hf
    obtain ⟨rfl, rfl⟩ := mo_pair hf
    exact ⟨8, (And.intro (fun q => absurd q c_1_0) (fun _ => (And.intro (fun q => absurd q c_1_1) (fun _ => (And.intro (fun q => absurd q c_1_2) (fun _ => (And.intro (fun q => absurd q c_1_3) (fun _ => (And.intro (fun _ => (h_11_lastOf _ ((s.1 400)) v_4 _ hr_4 (h_11_orNotThere _ (v_4) v_5 _ hr_5 hK))) (fun q => absurd c_1_4 q))))))))))⟩
  replace hf := mo_neg hf c_1_4
  by_cases c_1_5 : a0 = (5 : Int32)
  · have hf := mo_pos hf c_1_5
    obtain ⟨v_6, hr_6, hf⟩ := mo_bind hf
    obtain ⟨rfl, rfl⟩ := mo_pair hf
    exact ⟨7, (And.intro (fun q => absurd q c_1_0) (fun _ => (And.intro (fun q => absurd q c_1_1) (fun _ => (And.intro (fun q => absurd q c_1_2) (fun _ => (And.intro (fun q => absurd q c_1_3) (fun _ => (And.intro (fun q => absurd q c_1_4) (fun _ => (And.intro (fun _ => (h_11_orNotThere _ ((s.1 401)) v_6 _ hr_6 hK)) (fun q => absurd c_1_5 q))))))))))))⟩
  replace hf := mo_neg hf c_1_5
  by_cases c_1_6 : a0 = (6 : Int32)
  · have hf := mo_pos hf c_1_6
    obtain ⟨v_7, hr_7, hf⟩ := mo_bind hf
    obtain ⟨rfl, rfl⟩ := mo_pair hf
    exact ⟨7, (And.intro (fun q => absurd q c_1_0) (fun _ => (And.intro (fun q => absurd q c_1_1) (fun _ => (And.intro (fun q => absurd q c_1_2) (fun _ => (And.intro (fun q => absurd q c_1_3) (fun _ => (And.intro (fun q => absurd q c_1_4) (fun _ => (And.intro (fun q => absurd q c_1_5) (fun _ => (And.intro (fun _ => (h_11_orNotThere _ ((s.1 402)) v_7 _ hr_7 hK)) (fun q => absurd c_1_6 q))))))))))))))⟩
  replace hf := mo_neg hf c_1_6
  by_cases c_1_7 : a0 = (7 : Int32)
  · have hf := mo_pos hf c_1_7
    obtain ⟨rfl, rfl⟩ := mo_pair hf
    exact ⟨6, (And.intro (fun q => absurd q c_1_0) (fun _ => (And.intro (fun q => absurd q c_1_1) (fun _ => (And.intro (fun q => absurd q c_1_2) (fun _ => (And.intro (fun q => absurd q c_1_3) (fun _ => (And.intro (fun q => absurd q c_1_4) (fun _ => (And.intro (fun q => absurd q c_1_5) (fun _ => (And.intro (fun q => absurd q c_1_6) (fun _ => (And.intro (fun _ => hK) (fun q => absurd c_1_7 q))))))))))))))))⟩
  replace hf := mo_neg hf c_1_7
  by_cases c_1_8 : a0 = (8 : Int32)
  · have hf := mo_pos hf c_1_8
    obtain ⟨rfl, rfl⟩ := mo_pair hf
    exact ⟨6, (And.intro (fun q => absurd q c_1_0) (fun _ => (And.intro (fun q => absurd q c_1_1) (fun _ => (And.intro (fun q => absurd q c_1_2) (fun _ => (And.intro (fun q => absurd q c_1_3) (fun _ => (And.intro (fun q => absurd q c_1_4) (fun _ => (And.intro (fun q => absurd q c_1_5) (fun _ => (And.intro (fun q => absurd q c_1_6) (fun _ => (And.intro (fun q => absurd q c_1_7) (fun _ => (And.intro (fun _ => hK) (fun q => absurd c_1_8 q))))))))))))))))))⟩
  replace hf := mo_neg hf c_1_8
  by_cases c_1_9 : a0 = (9 : Int32)
  · have hf := mo_pos hf c_1_9
    obtain ⟨rfl, rfl⟩ := mo_pair hf
    exact ⟨6, (And.intro (fun q => absurd q c_1_0) (fun _ => (And.intro (fun q => absurd q c_1_1) (fun _ => (And.intro (fun q => absurd q c_1_2) (fun _ => (And.intro (fun q => absurd q c_1_3) (fun _ => (And.intro (fun q => absurd q c_1_4) (fun _ => (And.intro (fun q => absurd q c_1_5) (fun _ => (And.intro (fun q => absurd q c_1_6) (fun _ => (And.intro (fun q => absurd q c_1_7) (fun _ => (And.intro (fun q => absurd q c_1_8) (fun _ => (And.intro (fun _ => hK) (fun q => absurd c_1_9 q))))))))))))))))))))⟩
  replace hf := mo_neg hf c_1_9
  by_cases c_1_10 : a0 = (10 : Int32)
  · have hf := mo_pos hf c_1_10
    obtain ⟨rfl, rfl⟩ := mo_pair hf
    exact ⟨6, (And.intro (fun q => absurd q c_1_0) (fun _ => (And.intro (fun q => absurd q c_1_1) (fun _ => (And.intro (fun q => absurd q c_1_2) (fun _ => (And.intro (fun q => absurd q c_1_3) (fun _ => (And.intro (fun q => absurd q c_1_4) (fun _ => (And.intro (fun q => absurd q c_1_5) (fun _ => (And.intro (fun q => absurd q c_1_6) (fun _ => (And.intro (fun q => absurd q c_1_7) (fun _ => (And.intro (fun q => absurd q c_1_8) (fun _ => (And.intro (fun q => absurd q c_1_9) (fun _ => (And.intro (fun _ => hK) (fun q => absurd c_1_10 q))))))))))))))))))))))⟩
  replace hf := mo_neg hf c_1_10
  by_cases c_1_11 : a0 = (11 : Int32)
  · have hf := mo_pos hf c_1_11
    obtain ⟨r_8, hr_8, hf⟩ := mo_bind hf
    obtain ⟨v_8, s_8⟩ := r_8
    obtain ⟨rfl, rfl⟩ := mo_pair hf
    exact ⟨5, (And.intro (fun q => absurd q c_1_0) (fun _ => (And.intro (fun q => absurd q c_1_1) (fun _ => (And.intro (fun q => absurd q c_1_2) (fun _ => (And.intro (fun q => absurd q c_1_3) (fun _ => (And.intro (fun q => absurd q c_1_4) (fun _ => (And.intro (fun q => absurd q c_1_5) (fun _ => (And.intro (fun q => absurd q c_1_6) (fun _ => (And.intro (fun q => absurd q c_1_7) (fun _ => (And.intro (fun q => absurd q c_1_8) (fun _ => (And.intro (fun q => absurd q c_1_9) (fun _ => (And.intro (fun q => absurd q c_1_10) (fun _ => (And.intro (fun _ => (h_11_heldSlots (.ref 9) ps (.ref 9) pr s  v_8 s_8 _ hr_8 hK)) (fun q => absurd c_1_11 q))))))))))))))))))))))))⟩
  replace hf := mo_neg hf c_1_11
  by_cases c_1_12 : a0 = (12 : Int32)
  · have hf := mo_pos hf c_1_12
    obtain ⟨rfl, rfl⟩ := mo_pair hf
    exact ⟨6, (And.intro (fun q => absurd q c_1_0) (fun _ => (And.intro (fun q => absurd q c_1_1) (fun _ => (And.intro (fun q => absurd q c_1_2) (fun _ => (And.intro (fun q => absurd q c_1_3) (fun _ => (And.intro (fun q => absurd q c_1_4) (fun _ => (And.intro (fun q => absurd q c_1_5) (fun _ => (And.intro (fun q => absurd q c_1_6) (fun _ => (And.intro (fun q => absurd q c_1_7) (fun _ => (And.intro (fun q => absurd q c_1_8) (fun _ => (And.intro (fun q => absurd q c_1_9) (fun _ => (And.intro (fun q => absurd q c_1_10) (fun _ => (And.intro (fun q => absurd q c_1_11) (fun _ => (And.intro (fun _ => hK) (fun q => absurd c_1_12 q))))))))))))))))))))))))))⟩
  replace hf := mo_neg hf c_1_12
  by_cases c_1_13 : a0 = (13 : Int32)
  · have hf := mo_pos hf c_1_13
    obtain ⟨r_9, hr_9, hf⟩ := mo_bind hf
    obtain ⟨v_9, s_9⟩ := r_9
    obtain ⟨rfl, rfl⟩ := mo_pair hf
    exact ⟨5, (And.intro (fun q => absurd q c_1_0) (fun _ => (And.intro (fun q => absurd q c_1_1) (fun _ => (And.intro (fun q => absurd q c_1_2) (fun _ => (And.intro (fun q => absurd q c_1_3) (fun _ => (And.intro (fun q => absurd q c_1_4) (fun _ => (And.intro (fun q => absurd q c_1_5) (fun _ => (And.intro (fun q => absurd q c_1_6) (fun _ => (And.intro (fun q => absurd q c_1_7) (fun _ => (And.intro (fun q => absurd q c_1_8) (fun _ => (And.intro (fun q => absurd q c_1_9) (fun _ => (And.intro (fun q => absurd q c_1_10) (fun _ => (And.intro (fun q => absurd q c_1_11) (fun _ => (And.intro (fun q => absurd q c_1_12) (fun _ => (And.intro (fun _ => (h_11_sayable (.ref 9) ps pr s  v_9 s_9 _ hr_9 hK)) (fun q => absurd c_1_13 q))))))))))))))))))))))))))))⟩
  replace hf := mo_neg hf c_1_13
  obtain ⟨rfl, rfl⟩ := mo_pair hf
  exact ⟨4, (And.intro (fun q => absurd q c_1_0) (fun _ => (And.intro (fun q => absurd q c_1_1) (fun _ => (And.intro (fun q => absurd q c_1_2) (fun _ => (And.intro (fun q => absurd q c_1_3) (fun _ => (And.intro (fun q => absurd q c_1_4) (fun _ => (And.intro (fun q => absurd q c_1_5) (fun _ => (And.intro (fun q => absurd q c_1_6) (fun _ => (And.intro (fun q => absurd q c_1_7) (fun _ => (And.intro (fun q => absurd q c_1_8) (fun _ => (And.intro (fun q => absurd q c_1_9) (fun _ => (And.intro (fun q => absurd q c_1_10) (fun _ => (And.intro (fun q => absurd q c_1_11) (fun _ => (And.intro (fun q => absurd q c_1_12) (fun _ => (And.intro (fun q => absurd q c_1_13) (fun _ => hK))))))))))))))))))))))))))))⟩
def xk_11_count (C : mm_C) : Prop := ∀ (ps : Value) (pr : Value) (s : xs_S) (a0 : Int32) (v : Int32) (s2 : xs_S) (Q : mm_R), xf_11_count s a0 = some (v, s2) → Q (some (.int v)) (xs_H (.ref 9) ps (.ref 9) pr s2) → C 260 [.ref 0, .int a0] (xs_H (.ref 9) ps (.ref 9) pr s) Q
-- 2_begin_25_9
noncomputable def xf_2_begin_25_9 (s : xs_S)  : Option (xs_S) :=
((xf_7_evenStanding_9 s ).bind fun (v_1, s_1) =>
((xf_7_fill_53178_26 (xs_sI (xs_sI (xs_sI (xs_sI (xs_sI s_1 400 (v_1)) 401 ((s_1.1 149))) 402 ((s_1.1 150))) 403 ((0 : Int32))) 404 ((0 : Int32))) ((0 : Int32))).bind fun s_2 =>
some s_2))
set_option maxHeartbeats 4000000 in
theorem xb_2_begin_25_9 {C : mm_C} {Q : mm_R} {pt : Value} {ps : Value} {pg : Value} {pr : Value} (h_7_evenStanding_9 : xk_7_evenStanding_9 C) (h_7_fill_53178_26 : xk_7_fill_53178_26 C) (s : xs_S)  (s2 : xs_S) (hf : xf_2_begin_25_9 s = some s2) (hK : Q (none) (xs_H pt ps pg pr s2)) : mm_go C mm_Mk mm_Fk P_X2_begin Q P_X2_begin [(0, .ref 25), (1, .ref 9)] [] (xs_H pt ps pg pr s) 0 0 := by
  unfold xf_2_begin_25_9 at hf
  obtain ⟨r_1, hr_1, hf⟩ := mo_bind hf
  obtain ⟨v_1, s_1⟩ := r_1
  obtain ⟨s_2, hr_2, hf⟩ := mo_bind hf
  obtain rfl := Option.some.inj hf
  exact ⟨23, (h_7_evenStanding_9 pt ps pg pr s  v_1 s_1 _ hr_1 (And.intro trivial (And.intro trivial (And.intro trivial (And.intro trivial (And.intro trivial (h_7_fill_53178_26 pt ps pg pr (xs_sI (xs_sI (xs_sI (xs_sI (xs_sI s_1 400 (v_1)) 401 ((s_1.1 149))) 402 ((s_1.1 150))) 403 ((0 : Int32))) 404 ((0 : Int32))) ((0 : Int32)) s_2 _ hr_2 hK)))))))⟩
def xk_2_begin_25_9 (C : mm_C) : Prop := ∀ (pt : Value) (ps : Value) (pg : Value) (pr : Value) (s : xs_S)  (s2 : xs_S) (Q : mm_R), xf_2_begin_25_9 s = some s2 → Q (none) (xs_H pt ps pg pr s2) → C 148 [.ref 25, .ref 9] (xs_H pt ps pg pr s) Q
-- 1_lay_9_p2n
noncomputable def xf_1_lay_9_p2n_j12 (s : xs_S) (v2 : Int32) (v3 : Int32) : Option (xs_S) :=
((xf_7_fill_53178_118 (xs_sI (xs_sI (xs_sI s 1873 (v2)) 1874 (v3)) 1875 (((s.1 1875) + (1 : Int32)))) ((-1 : Int32))).bind fun s_1 =>
some s_1)
set_option maxHeartbeats 4000000 in
theorem xb_1_lay_9_p2n_j12 {C : mm_C} {Q : mm_R} {pt : Value} {ps : Value} {pr : Value} (h_7_fill_53178_118 : xk_7_fill_53178_118 C) (s : xs_S) (v2 : Int32) (v3 : Int32) (s2 : xs_S) (hf : xf_1_lay_9_p2n_j12 s v2 v3 = some s2) (hK : Q (none) (xs_H pt ps (.ref 9) pr s2)) : mm_go C mm_Mk mm_Fk P_X1_lay Q (P_X1_lay.drop 12) [(0, .ref 117), (1, .ref 9), (2, .int v2), (3, .int v3)] [] (xs_H pt ps (.null) pr s) 0 0 := by
  unfold xf_1_lay_9_p2n_j12 at hf
  obtain ⟨s_1, hr_1, hf⟩ := mo_bind hf
  obtain rfl := Option.some.inj hf
  exact ⟨20, (And.intro trivial (And.intro trivial (And.intro trivial (And.intro trivial (h_7_fill_53178_118 pt ps (.ref 9) pr (xs_sI (xs_sI (xs_sI s 1873 (v2)) 1874 (v3)) 1875 (((s.1 1875) + (1 : Int32)))) ((-1 : Int32)) s_1 _ hr_1 hK)))))⟩
noncomputable def xf_1_lay_9_p2n (s : xs_S) (a1 : Int32) (a2 : Int32) : Option (xs_S) :=
(xf_1_lay_9_p2n_j12 (s) (a1) (a2))
set_option maxHeartbeats 4000000 in
theorem xb_1_lay_9_p2n {C : mm_C} {Q : mm_R} {pt : Value} {ps : Value} {pr : Value} (h_7_fill_53178_118 : xk_7_fill_53178_118 C) (s : xs_S) (a1 : Int32) (a2 : Int32) (s2 : xs_S) (hf : xf_1_lay_9_p2n s a1 a2 = some s2) (hK : Q (none) (xs_H pt ps (.ref 9) pr s2)) : mm_go C mm_Mk mm_Fk P_X1_lay Q P_X1_lay [(0, .ref 117), (1, .ref 9), (2, .int a1), (3, .int a2)] [] (xs_H pt ps (.null) pr s) 0 0 := by
  unfold xf_1_lay_9_p2n at hf
  refine mm_adv 3 (cs' := P_X1_lay.drop 12) (l' := [(0, .ref 117), (1, .ref 9), (2, .int a1), (3, .int a2)]) (st' := []) (h' := (xs_H pt ps (.null) pr s)) (bc' := 0) (bs' := 0) (fun n g => g) ?_
  refine mm_re (l' := [(0, .ref 117), (1, .ref 9), (2, .int a1), (3, .int a2)]) (c := [(0, .ref 117), (1, .ref 9), (2, .int a1), (3, .int a2)]) ?_ rfl rfl
  exact xb_1_lay_9_p2n_j12 h_7_fill_53178_118 s (a1) (a2) _ hf hK
def xk_1_lay_9_p2n (C : mm_C) : Prop := ∀ (pt : Value) (ps : Value) (pr : Value) (s : xs_S) (a1 : Int32) (a2 : Int32) (s2 : xs_S) (Q : mm_R), xf_1_lay_9_p2n s a1 a2 = some s2 → Q (none) (xs_H pt ps (.ref 9) pr s2) → C 137 [.ref 117, .ref 9, .int a1, .int a2] (xs_H pt ps (.null) pr s) Q
-- 11_beginAnew
noncomputable def xf_11_beginAnew_l15  : (Int32 × xs_S) → Option ((Int32 × xs_S) ⊕ ((xs_S))) := fun (w1, s) =>
(if (3 : Int32) ≤ w1 then
some (.inr (s))
else
(bif mo_in w1 3 then some (.inl ((w1 + (1 : Int32)), (xs_sA s 116 (upd (s.2.1 116) (w1).toNatClampNeg ((vp_nar .boolean (0 : Int32))))))) else none))
set_option maxHeartbeats 4000000 in
theorem xb_11_beginAnew_l15 {C : mm_C} {Q : mm_R} {ps : Value} {pr : Value} (h_2_begin_25_9 : xk_2_begin_25_9 C) (h_7_fill_53178_138 : xk_7_fill_53178_138 C) (h_1_lift : xk_1_lift C) (h_1_lay_9_p2n : xk_1_lay_9_p2n C)  (t : Int32 × xs_S) (x : (xs_S)) (hl : mo_loop (xf_11_beginAnew_l15 ) t = some x) (hK : (fun sy => mm_go C mm_Mk mm_Fk P_X11_beginAnew Q (P_X11_beginAnew.drop 25) [(0, .ref 0)] [] (xs_H (.ref 9) ps (.ref 9) pr sy) 0 0) x) : (mo_c2 (fun y1 sy => mm_go C mm_Mk mm_Fk P_X11_beginAnew Q (P_X11_beginAnew.drop 15) [(0, .ref 0), (1, .int y1)] [] (xs_H (.ref 9) ps (.ref 9) pr sy) 0 0)) t := by
  refine mo_loop_go (G := (mo_c2 (fun y1 sy => mm_go C mm_Mk mm_Fk P_X11_beginAnew Q (P_X11_beginAnew.drop 15) [(0, .ref 0), (1, .int y1)] [] (xs_H (.ref 9) ps (.ref 9) pr sy) 0 0)) ) (K := (fun sy => mm_go C mm_Mk mm_Fk P_X11_beginAnew Q (P_X11_beginAnew.drop 25) [(0, .ref 0)] [] (xs_H (.ref 9) ps (.ref 9) pr sy) 0 0) ) ?_ t x hl hK
  intro t r hf hK
  obtain ⟨w1, s⟩ := t
  unfold xf_11_beginAnew_l15 at hf
  by_cases c_2 : (3 : Int32) ≤ w1
  · have hf := mo_pos hf c_2
    obtain rfl := Option.some.inj hf
    refine mm_adv 3 (cs' := P_X11_beginAnew.drop 25) (l' := [(0, .ref 0), (1, .int w1)]) (st' := []) (h' := (xs_H (.ref 9) ps (.ref 9) pr s)) (bc' := 0) (bs' := 0) (fun n g => (And.intro (fun _ => g) (fun q => absurd c_2 q))) ?_
    exact mm_re (c := [(0, .ref 0)]) hK rfl rfl
  · have hf := mo_neg hf c_2
    obtain ⟨hi_3, hf⟩ := mo_if hf
    obtain rfl := Option.some.inj hf
    refine mm_adv 10 (cs' := P_X11_beginAnew.drop 15) (l' := [(1, .int (w1 + (1 : Int32))), (0, .ref 0)]) (st' := []) (h' := (xs_H (.ref 9) ps (.ref 9) pr (xs_sA s 116 (upd (s.2.1 116) (w1).toNatClampNeg ((vp_nar .boolean (0 : Int32))))))) (bc' := 0) (bs' := 0) (fun n g => (And.intro (fun q => absurd q c_2) (fun _ => (And.intro hi_3 g)))) ?_
    exact mm_re (c := [(0, .ref 0), (1, .int (w1 + (1 : Int32)))]) hK rfl rfl
noncomputable def xf_11_beginAnew (s : xs_S)  : Option (xs_S) :=
((xf_2_begin_25_9 s ).bind fun s_1 =>
((mo_loop (xf_11_beginAnew_l15 ) ((0 : Int32), (xs_sI (xs_sI s_1 434 ((0 : Int32))) 1924 ((0 : Int32))))).bind fun s_4 =>
((xf_7_fill_53178_138 s_4 ((-1 : Int32))).bind fun s_5 =>
((xf_1_lift s_5 ).bind fun s_6 =>
((xf_1_lay_9_p2n s_6 ((s_6.1 401)) ((s_6.1 402))).bind fun s_7 =>
some s_7)))))
set_option maxHeartbeats 4000000 in
theorem xb_11_beginAnew {C : mm_C} {Q : mm_R} {ps : Value} {pr : Value} (h_2_begin_25_9 : xk_2_begin_25_9 C) (h_7_fill_53178_138 : xk_7_fill_53178_138 C) (h_1_lift : xk_1_lift C) (h_1_lay_9_p2n : xk_1_lay_9_p2n C) (s : xs_S)  (s2 : xs_S) (hf : xf_11_beginAnew s = some s2) (hK : Q (none) (xs_H (.ref 9) ps (.ref 9) pr s2)) : mm_go C mm_Mk mm_Fk P_X11_beginAnew Q P_X11_beginAnew [(0, .ref 0)] [] (xs_H (.ref 9) ps (.ref 9) pr s) 0 0 := by
  unfold xf_11_beginAnew at hf
  obtain ⟨s_1, hr_1, hf⟩ := mo_bind hf
  obtain ⟨x_4, hl_4, hf⟩ := mo_bind hf
  refine mm_adv 15 (cs' := P_X11_beginAnew.drop 15) (l' := [(1, .int (0 : Int32)), (0, .ref 0)]) (st' := []) (h' := (xs_H (.ref 9) ps (.ref 9) pr (xs_sI (xs_sI s_1 434 ((0 : Int32))) 1924 ((0 : Int32))))) (bc' := 0) (bs' := 0) (fun n g => (h_2_begin_25_9 (.ref 9) ps (.ref 9) pr s  s_1 _ hr_1 (And.intro trivial (And.intro trivial g)))) ?_
  refine mm_re (l' := [(0, .ref 0), (1, .int (0 : Int32))]) (c := [(0, .ref 0), (1, .int (0 : Int32))]) ?_ rfl rfl
  refine xb_11_beginAnew_l15 h_2_begin_25_9 h_7_fill_53178_138 h_1_lift h_1_lay_9_p2n  ((0 : Int32), (xs_sI (xs_sI s_1 434 ((0 : Int32))) 1924 ((0 : Int32)))) x_4 hl_4 ?_
  obtain ⟨s_4, rfl⟩ : ∃ q, q = x_4 := ⟨_, rfl⟩
  obtain ⟨s_5, hr_5, hf⟩ := mo_bind hf
  obtain ⟨s_6, hr_6, hf⟩ := mo_bind hf
  obtain ⟨s_7, hr_7, hf⟩ := mo_bind hf
  obtain rfl := Option.some.inj hf
  exact ⟨19, (h_7_fill_53178_138 (.ref 9) ps (.ref 9) pr s_4 ((-1 : Int32)) s_5 _ hr_5 (h_1_lift (.ref 9) ps pr s_5  s_6 _ hr_6 (h_1_lay_9_p2n (.ref 9) ps pr s_6 ((s_6.1 401)) ((s_6.1 402)) s_7 _ hr_7 hK)))⟩
def xk_11_beginAnew (C : mm_C) : Prop := ∀ (ps : Value) (pr : Value) (s : xs_S)  (s2 : xs_S) (Q : mm_R), xf_11_beginAnew s = some s2 → Q (none) (xs_H (.ref 9) ps (.ref 9) pr s2) → C 261 [.ref 0] (xs_H (.ref 9) ps (.ref 9) pr s) Q
