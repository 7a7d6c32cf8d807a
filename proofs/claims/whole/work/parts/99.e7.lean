/-! reading: behind a unit; the class with a fault -/
theorem gE_ops {st : List Nat} (h : ∀ o, o ∈ st → o = 6 ∨ o = 8 ∨ o = 9 ∨ o = 10 ∨ o = 15) : ∃ pd σ, st = pd ++ σ ∧ (∀ o, o ∈ pd → o = 10 ∨ o = 15 ∨ (false = false ∧ (o = 8 ∨ o = 9))) ∧ (σ = [] ∨ ∃ h τ, σ = h :: τ ∧ h < 100 ∧ (h = 6 ∨ (false = true ∧ (h = 8 ∨ h = 9)))) := by
  induction st with
  | nil => exact ⟨[], [], rfl, fun o ho => by simp at ho, Or.inl rfl⟩
  | cons a st ih =>
    by_cases c : a = 6
    · exact ⟨[], a :: st, rfl, fun o ho => by simp at ho, Or.inr ⟨a, st, rfl, by omega, Or.inl c⟩⟩
    · obtain ⟨pd, σ, e, h1, h2⟩ := ih (fun o ho => h o (List.mem_cons_of_mem _ ho))
      refine ⟨a :: pd, σ, by rw [e]; rfl, fun o ho => ?_, h2⟩
      rcases List.mem_cons.mp ho with q | q
      · subst q
        rcases h o (List.mem_cons_self ..) with q | q | q | q | q
        · exact absurd q c
        · exact Or.inr (Or.inr ⟨rfl, Or.inl q⟩)
        · exact Or.inr (Or.inr ⟨rfl, Or.inr q⟩)
        · exact Or.inl q
        · exact Or.inr (Or.inl q)
      · exact h1 o q
theorem A_close {K P V : Nat → Nat} {W : Nat → Int64} {N t k z c : Nat} {pd st : List Nat} {s : xs_S} {m : ms_S} (h : gEs K P V W N t k z c (pd ++ 6 :: st) s m) (hlen : (pd ++ 6 :: st).length ≤ 60) (hpd : ∀ o, o ∈ pd → o = 10 ∨ o = 15 ∨ o = 8 ∨ o = 9) (hK : K t = 31) (hk : 1 ≤ k) : ∃ m2, msF gKe m m2 ∧ m2.1 12 = nI (k - 1) ∧ gWt st m2 ∧ gAy c (pd.map gOpi) m m2 ∧ ((t < 400 ∧ mA m = mA m2 ∧ m2.1 11 = nI (t + 1) ∧ m2.1 13 = 0) ∨ (t = 400 ∧ mA m = some (.inr (.inl m2)) ∧ gFm2 2 (P t) m2 ∧ m2.1 11 = nI 400)) := by
  obtain ⟨hT, hH, hz, hzt, h12, hk6, h39, hW, hc, ho⟩ := h
  have hN := hT.1
  obtain ⟨h1, h2, h3, h4, h5⟩ := id hH
  have hi := m_is hT hH (show 31 < 34 by omega)
  rw [if_pos hK] at hi
  have hlp : (pd ++ 6 :: st).length = pd.length + (st.length + 1) := by rw [List.length_append]; rfl
  obtain ⟨m1, e1, f1, w1, a1⟩ := m_comesOut (b := false) (σ := 6 :: st) (pd := pd) (c := c) (Or.inr ⟨6, st, rfl, by omega, Or.inl rfl⟩) (fun o ho2 => by
    rcases hpd o ho2 with q | q | q | q
    · exact Or.inl q
    · exact Or.inr (Or.inl q)
    · exact Or.inr (Or.inr ⟨rfl, Or.inl q⟩)
    · exact Or.inr (Or.inr ⟨rfl, Or.inr q⟩)) hW hlen h39 (by omega)
  have q12 : m1.1 12 - (1 : Int32) = nI (k - 1) := by
    rw [f1.i 12 (by decide), h12]
    exact pu_sub (b := 1) hk
  have q43 : m1.1 43 - (1 : Int32) = nI st.length := by
    rw [w1.1]
    exact pu_sub (a := st.length + 1) (b := 1) (by omega)
  generalize hm2 : ms_sI (ms_sI m1 12 (nI (k - 1))) 43 (nI st.length) = m2
  have f2 : msF gKe m m2 := by
    rw [← hm2]
    exact (f1.wk (by decide)).tr ((msF.sI (by decide)).tr (msF.sI (by decide)))
  have i11 : m2.1 11 = nI t := by rw [← hm2]; exact (f1.i 11 (by decide)).trans h4
  have i13 : m2.1 13 = 0 := by rw [← hm2]; exact (f1.i 13 (by decide)).trans h5
  have i12 : m2.1 12 = nI (k - 1) := by rw [← hm2]; rfl
  have w2 : gWt st m2 := by
    rw [← hm2]
    exact ⟨rfl, gWt_tail w1.2⟩
  have a2 : gAy c (pd.map gOpi) m m2 := by
    rw [← hm2]
    exact a1.mv rfl rfl rfl
  have hT2 : gTok K P V W N s m2 := hT.mv rfl rfl rfl rfl (f2.a 5 (by decide)) (f2.a 6 (by decide)) (f2.a 7 (by decide)) (by rw [f2.2])
  obtain ⟨m3, e3, f3, g3⟩ := m_goesOn hT2 (show gHl N t s m2 from ⟨h1, h2, h3, i11, i13⟩)
  have step : mf_expression_l51 0 m = some (.inl m3) := wO_iff.mp (by
    unfold mf_expression_l51
    refine wO_eq hi (wO_neg pu_10 (wO_neg (by rw [h12]; exact nI_nle hk (by omega)) (wO_eq e1 ?_)))
    rw [q12, q43, hm2]
    exact wO_eq e3 (wO_some rfl))
  refine ⟨m3, f2.tr (f3.wk (by decide)), (f3.i 12 (by decide)).trans i12, ⟨(f3.i 43 (by decide)).trans w2.1, by rw [f3.a 42 (by decide)]; exact w2.2⟩, a2.mv (f3.i 39 (by decide)) (f3.a 40 (by decide)) (f3.a 41 (by decide)), ?_⟩
  rcases g3 with ⟨q1, q2, q3⟩ | ⟨q1, q2, q3⟩
  · exact Or.inl ⟨q1, mA_close step, q2, q3⟩
  · exact Or.inr ⟨q1, (mA_close step).trans (mA_badstart q2), q2, q3⟩
theorem A_end {K P V : Nat → Nat} {W : Nat → Int64} {N t k z c : Nat} {st : List Nat} {s : xs_S} {m : ms_S} (h : gEs K P V W N t k z c st s m) (hK : ¬ (25 ≤ K t ∧ K t ≤ 28)) (hc : ¬ K t = 31 ∨ k = 0) : mA m = some (.inr (.inl m)) := by
  obtain ⟨hT, hH, hz, hzt, h12, -⟩ := h
  have i7 := m_is hT hH (show 31 < 34 by omega)
  have i8 := m_is hT hH (show 25 < 34 by omega)
  have i9 := m_is hT hH (show 26 < 34 by omega)
  have i10 := m_is hT hH (show 27 < 34 by omega)
  have i15 := m_is hT hH (show 28 < 34 by omega)
  rw [if_neg (by omega)] at i8 i9 i10 i15
  have step : mf_expression_l51 0 m = some (.inr m) := wO_iff.mp (by
    unfold mf_expression_l51
    refine wO_eq i7 ?_
    by_cases c31 : K t = 31
    · rw [if_pos c31]
      have : k = 0 := hc.resolve_left (fun q => q c31)
      exact wO_neg pu_10 (wO_pos (by rw [h12, this]; exact Int32.le_refl _) (wO_some rfl))
    · rw [if_neg c31]
      exact wO_pos rfl (wO_some rfl))
  rw [mA_j step]
  have : mf_expression_j77 m 0 = some (.inr (.inr (.inl m))) := wO_iff.mp (by
    unfold mf_expression_j77 mf_expression_j96
    exact wO_eq i8 (wO_pos rfl (wO_eq i9 (wO_pos rfl (wO_eq i10 (wO_pos rfl (wO_eq i15 (wO_pos rfl (wO_pos rfl (wO_some rfl))))))))))
  rw [this]
  rfl
theorem A_op {K P V : Nat → Nat} {W : Nat → Int64} {N t k z c : Nat} {pd σ : List Nat} {s : xs_S} {m : ms_S} (b : Bool) (h : gEs K P V W N t k z c (pd ++ σ) s m) (hlen : (pd ++ σ).length ≤ 59) (hK : (b = false ∧ (K t = 25 ∨ K t = 26)) ∨ (b = true ∧ (K t = 27 ∨ K t = 28))) (hσ : σ = [] ∨ ∃ h τ, σ = h :: τ ∧ h < 100 ∧ (h = 6 ∨ (b = true ∧ (h = 8 ∨ h = 9)))) (hpd : ∀ o, o ∈ pd → o = 10 ∨ o = 15 ∨ (b = false ∧ (o = 8 ∨ o = 9))) : ∃ m2, msF gKe m m2 ∧ m2.1 12 = nI k ∧ gWt (gMk2 (K t) :: σ) m2 ∧ gAy c (pd.map gOpi) m m2 ∧ ((t < 400 ∧ mA m = mB m2 ∧ m2.1 11 = nI (t + 1) ∧ m2.1 13 = 0) ∨ (t = 400 ∧ mA m = some (.inr (.inr m2)) ∧ gFm2 2 (P t) m2 ∧ m2.1 11 = nI 400)) := by
  obtain ⟨hT, hH, hz, hzt, h12, hk6, h39, hW, hc, ho⟩ := h
  have hN := hT.1
  obtain ⟨h1, h2, h3, h4, h5⟩ := id hH
  have i7 := m_is hT hH (show 31 < 34 by omega)
  have i8 := m_is hT hH (show 25 < 34 by omega)
  have i9 := m_is hT hH (show 26 < 34 by omega)
  have i10 := m_is hT hH (show 27 < 34 by omega)
  have i15 := m_is hT hH (show 28 < 34 by omega)
  rw [if_neg (by omega)] at i7
  have hlp : (pd ++ σ).length = pd.length + σ.length := List.length_append ..
  obtain ⟨m1, e1, f1, w1, a1⟩ := m_comesOut (b := b) (σ := σ) (pd := pd) (c := c) hσ hpd hW (by omega) h39 (by omega)
  have k3 : m1.2.1 5 t = nI (gMk2 (K t)) := by rw [f1.a 5 (by decide)]; exact (hT.2.2.2.2 t h1).2.2.1
  have i11 : m1.1 11 = nI t := (f1.i 11 (by decide)).trans h4
  generalize hm2 : ms_sA (ms_sI m1 43 (nI (σ.length + 1))) 42 (upd (m1.2.1 42) σ.length (nI (gMk2 (K t)))) = m2
  have f2 : msF gKe m m2 := by
    rw [← hm2]
    exact (f1.wk (by decide)).tr ((msF.sI (by decide)).tr (msF.sA (by decide)))
  have w2 : gWt (gMk2 (K t) :: σ) m2 := by
    rw [← hm2]
    exact ⟨rfl, gWt_push w1.2 rfl⟩
  have a2 : gAy c (pd.map gOpi) m m2 := by
    rw [← hm2]
    exact a1.mv rfl rfl rfl
  have j11 : m2.1 11 = nI t := by rw [← hm2]; exact i11
  have j13 : m2.1 13 = 0 := by rw [← hm2]; exact (f1.i 13 (by decide)).trans h5
  have j12 : m2.1 12 = nI k := by rw [← hm2]; exact (f1.i 12 (by decide)).trans h12
  have hT2 : gTok K P V W N s m2 := hT.mv rfl rfl rfl rfl (f2.a 5 (by decide)) (f2.a 6 (by decide)) (f2.a 7 (by decide)) (by rw [f2.2])
  obtain ⟨m3, e3, f3, g3⟩ := m_goesOn hT2 (show gHl N t s m2 from ⟨h1, h2, h3, j11, j13⟩)
  have j122 : wO (mf_expression_j122 m 0 1 (bif b then 1 else 0)) (fun q => q = .inl (1, m3)) := by
    unfold mf_expression_j122
    refine wO_eq e1 ?_
    rw [i11, w1.1]
    refine wO_agv (k := t) rfl (by omega) (by omega) k3 (wO_in (k := σ.length) rfl (by omega) (by omega) ?_)
    rw [nI_clamp (by omega), nI_1, hm2]
    exact wO_eq e3 (wO_some rfl)
  have step : mf_expression_l51 0 m = some (.inr m) := wO_iff.mp (by
    unfold mf_expression_l51
    exact wO_eq i7 (wO_pos rfl (wO_some rfl)))
  have j96 : wO (mf_expression_j96 m 0 1) (fun q => q = .inl (1, m3)) := by
    unfold mf_expression_j96 mf_expression_j119
    refine wO_neg pu_10 (wO_eq i10 ?_)
    rcases hK with ⟨hb, q⟩ | ⟨hb, q⟩
    · subst hb
      rw [if_neg (by omega)]
      refine wO_pos rfl (wO_eq i15 ?_)
      rw [if_neg (by omega)]
      exact wO_pos rfl j122
    · subst hb
      by_cases q27 : K t = 27
      · rw [if_pos q27]
        exact wO_neg pu_10 j122
      · rw [if_neg q27]
        refine wO_pos rfl (wO_eq i15 ?_)
        rw [if_pos (by omega)]
        exact wO_neg pu_10 j122
  have j77 : mf_expression_j77 m 0 = some (.inl (1, m3)) := wO_iff.mp (by
    unfold mf_expression_j77 mf_expression_j93
    refine wO_eq i8 ?_
    by_cases q25 : K t = 25
    · rw [if_pos q25]
      exact wO_neg pu_10 j96
    · rw [if_neg q25]
      refine wO_pos rfl (wO_eq i9 ?_)
      by_cases q26 : K t = 26
      · rw [if_pos q26]
        exact wO_neg pu_10 j96
      · rw [if_neg q26]
        refine wO_pos rfl (wO_eq i10 ?_)
        by_cases q27 : K t = 27
        · rw [if_pos q27]
          exact wO_neg pu_10 j96
        · rw [if_neg q27]
          refine wO_pos rfl (wO_eq i15 ?_)
          rw [if_pos (by omega)]
          exact wO_neg pu_10 j96)
  have am : mA m = mo_loop (mf_expression_l8 0) (1, m3) := by
    rw [mA_j step, j77]
    rfl
  refine ⟨m3, f2.tr (f3.wk (by decide)), (f3.i 12 (by decide)).trans j12, ⟨(f3.i 43 (by decide)).trans w2.1, by rw [f3.a 42 (by decide)]; exact w2.2⟩, a2.mv (f3.i 39 (by decide)) (f3.a 40 (by decide)) (f3.a 41 (by decide)), ?_⟩
  rcases g3 with ⟨q1, q2, q3⟩ | ⟨q1, q2, q3⟩
  · exact Or.inl ⟨q1, am.trans (mB_of q3), q2, q3⟩
  · exact Or.inr ⟨q1, am.trans (mB_end (by rw [q2.2.2.1]; exact nI_ne0 (by omega) (by omega))), q2, q3⟩
/-- the class with a fault: nothing recurs, nothing is taken -/
def gXb (P : Nat → Nat) (N f p : Nat) (s : xs_S) : Prop := gFx P N f p s ∧ gEm1 s ∧ ∃ C, N < C ∧ C ≤ 402 ∧ s.1 21 = nI C
theorem x_value_any {s : xs_S} {t C : Nat} (ht : t < C) (hC : C ≤ 402) (h1 : s.1 21 = nI C) (h2 : s.1 100 = nI t) : xf_6_value s = some (s.2.2.1 5 t, s) := by
  refine wO_iff.mp ?_
  unfold xf_6_value
  rw [h1, h2]
  exact wO_neg (nI_ge ht (by omega)) (wO_al (k := t) rfl (by omega) (by omega) (wO_some rfl))
theorem gXb.mv {P : Nat → Nat} {N f p : Nat} {s t : xs_S} (h : gXb P N f p s) (hF : xsF [321] [21] s t) (hE : gEm1 t) : gXb P N f p t := by
  obtain ⟨⟨h1, h2, h3, q, h4, h5, h6⟩, -, C, c1, c2, c3⟩ := h
  exact ⟨⟨h1, h2, (hF.1 101 (by decide)).trans h3, q, h4, (hF.1 100 (by decide)).trans h5, h6⟩, hE, C, c1, c2, (hF.1 21 (by decide)).trans c3⟩
theorem x_unit_bad {P : Nat → Nat} {N f p : Nat} {s : xs_S} {rec : xs_S → Int32 → Option xs_S} {a : Int32} (h : gXb P N f p s) : ∃ s2, xf_6_unit rec s a = some s2 ∧ xsF [321] [21] s s2 ∧ gXb P N f p s2 := by
  obtain ⟨hF, hE, C, c1, c2, c3⟩ := id h
  obtain ⟨-, -, -, q, q1, q2, -⟩ := id hF
  obtain ⟨s2, e2, f2, g2⟩ := x_emit_any (v := (s.2.2.1 5 q).toInt32) hE
  refine ⟨s2, wO_iff.mp ?_, f2, h.mv f2 g2⟩
  unfold xf_6_unit xf_6_unit_j47
  refine wO_eq (x_kind_bad hF) (wO_neg (by decide) (wO_neg (by decide) (wO_pos (by decide) ?_)))
  exact wO_eq (x_value_any (by omega) c2 c3 q2) (wO_eq (x_take_bad hF 22) (wO_eq e2 (wO_some rfl)))
theorem x_product_bad {P : Nat → Nat} {N f p : Nat} {s : xs_S} {rec : xs_S → Int32 → Option xs_S} {a : Int32} (h : gXb P N f p s) : ∃ s2, xf_6_product rec s a = some s2 ∧ xsF [321] [21] s s2 ∧ gXb P N f p s2 := by
  obtain ⟨s1, e1, f1, g1⟩ := x_unit_bad (rec := rec) (a := a) h
  refine ⟨s1, wO_iff.mp ?_, f1, g1⟩
  unfold xf_6_product
  refine wO_eq e1 (wO_eq (x := s1) (mo_loop_inr (wO_iff.mp ?_)) (wO_some rfl))
  unfold xf_6_product_l5
  exact wO_neg (by decide) (wO_eq (x_kind_bad g1.1) (wO_neg (by decide) (wO_eq (x_kind_bad g1.1) (wO_neg (by decide) (wO_some rfl)))))
theorem x_sum_bad {P : Nat → Nat} {N f p n : Nat} {s : xs_S} {a : Int32} (h : gXb P N f p s) : ∃ s2, xf_6_sum (n + 1) s a = some s2 ∧ xsF [321] [21] s s2 ∧ gXb P N f p s2 := by
  obtain ⟨s1, e1, f1, g1⟩ := x_product_bad (rec := xf_6_sum n) (a := a) h
  refine ⟨s1, wO_iff.mp ?_, f1, g1⟩
  show wO (xg_6_sum (xf_6_sum n) s a) _
  unfold xg_6_sum
  refine wO_eq e1 (wO_eq (x := s1) (mo_loop_inr (wO_iff.mp ?_)) (wO_some rfl))
  unfold xg_6_sum_l5
  exact wO_neg (by decide) (wO_eq (x_kind_bad g1.1) (wO_neg (by decide) (wO_eq (x_kind_bad g1.1) (wO_neg (by decide) (wO_some rfl)))))
