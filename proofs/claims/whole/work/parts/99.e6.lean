/-! reading: the reference's expression, step by step -/
noncomputable def mo_k {S X : Type} (step : S → Option (S ⊕ X)) : S ⊕ X → Option X
  | .inl s => mo_loop step s
  | .inr x => some x
theorem mo_loop_eq {S X : Type} {step : S → Option (S ⊕ X)} {s : S} : mo_loop step s = (step s).bind (mo_k step) := by
  cases h : step s with
  | none =>
    cases h2 : mo_loop step s with
    | none => rfl
    | some x =>
      obtain ⟨n, hn⟩ := mo_loop_iff.mp h2
      cases n with
      | zero => cases hn
      | succ n => simp [mo_it, h] at hn
  | some r =>
    cases r with
    | inl s2 => exact mo_loop_inl h
    | inr x => exact mo_loop_inr h
abbrev eX : Type := ms_S ⊕ ms_S ⊕ ms_S
/-- from where a unit is wanted -/
noncomputable def mB (m : ms_S) : Option eX := ((mo_loop (mf_expression_l13 0) m).bind fun s_9 => (mf_unit s_9).bind fun s_10 => (if (s_10.1 13) ≤ (0 : Int32) then ((mo_loop (mf_expression_l51 0) s_10).bind fun s_17 => mf_expression_j77 s_17 0) else some (.inr (.inl s_10)))).bind (mo_k (mf_expression_l8 0))
/-- from behind a unit -/
noncomputable def mA (m : ms_S) : Option eX := ((mo_loop (mf_expression_l51 0) m).bind fun s_17 => mf_expression_j77 s_17 0).bind (mo_k (mf_expression_l8 0))
theorem mB_of {m : ms_S} (h : m.1 13 = 0) : mo_loop (mf_expression_l8 0) ((1 : Int32), m) = mB m := by
  rw [mo_loop_eq]
  unfold mB mf_expression_l8
  show (if (1 : Int32) = 0 then _ else _ : Option _).bind _ = _
  rw [if_neg pu_10, if_pos h]
theorem mB_end {m : ms_S} (h : ¬ m.1 13 = 0) : mo_loop (mf_expression_l8 0) ((1 : Int32), m) = some (.inr (.inr m)) := by
  refine mo_loop_inr (wO_iff.mp ?_)
  unfold mf_expression_l8
  exact wO_neg pu_10 (wO_neg h (wO_some rfl))
/-- an opening bracket goes on the stack -/
theorem mB_open {m m2 : ms_S} (h : mf_expression_l13 0 m = some (.inl m2)) : mB m = mB m2 := by
  unfold mB
  rw [mo_loop_inl h]
theorem mB_unit {m m2 : ms_S} (h : mf_expression_l13 0 m = some (.inr m)) (h2 : mf_unit m = some m2) (h3 : m2.1 13 = 0) : mB m = mA m2 := by
  unfold mB mA
  rw [mo_loop_inr h]
  show ((mf_unit m).bind _).bind _ = _
  rw [h2]
  show (if (m2.1 13) ≤ (0 : Int32) then _ else _ : Option _).bind _ = _
  rw [if_pos (by rw [h3]; exact Int32.le_refl _)]
theorem mB_bad {f p : Nat} {m m2 : ms_S} (h : mf_expression_l13 0 m = some (.inr m)) (h2 : mf_unit m = some m2) (h3 : gFm2 f p m2) : mB m = some (.inl m2) := by
  unfold mB
  rw [mo_loop_inr h]
  show ((mf_unit m).bind _).bind _ = _
  rw [h2]
  show (if (m2.1 13) ≤ (0 : Int32) then _ else _ : Option _).bind _ = _
  rw [if_neg (by rw [h3.2.2.1]; exact nI_nle h3.1 (by have := h3.2.1; omega))]
  rfl
theorem m_unit_bad {f p : Nat} {m : ms_S} (h : gFm2 f p m) : mf_unit m = some m := by
  refine wO_iff.mp ?_
  unfold mf_unit mf_unit_j45
  exact wO_eq (m_is_bad h 2) (wO_pos rfl (wO_neg (by rw [h.2.2.1]; exact nI_ne0 h.1 (by have := h.2.1; omega)) (wO_eq (m_fail_bad h 1) (wO_some rfl))))
theorem mB_badstart {f p : Nat} {m : ms_S} (h : gFm2 f p m) : mB m = some (.inl m) := by
  refine mB_bad (wO_iff.mp ?_) (m_unit_bad h) h
  unfold mf_expression_l13
  exact wO_eq (m_is_bad h 6) (wO_pos rfl (wO_some rfl))
theorem mA_close {m m2 : ms_S} (h : mf_expression_l51 0 m = some (.inl m2)) : mA m = mA m2 := by
  unfold mA
  rw [mo_loop_inl h]
theorem mA_j {m : ms_S} (h : mf_expression_l51 0 m = some (.inr m)) : mA m = (mf_expression_j77 m 0).bind (mo_k (mf_expression_l8 0)) := by
  unfold mA
  rw [mo_loop_inr h]
  rfl
theorem mA_badstart {f p : Nat} {m : ms_S} (h : gFm2 f p m) : mA m = some (.inr (.inl m)) := by
  rw [mA_j (wO_iff.mp (by
    unfold mf_expression_l51
    exact wO_eq (m_is_bad h 7) (wO_pos rfl (wO_some rfl))))]
  have : mf_expression_j77 m 0 = some (.inr (.inr (.inl m))) := wO_iff.mp (by
    unfold mf_expression_j77 mf_expression_j96
    exact wO_eq (m_is_bad h 8) (wO_pos rfl (wO_eq (m_is_bad h 9) (wO_pos rfl (wO_eq (m_is_bad h 10) (wO_pos rfl (wO_eq (m_is_bad h 15) (wO_pos rfl (wO_pos rfl (wO_some rfl))))))))))
  rw [this]
  rfl
/-- both within an expression: at token t, k brackets open, z and c steps, st waiting -/
def gEs (K P V : Nat → Nat) (W : Nat → Int64) (N t k z c : Nat) (st : List Nat) (s : xs_S) (m : ms_S) : Prop := gTok K P V W N s m ∧ gHl N t s m ∧ s.1 321 = nI z ∧ z ≤ t ∧ m.1 12 = nI k ∧ k ≤ 6 ∧ m.1 39 = nI c ∧ gWt st m ∧ c + st.length ≤ 420 + t ∧ ∀ o, o ∈ st → o = 6 ∨ o = 8 ∨ o = 9 ∨ o = 10 ∨ o = 15
def gKe : List Nat := [11, 12, 13, 14, 39, 40, 41, 42, 43]
def xKei : List Nat := [100, 101, 321]
/-- how the reference's loop ends at a fault f at p (or is about to have one) -/
def gBx (K P V : Nat → Nat) (W : Nat → Int64) (N f p : Nat) (m0 : ms_S) (r : eX) : Prop := ∃ m2, msF gKe m0 m2 ∧ (∃ t2, t2 ≤ 400 ∧ m2.1 11 = nI t2) ∧ (((r = .inl m2 ∨ r = .inr (.inr m2)) ∧ gFm2 f p m2) ∨ (r = .inr (.inl m2) ∧ (∃ st c, gWt st m2 ∧ st.length ≤ 60 ∧ (∀ o, o ∈ st → o = 6 ∨ o = 8 ∨ o = 9 ∨ o = 10 ∨ o = 15) ∧ m2.1 39 = nI c ∧ c + st.length ≤ 840) ∧ (gFm2 f p m2 ∨ (f = 1 ∧ ∃ t k s, gTok K P V W N s m2 ∧ gHl N t s m2 ∧ P t = p ∧ m2.1 12 = nI k ∧ 1 ≤ k ∧ k ≤ 7))))
theorem gWt_push {o : Nat} {st : List Nat} {m : ms_S} {v : Int32} (h : gPil (st.map nI) (m.2.1 42)) (hv : v = nI o) : gPil ((o :: st).map nI) (upd (m.2.1 42) st.length v) := by
  subst hv
  have := gPil_push (a := nI o) h
  rw [List.length_map] at this
  exact this
theorem l13_open {K P V : Nat → Nat} {W : Nat → Int64} {N t k z c : Nat} {st : List Nat} {s : xs_S} {m : ms_S} (h : gEs K P V W N t k z c st s m) (hst : st.length ≤ 60) (hK : K t = 30) : (k < 6 ∧ t < 400 ∧ ∃ m2, mf_expression_l13 0 m = some (.inl m2) ∧ msF gKe m m2 ∧ m2.1 11 = nI (t + 1) ∧ m2.1 13 = 0 ∧ m2.1 12 = nI (k + 1) ∧ gWt (6 :: st) m2 ∧ m2.1 39 = nI c ∧ m2.2.1 40 = m.2.1 40 ∧ m2.2.1 41 = m.2.1 41) ∨ ((k = 6 ∨ t = 400) ∧ ∃ m2, mf_expression_l13 0 m = some (.inl m2) ∧ msF gKe m m2 ∧ gFm2 2 (P t) m2 ∧ ∃ t2, t2 ≤ 400 ∧ m2.1 11 = nI t2) := by
  obtain ⟨hT, hH, hz, hzt, h12, hk6, h39, hW, hc, ho⟩ := h
  have hN := hT.1
  have ht := hH.1
  have hi := m_is hT hH (show 30 < 34 by omega)
  rw [if_pos hK] at hi
  have e43 := hW.1
  -- behind goesOn
  have push : ∀ m1 : ms_S, m1.1 43 = nI st.length → m1.2.1 42 = m.2.1 42 → (bif mo_in (m1.1 43) 64 then some (Sum.inl (ms_sA (ms_sI m1 43 ((m1.1 43) + (1 : Int32))) 42 (upd (m1.2.1 42) (m1.1 43).toNatClampNeg (6 : Int32))) : ms_S ⊕ ms_S) else none) = some (.inl (ms_sA (ms_sI m1 43 (nI (st.length + 1))) 42 (upd (m.2.1 42) st.length (nI 6)))) := fun m1 q1 q2 => wO_iff.mp (by
    rw [q1]
    refine wO_in (k := st.length) rfl (by omega) (by omega) ?_
    rw [nI_clamp (by omega), nI_1, q2]
    exact wO_some rfl)
  by_cases c6 : k = 6
  · right
    refine ⟨Or.inl c6, ?_⟩
    obtain ⟨m1, e1, f1, g1, q11⟩ := m_fail (f := 2) hT hH (by omega) (by omega)
    have e12 : m1.1 12 = nI k := (f1.i 12 (by decide)).trans h12
    have g1b : gFm2 2 (P t) (ms_sI m1 12 (nI (k + 1))) := g1
    obtain ⟨m2, e2, f2, g2, t2, ht2, q2⟩ := m_goesOn_bad (t := t) g1b (by omega) (show (ms_sI m1 12 (nI (k + 1))).1 11 = nI t from q11.trans hH.2.2.2.1)
    have f3 : msF gKe m m2 := (f1.wk (by decide)).tr ((msF.sI (by decide)).tr (f2.wk (by decide)))
    have p43 : m2.1 43 = nI st.length := (f2.i 43 (by decide)).trans ((f1.i 43 (by decide)).trans e43)
    have p42 : m2.2.1 42 = m.2.1 42 := (f2.a 42 (by decide)).trans (f1.a 42 (by decide))
    refine ⟨ms_sA (ms_sI m2 43 (nI (st.length + 1))) 42 (upd (m.2.1 42) st.length (nI 6)), wO_iff.mp ?_, f3.tr ((msF.sI (by decide)).tr (msF.sA (by decide))), g2, t2, ht2, q2⟩
    unfold mf_expression_l13 mf_expression_j24
    refine wO_eq hi (wO_neg pu_10 (wO_pos (by rw [h12, c6]; rfl) (wO_eq e1 ?_)))
    rw [e12, nI_1]
    exact wO_eq e2 (wO_iff.mpr (push m2 p43 p42))
  · have hne : ¬ m.1 12 = (6 : Int32) := by
      rw [h12]
      exact fun e => c6 ((nI_eq (b := 6) (by omega) (by omega)).mp e)
    have hT2 : gTok K P V W N s (ms_sI m 12 (nI (k + 1))) := hT.mv rfl rfl rfl rfl rfl rfl rfl rfl
    have hH2 : gHl N t s (ms_sI m 12 (nI (k + 1))) := hH
    obtain ⟨m2, e2, f2, g2⟩ := m_goesOn hT2 hH2
    have f3 : msF gKe m m2 := (msF.sI (by decide)).tr (f2.wk (by decide))
    have p43 : m2.1 43 = nI st.length := (f2.i 43 (by decide)).trans e43
    have p42 : m2.2.1 42 = m.2.1 42 := f2.a 42 (by decide)
    have hstep : mf_expression_l13 0 m = some (.inl (ms_sA (ms_sI m2 43 (nI (st.length + 1))) 42 (upd (m.2.1 42) st.length (nI 6)))) := wO_iff.mp (by
      unfold mf_expression_l13 mf_expression_j24
      refine wO_eq hi (wO_neg pu_10 (wO_neg hne ?_))
      rw [h12, nI_1]
      exact wO_eq e2 (wO_iff.mpr (push m2 p43 p42)))
    have f4 : msF gKe m (ms_sA (ms_sI m2 43 (nI (st.length + 1))) 42 (upd (m.2.1 42) st.length (nI 6))) := f3.tr ((msF.sI (by decide)).tr (msF.sA (by decide)))
    rcases g2 with ⟨q1, q2, q3⟩ | ⟨q1, q2, q3⟩
    · left
      refine ⟨by omega, q1, _, hstep, f4, q2, q3, f2.i 12 (by decide), ⟨rfl, gWt_push hW.2 rfl⟩, (f2.i 39 (by decide)).trans h39, f2.a 40 (by decide), f2.a 41 (by decide)⟩
    · right
      exact ⟨Or.inr q1, _, hstep, f4, q2, 400, by omega, q3⟩
theorem l13_no {K P V : Nat → Nat} {W : Nat → Int64} {N t : Nat} {s : xs_S} {m : ms_S} (hT : gTok K P V W N s m) (hH : gHl N t s m) (hK : ¬ K t = 30) : mf_expression_l13 0 m = some (.inr m) := by
  have hi := m_is hT hH (show 30 < 34 by omega)
  rw [if_neg hK] at hi
  refine wO_iff.mp ?_
  unfold mf_expression_l13
  exact wO_eq hi (wO_pos rfl (wO_some rfl))
/-- the item of a token -/
def gTi (K V : Nat → Nat) (t : Nat) : gIt := if K t = 22 then (0, V t) else (1, K t - 12)
theorem m_unit {K P V : Nat → Nat} {W : Nat → Int64} {N t c : Nat} {s : xs_S} {m : ms_S} (hT : gTok K P V W N s m) (hH : gHl N t s m) (h39 : m.1 39 = nI c) (hc : c < 840) : ∃ m2, mf_unit m = some m2 ∧ msF gKe m m2 ∧ (((K t = 22 ∨ (12 ≤ K t ∧ K t ≤ 20)) ∧ gAy c [gTi K V t] m m2 ∧ m2.1 12 = m.1 12 ∧ m2.1 43 = m.1 43 ∧ m2.2.1 42 = m.2.1 42 ∧ ((t < 400 ∧ m2.1 11 = nI (t + 1) ∧ m2.1 13 = 0) ∨ (t = 400 ∧ gFm2 2 (P t) m2 ∧ m2.1 11 = nI 400))) ∨ (¬ (K t = 22 ∨ (12 ≤ K t ∧ K t ≤ 20)) ∧ gFm2 1 (P t) m2 ∧ m2.1 11 = nI t)) := by
  have hN := hT.1
  obtain ⟨h1, h2, h3, h4, h5⟩ := id hH
  obtain ⟨k1, k2, k3, k4, k5, k6, k7, k8⟩ := hT.2.2.2.2 t h1
  have hi := m_is hT hH (show 22 < 34 by omega)
  have go : ∀ a b : Nat, ∃ m1 m2, mf_emit m (nI a) (nI b) = some m1 ∧ mf_goesOn m1 = some m2 ∧ msF gKe m m2 ∧ gAy c [(a, b)] m m2 ∧ m2.1 12 = m.1 12 ∧ m2.1 43 = m.1 43 ∧ m2.2.1 42 = m.2.1 42 ∧ ((t < 400 ∧ m2.1 11 = nI (t + 1) ∧ m2.1 13 = 0) ∨ (t = 400 ∧ gFm2 2 (P t) m2 ∧ m2.1 11 = nI 400)) := fun a b => by
    obtain ⟨m1, e1, f1, a1⟩ := m_emit1 (a := a) (b := b) h39 hc
    have hT1 : gTok K P V W N s m1 := hT.mv rfl rfl rfl rfl (f1.a 5 (by decide)) (f1.a 6 (by decide)) (f1.a 7 (by decide)) (by rw [f1.2])
    have hH1 : gHl N t s m1 := ⟨h1, h2, h3, (f1.i 11 (by decide)).trans h4, (f1.i 13 (by decide)).trans h5⟩
    obtain ⟨m2, e2, f2, g2⟩ := m_goesOn hT1 hH1
    exact ⟨m1, m2, e1, e2, (f1.wk (by decide)).tr (f2.wk (by decide)), a1.mv (f2.i 39 (by decide)) (f2.a 40 (by decide)) (f2.a 41 (by decide)), (f2.i 12 (by decide)).trans (f1.i 12 (by decide)), (f2.i 43 (by decide)).trans (f1.i 43 (by decide)), (f2.a 42 (by decide)).trans (f1.a 42 (by decide)), g2⟩
  by_cases c22 : K t = 22
  · rw [if_pos c22] at hi
    obtain ⟨m1, m2, e1, e2, f2, a2, q12, q43, q42, g2⟩ := go 0 (V t)
    refine ⟨m2, wO_iff.mp ?_, f2, Or.inl ⟨Or.inl c22, by unfold gTi; rw [if_pos c22]; exact a2, q12, q43, q42, g2⟩⟩
    unfold mf_unit
    refine wO_eq hi (wO_neg pu_10 ?_)
    rw [h4]
    exact wO_agv (k := t) rfl (by omega) (by omega) (k7 c22).2.1 (wO_eq e1 (wO_eq e2 (wO_some rfl)))
  · rw [if_neg c22] at hi
    by_cases cv : 12 ≤ K t ∧ K t ≤ 20
    · have ek : gMk2 (K t) = K t + 20 := if_pos (by omega)
      obtain ⟨m1, m2, e1, e2, f2, a2, q12, q43, q42, g2⟩ := go 1 (K t - 12)
      refine ⟨m2, wO_iff.mp ?_, f2, Or.inl ⟨Or.inr cv, by unfold gTi; rw [if_neg c22]; exact a2, q12, q43, q42, g2⟩⟩
      unfold mf_unit
      refine wO_eq hi (wO_pos rfl (wO_pos h5 ?_))
      rw [h4]
      rw [ek] at k3
      refine wO_agv (k := t) rfl (by omega) (by omega) k3 (wO_neg (show ¬ nI (K t + 20) < (32 : Int32) from nI_nlt (b := 32) (by omega) (by omega)) (wO_agv (k := t) rfl (by omega) (by omega) k3 (wO_neg (show ¬ (40 : Int32) < nI (K t + 20) from nI_nlt (a := 40) (by omega) (by omega)) (wO_agv (k := t) rfl (by omega) (by omega) k3 ?_))))
      rw [show nI (K t + 20) - (32 : Int32) = nI (K t + 20 - 32) from pu_sub (b := 32) (by omega), show K t + 20 - 32 = K t - 12 by omega]
      exact wO_eq e1 (wO_eq e2 (wO_some rfl))
    · obtain ⟨m2, e2, f2, g2, q2⟩ := m_fail (f := 1) hT hH (by omega) (by omega)
      refine ⟨m2, wO_iff.mp ?_, f2.wk (by decide), Or.inr ⟨fun q => q.elim c22 cv, g2, q2.trans h4⟩⟩
      have small : gMk2 (K t) < 32 := by
        have : ∀ a, a < 34 → ¬ (12 ≤ a ∧ a ≤ 20) → gMk2 a < 32 := by decide
        exact this _ k1 cv
      unfold mf_unit mf_unit_j45
      refine wO_eq hi (wO_pos rfl (wO_pos h5 ?_))
      rw [h4]
      exact wO_agv (k := t) rfl (by omega) (by omega) k3 (wO_pos (show nI (gMk2 (K t)) < (32 : Int32) from nI_lt (b := 32) small (by omega)) (wO_eq e2 (wO_some rfl)))
