/-! the reference's new beginning -/
theorem m_begins {lv : Nat} {m : ms_S} (hlv : lv ≤ 1) (h18 : m.1 18 = nI lv) : ∃ m2, mf_begins m = some m2 ∧ msF [48, 49, 50] m m2 ∧ m2.2.1 48 0 = m.2.1 29 lv ∧ m2.2.1 48 1 = 0 ∧ m2.2.1 48 2 = 6 ∧ m2.2.1 48 3 = m.2.1 27 lv ∧ m2.2.1 48 4 = m.2.1 28 lv ∧ ∀ i, 5 ≤ i → i < 12 → m2.2.1 48 i = 0 := by
  have key : ∀ n w, n + w = 12 → ∀ q : ms_S, msF [48] m q → (∀ i, i < w → q.2.1 48 i = 0) → ∃ m2, mo_loop mf_begins_l2 (nI w, q) = some m2 ∧ msF [48] m m2 ∧ ∀ i, i < 12 → m2.2.1 48 i = 0 := by
    intro n
    induction n with
    | zero =>
      intro w hw q h1 h2
      have hw : w = 12 := by omega
      subst hw
      refine ⟨q, mo_loop_inr (wO_iff.mp ?_), h1, h2⟩
      unfold mf_begins_l2
      exact wO_pos (by decide) (wO_some rfl)
    | succ n ih =>
      intro w hw q h1 h2
      have st : mf_begins_l2 (nI w, q) = some (.inl (nI (w + 1), ms_sA q 48 (upd (q.2.1 48) w 0))) := by
        refine wO_iff.mp ?_
        unfold mf_begins_l2
        refine wO_neg (show ¬ nI 12 ≤ nI w from nI_ge (by omega) (by omega)) (wO_in (k := w) rfl (by omega) (by omega) ?_)
        rw [nI_clamp (by omega), nI_1]
        exact wO_some rfl
      rw [mo_loop_inl st]
      refine ih (w + 1) (by omega) _ (h1.tr (msF.sA (by decide))) (fun i hi => ?_)
      show upd (q.2.1 48) w 0 i = 0
      by_cases e : i = w
      · rw [e, upd_eq]
      · rw [upd_ne e]
        exact h2 i (by omega)
  obtain ⟨m1, e1, f1, g1⟩ := key 12 0 rfl m msF.rf (fun i hi => by omega)
  have e1 : mo_loop mf_begins_l2 ((0 : Int32), m) = some m1 := e1
  have k18 : m1.1 18 = nI lv := (f1.i 18 (by decide)).trans h18
  refine ⟨ms_sA (ms_sI (ms_sI (ms_sA m1 48 (upd (upd (upd (m1.2.1 48) 0 (m.2.1 29 lv)) 1 0) 2 6)) 49 (m.2.1 30 lv)) 50 0) 48 (upd (upd (upd (upd (upd (m1.2.1 48) 0 (m.2.1 29 lv)) 1 0) 2 6) 3 (m.2.1 27 lv)) 4 (m.2.1 28 lv)), wO_iff.mp ?_, ?_, ?_, ?_, ?_, ?_, ?_, fun i h5 h12 => ?_⟩
  · unfold mf_begins
    refine wO_eq e1 (wO_eq (x := ms_sA m1 48 (upd (upd (upd (m1.2.1 48) 0 (m.2.1 29 lv)) 1 0) 2 6)) (wO_iff.mp ?_) ?_)
    · unfold mf_setsRow
      refine wO_agv (k := lv) (v := m.2.1 29 lv) k18 (by omega) (by omega) (by rw [f1.a 29 (by decide)]) (wO_some rfl)
    · refine wO_agv (k := lv) (v := m.2.1 27 lv) k18 (by omega) (by omega) ?_ (wO_agv (k := lv) (v := m.2.1 28 lv) k18 (by omega) (by omega) ?_ (wO_agv (k := lv) (v := m.2.1 30 lv) k18 (by omega) (by omega) ?_ (wO_some rfl)))
      · show m1.2.1 27 lv = _
        rw [f1.a 27 (by decide)]
      · show m1.2.1 28 lv = _
        rw [f1.a 28 (by decide)]
      · show m1.2.1 30 lv = _
        rw [f1.a 30 (by decide)]
  · exact (f1.wk (by decide)).tr ((msF.sA (by decide)).tr ((msF.sI (by decide)).tr ((msF.sI (by decide)).tr (msF.sA (by decide)))))
  · rfl
  · rfl
  · rfl
  · rfl
  · rfl
  · show upd (upd (upd (upd (upd (m1.2.1 48) 0 _) 1 0) 2 6) 3 _) 4 _ i = 0
    rw [upd_ne (by omega), upd_ne (by omega), upd_ne (by omega), upd_ne (by omega), upd_ne (by omega)]
    exact g1 i h12
theorem m_keepsR2 {m : ms_S} : ∃ m2, mf_keepsRow m = some m2 ∧ msF [47] m m2 ∧ ∀ i, i < 12 → m2.2.1 47 i = m.2.1 48 i := by
  have key : ∀ n w, n + w = 12 → ∀ q : ms_S, msF [47] m q → (∀ i, i < w → q.2.1 47 i = m.2.1 48 i) → ∃ m2, mo_loop mf_keepsRow_l2 (nI w, q) = some m2 ∧ msF [47] m m2 ∧ ∀ i, i < 12 → m2.2.1 47 i = m.2.1 48 i := by
    intro n
    induction n with
    | zero =>
      intro w hw q h1 h2
      have hw : w = 12 := by omega
      subst hw
      refine ⟨q, mo_loop_inr (wO_iff.mp ?_), h1, h2⟩
      unfold mf_keepsRow_l2
      exact wO_pos (by decide) (wO_some rfl)
    | succ n ih =>
      intro w hw q h1 h2
      have st : mf_keepsRow_l2 (nI w, q) = some (.inl (nI (w + 1), ms_sA q 47 (upd (q.2.1 47) w (m.2.1 48 w)))) := by
        refine wO_iff.mp ?_
        unfold mf_keepsRow_l2
        refine wO_neg (show ¬ nI 12 ≤ nI w from nI_ge (by omega) (by omega)) (wO_agv (k := w) (v := m.2.1 48 w) rfl (by omega) (by omega) (by rw [h1.a 48 (by decide)]) (wO_in (k := w) rfl (by omega) (by omega) ?_))
        rw [nI_clamp (by omega), nI_1]
        exact wO_some rfl
      rw [mo_loop_inl st]
      refine ih (w + 1) (by omega) _ (h1.tr (msF.sA (by decide))) (fun i hi => ?_)
      show upd (q.2.1 47) w (m.2.1 48 w) i = _
      by_cases e : i = w
      · rw [e, upd_eq]
      · rw [upd_ne e]
        exact h2 i (by omega)
  obtain ⟨m2, e2, f2, g2⟩ := key 12 0 rfl m msF.rf (fun i hi => by omega)
  refine ⟨m2, wO_iff.mp ?_, f2, g2⟩
  unfold mf_keepsRow
  exact wO_eq e2 (wO_some rfl)
theorem m_l115 {m : ms_S} : ∃ m2, mo_loop mf_read_l115 ((0 : Int32), m) = some m2 ∧ msF [70] m m2 ∧ ∀ i, i < 3 → m2.2.1 70 i = 0 := by
  have key : ∀ n w, n + w = 3 → ∀ q : ms_S, msF [70] m q → (∀ i, i < w → q.2.1 70 i = 0) → ∃ m2, mo_loop mf_read_l115 (nI w, q) = some m2 ∧ msF [70] m m2 ∧ ∀ i, i < 3 → m2.2.1 70 i = 0 := by
    intro n
    induction n with
    | zero =>
      intro w hw q h1 h2
      have hw : w = 3 := by omega
      subst hw
      refine ⟨q, mo_loop_inr (wO_iff.mp ?_), h1, h2⟩
      unfold mf_read_l115
      exact wO_pos (by decide) (wO_some rfl)
    | succ n ih =>
      intro w hw q h1 h2
      have st : mf_read_l115 (nI w, q) = some (.inl (nI (w + 1), ms_sA q 70 (upd (q.2.1 70) w 0))) := by
        refine wO_iff.mp ?_
        unfold mf_read_l115
        refine wO_neg (show ¬ nI 3 ≤ nI w from nI_ge (by omega) (by omega)) (wO_in (k := w) rfl (by omega) (by omega) ?_)
        rw [nI_clamp (by omega), nI_1]
        exact wO_some rfl
      rw [mo_loop_inl st]
      refine ih (w + 1) (by omega) _ (h1.tr (msF.sA (by decide))) (fun i hi => ?_)
      show upd (q.2.1 70) w 0 i = 0
      by_cases e : i = w
      · rw [e, upd_eq]
      · rw [upd_ne e]
        exact h2 i (by omega)
  obtain ⟨m2, e2, f2, g2⟩ := key 3 0 rfl m msF.rf (fun i hi => by omega)
  exact ⟨m2, e2, f2, g2⟩
/-- the tape copied -/
theorem gSb8_nar : ∀ b, b < 256 → vp_nar .byte (gSb8 b) = gSb8 b := by decide +kernel
theorem m_copy {B : Nat → Nat} {z : Nat} {m : ms_S} (hz : z ≤ 2000) (h2 : m.1 2 = nI z) (hB : ∀ i, i < z → B i < 256 ∧ m.2.1 1 i = gSb8 (B i)) : ∃ m2, mo_loop mf_read_l6 ((0 : Int32), ms_sI m 4 (m.1 2)) = some m2 ∧ msF [3, 4] m m2 ∧ gBz B z m2 := by
  generalize hm0 : ms_sI m 4 (m.1 2) = m0
  have f0 : msF [3, 4] m m0 := by rw [← hm0]; exact msF.sI (by decide)
  have k4 : m0.1 4 = nI z := by rw [← hm0]; exact h2
  have key : ∀ n w, n + w = z → ∀ q : ms_S, msF [3] m0 q → (∀ i, i < w → q.2.1 3 i = gSb8 (B i)) → ∃ m2, mo_loop mf_read_l6 (nI w, q) = some m2 ∧ msF [3] m0 m2 ∧ ∀ i, i < z → m2.2.1 3 i = gSb8 (B i) := by
    intro n
    induction n with
    | zero =>
      intro w hw q h1 h3
      have hw : w = z := by omega
      subst hw
      refine ⟨q, mo_loop_inr (wO_iff.mp ?_), h1, h3⟩
      unfold mf_read_l6
      exact wO_pos (by rw [h1.i 4 (by decide), k4]; exact nI_le (Nat.le_refl _) (by omega)) (wO_some rfl)
    | succ n ih =>
      intro w hw q h1 h3
      have st : mf_read_l6 (nI w, q) = some (.inl (nI (w + 1), ms_sA q 3 (upd (q.2.1 3) w (gSb8 (B w))))) := by
        refine wO_iff.mp ?_
        unfold mf_read_l6
        refine wO_neg (by rw [h1.i 4 (by decide), k4]; exact nI_ge (by omega) (by omega)) (wO_agv (k := w) (v := gSb8 (B w)) rfl (by omega) (by omega) ?_ (wO_in (k := w) rfl (by omega) (by omega) ?_))
        · rw [h1.a 1 (by decide), f0.a 1 (by decide)]
          exact (hB w (by omega)).2
        · rw [nI_clamp (by omega), nI_1, gSb8_nar _ (hB w (by omega)).1]
          exact wO_some rfl
      rw [mo_loop_inl st]
      refine ih (w + 1) (by omega) _ (h1.tr (msF.sA (by decide))) (fun i hi => ?_)
      show upd (q.2.1 3) w (gSb8 (B w)) i = _
      by_cases e : i = w
      · rw [e, upd_eq]
      · rw [upd_ne e]
        exact h3 i (by omega)
  obtain ⟨m2, e2, f2, g2⟩ := key z 0 (by omega) m0 msF.rf (fun i hi => by omega)
  exact ⟨m2, e2, f0.tr (f2.wk (by decide)), hz, (f2.i 4 (by decide)).trans k4, fun i hi => ⟨(hB i hi).1, g2 i hi⟩⟩
