/-! reading: the plain text -/
theorem m_plain {sd : Nat} {m : ms_S} (hsd : sd ≤ 1) : ∃ m2, mf_plain m (nI sd) = some m2 ∧ msF [23, 25, 27, 28, 29, 30, 31, 32] m m2 ∧ m2.2.1 23 = upd (m.2.1 23) sd 0 ∧ m2.2.1 25 = upd (m.2.1 25) sd 0 ∧ m2.2.1 27 = upd (m.2.1 27) sd (-2) ∧ m2.2.1 28 = upd (m.2.1 28) sd (-2) ∧ m2.2.1 29 = upd (m.2.1 29) sd 10 ∧ m2.2.1 30 = upd (m.2.1 30) sd 0 ∧ (∀ i, i < 4 → m2.2.1 31 (4 * sd + i) = 0 ∧ m2.2.1 32 (4 * sd + i) = 0) ∧ ∀ i, ¬ (4 * sd ≤ i ∧ i < 4 * sd + 4) → m2.2.1 31 i = m.2.1 31 i ∧ m2.2.1 32 i = m.2.1 32 i := by
  generalize hm1 : ms_sA (ms_sA (ms_sA (ms_sA (ms_sA (ms_sA m 23 (upd (m.2.1 23) sd 0)) 25 (upd (m.2.1 25) sd 0)) 27 (upd (m.2.1 27) sd (-2))) 28 (upd (m.2.1 28) sd (-2))) 29 (upd (m.2.1 29) sd 10)) 30 (upd (m.2.1 30) sd 0) = m1
  have f1 : msF [23, 25, 27, 28, 29, 30, 31, 32] m m1 := by
    rw [← hm1]
    exact (msF.sA (by decide)).tr ((msF.sA (by decide)).tr ((msF.sA (by decide)).tr ((msF.sA (by decide)).tr ((msF.sA (by decide)).tr (msF.sA (by decide))))))
  have key : ∀ n w, n + w = 4 → ∀ q : ms_S, msF [31, 32] m1 q → (∀ i, i < w → q.2.1 31 (4 * sd + i) = 0 ∧ q.2.1 32 (4 * sd + i) = 0) → (∀ i, ¬ (4 * sd ≤ i ∧ i < 4 * sd + 4) → q.2.1 31 i = m.2.1 31 i ∧ q.2.1 32 i = m.2.1 32 i) → ∃ m2, mo_loop (mf_plain_l32 (nI sd)) (nI w, q) = some m2 ∧ msF [31, 32] m1 m2 ∧ (∀ i, i < 4 → m2.2.1 31 (4 * sd + i) = 0 ∧ m2.2.1 32 (4 * sd + i) = 0) ∧ ∀ i, ¬ (4 * sd ≤ i ∧ i < 4 * sd + 4) → m2.2.1 31 i = m.2.1 31 i ∧ m2.2.1 32 i = m.2.1 32 i := by
    intro n
    induction n with
    | zero =>
      intro w hw q h1 h2 h3
      have hw : w = 4 := by omega
      subst hw
      refine ⟨q, mo_loop_inr (wO_iff.mp ?_), h1, h2, h3⟩
      unfold mf_plain_l32
      exact wO_pos (show (4 : Int32) ≤ nI 4 by decide) (wO_some rfl)
    | succ n ih =>
      intro w hw q h1 h2 h3
      have e4 : (4 : Int32) * nI sd + nI w = nI (4 * sd + w) := by rw [show (4 : Int32) * nI sd = nI (4 * sd) from pu_mul 4 sd, nI_add]
      have st : mf_plain_l32 (nI sd) (nI w, q) = some (.inl (nI (w + 1), ms_sA (ms_sA q 31 (upd (q.2.1 31) (4 * sd + w) 0)) 32 (upd (q.2.1 32) (4 * sd + w) 0))) := by
        refine wO_iff.mp ?_
        unfold mf_plain_l32
        refine wO_neg (show ¬ (4 : Int32) ≤ nI w from nI_ge (a := w) (b := 4) (by omega) (by omega)) ?_
        rw [e4]
        refine wO_in (k := 4 * sd + w) rfl (by omega) (by omega) (wO_in (k := 4 * sd + w) rfl (by omega) (by omega) ?_)
        rw [nI_clamp (by omega), nI_1]
        exact wO_some rfl
      rw [mo_loop_inl st]
      refine ih (w + 1) (by omega) _ (h1.tr ((msF.sA (by decide)).tr (msF.sA (by decide)))) (fun i hi => ?_) (fun i hi => ?_)
      · show upd (q.2.1 31) (4 * sd + w) 0 (4 * sd + i) = 0 ∧ upd (q.2.1 32) (4 * sd + w) 0 (4 * sd + i) = 0
        by_cases e : i = w
        · rw [e, upd_eq, upd_eq]
          exact ⟨rfl, rfl⟩
        · rw [upd_ne (by omega), upd_ne (by omega)]
          exact h2 i (by omega)
      · show upd (q.2.1 31) (4 * sd + w) 0 i = _ ∧ upd (q.2.1 32) (4 * sd + w) 0 i = _
        rw [upd_ne (by omega), upd_ne (by omega)]
        exact h3 i hi
  obtain ⟨m2, e2, f2, g1, g2⟩ := key 4 0 rfl m1 msF.rf (fun i hi => by omega) (fun i _ => by rw [← hm1]; exact ⟨rfl, rfl⟩)
  refine ⟨m2, wO_iff.mp ?_, f1.tr (f2.wk (by decide)), ?_, ?_, ?_, ?_, ?_, ?_, g1, g2⟩
  · unfold mf_plain
    rw [nI_clamp (by omega)]
    refine wO_in (k := sd) rfl (by omega) (by omega) (wO_in (k := sd) rfl (by omega) (by omega) (wO_in (k := sd) rfl (by omega) (by omega) (wO_in (k := sd) rfl (by omega) (by omega) (wO_in (k := sd) rfl (by omega) (by omega) (wO_in (k := sd) rfl (by omega) (by omega) ?_)))))
    rw [hm1]
    exact wO_eq e2 (wO_some rfl)
  all_goals first
    | (rw [f2.a 23 (by decide), ← hm1]; rfl)
    | (rw [f2.a 25 (by decide), ← hm1]; rfl)
    | (rw [f2.a 27 (by decide), ← hm1]; rfl)
    | (rw [f2.a 28 (by decide), ← hm1]; rfl)
    | (rw [f2.a 29 (by decide), ← hm1]; rfl)
    | (rw [f2.a 30 (by decide), ← hm1]; rfl)
