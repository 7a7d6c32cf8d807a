/-! reading: the class's spare text cleared -/
theorem x_fill22 {q : xs_S} : ∃ s2, xf_7_fill_53178_22 q (-1) = some s2 ∧ xsF [] [22] q s2 ∧ ∀ i, i < 4 → s2.2.1 22 i = -1 := by
  have key : ∀ n w, n + w = 4 → ∀ p : xs_S, xsF [] [22] q p → (∀ i, i < w → p.2.1 22 i = -1) → ∃ s2, mo_loop (xf_7_fill_53178_22_l5 (-1) (Int32.ofNat 4)) (nI w, p) = some s2 ∧ xsF [] [22] q s2 ∧ ∀ i, i < 4 → s2.2.1 22 i = -1 := by
    intro n
    induction n with
    | zero =>
      intro w hw p h1 h2
      have hw : w = 4 := by omega
      subst hw
      refine ⟨p, mo_loop_inr (wO_iff.mp ?_), h1, h2⟩
      unfold xf_7_fill_53178_22_l5
      exact wO_pos (by decide) (wO_some rfl)
    | succ n ih =>
      intro w hw p h1 h2
      have st : xf_7_fill_53178_22_l5 (-1) (Int32.ofNat 4) (nI w, p) = some (.inl (nI (w + 1), xs_sA p 22 (upd (p.2.1 22) w (-1)))) := by
        refine wO_iff.mp ?_
        unfold xf_7_fill_53178_22_l5
        refine wO_neg (show ¬ nI 4 ≤ nI w from nI_ge (by omega) (by omega)) (wO_in (k := w) rfl (by omega) (by omega) ?_)
        rw [nI_clamp (by omega), nI_1]
        exact wO_some rfl
      rw [mo_loop_inl st]
      refine ih (w + 1) (by omega) _ (h1.tr (xsF.sA (by decide))) (fun i hi => ?_)
      show upd (p.2.1 22) w (-1) i = -1
      by_cases e : i = w
      · rw [e, upd_eq]
      · rw [upd_ne e]
        exact h2 i (by omega)
  obtain ⟨s2, e2, f2, g2⟩ := key 4 0 rfl q xsF.rf (fun i hi => by omega)
  refine ⟨s2, wO_iff.mp ?_, f2, g2⟩
  unfold xf_7_fill_53178_22
  exact wO_eq e2 (wO_some rfl)
theorem x_clear {s : xs_S} : ∃ s2, xf_7_clear_17 s = some s2 ∧ xsF [275, 276, 277, 278, 279, 280, 321] [22] s s2 ∧ s2.1 275 = 0 ∧ s2.1 276 = 0 ∧ s2.1 277 = -1 ∧ s2.1 278 = -1 ∧ s2.1 279 = 10 ∧ s2.1 280 = 0 ∧ s2.1 321 = 0 ∧ ∀ i, i < 4 → s2.2.1 22 i = -1 := by
  obtain ⟨s1, e1, f1, g1⟩ := x_fill22 (q := xs_sI s 321 0)
  refine ⟨xs_sI (xs_sI (xs_sI (xs_sI (xs_sI (xs_sI s1 275 0) 276 0) 277 (-1)) 278 (-1)) 279 10) 280 0, wO_iff.mp ?_, ?_, rfl, rfl, rfl, rfl, rfl, rfl, ?_, g1⟩
  · unfold xf_7_clear_17
    refine wO_eq (x := s1) (wO_iff.mp ?_) (wO_some rfl)
    unfold xf_3_clear_20
    exact wO_eq e1 (wO_some rfl)
  · exact (xsF.sI (by decide)).tr ((f1.wk (by decide) (by decide)).tr ((xsF.sI (by decide)).tr ((xsF.sI (by decide)).tr ((xsF.sI (by decide)).tr ((xsF.sI (by decide)).tr ((xsF.sI (by decide)).tr (xsF.sI (by decide))))))))
  · exact f1.1 321 (by decide)
