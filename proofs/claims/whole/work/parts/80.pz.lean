/-! the reference: who wins, told -/
theorem gWs_mono {nx : Nat → Nat → Option Nat} {r st : Nat} {p : Nat × Nat} (h : gWs nx r st = some p) : gWs nx (r + 1) st = some p := by
  simp only [gWs]
  rw [h]
theorem g294_ex : ∃ n : Nat, n = 294 := ⟨294, rfl⟩
noncomputable def g294 : Nat := Classical.choose g294_ex
theorem g294_eq : g294 = 294 := Classical.choose_spec g294_ex
noncomputable def gWf (nx : Nat → Nat → Option Nat) : Nat → Option (Nat × Nat) := gWs nx g294
theorem gWf_eq {nx : Nat → Nat → Option Nat} {N : Nat} (h : N = 294) : gWf nx = gWs nx N := by
  unfold gWf
  rw [g294_eq, h]
theorem m_who_rounds {g : gT} {lv N : Nat} {s2 : ms_S} {nx : Nat → Nat → Option Nat} (hN : N = 294) (hT2 : MT g lv s2) (hok : ∀ st w u, gSt g.1.2 st → w < 7 → nx st w = some u → gSt g.1.2 u) (hth3 : ∀ st, gSt g.1.2 st → ∀ w, w < 7 → s2.2.1 51 (7 * st + w) = gE (nx st w)) (hini : ∀ j, j < 294 → s2.2.1 52 j = (if j / 14 = 20 then 1 else if j / 14 = 0 then 2 else 0) ∧ s2.2.1 53 j = 0) : wO (mo_loop mf_fillsWho_l36 (1, 1, s2)) (fun t => msF [52, 53] s2 t ∧ gRo g.1.2 (gWs nx N) (t.2.1 52) (t.2.1 53)) := by
  refine wO_loop (fun n q => msF [52, 53] s2 q.2.2 ∧ ((∃ r, q.1 = 1 ∧ q.2.1 = nI (r + 1) ∧ gRo g.1.2 (gWs nx r) (q.2.2.2.1 52) (q.2.2.2.1 53) ∧ r + gCt (gUn nx g.1.2 r) N ≤ N ∧ n = gCt (gUn nx g.1.2 r) N + 1) ∨ (q.1 = 0 ∧ n = 0 ∧ gRo g.1.2 (gWs nx N) (q.2.2.2.1 52) (q.2.2.2.1 53)))) ?_ (gCt (gUn nx g.1.2 0) N + 1) _ ⟨msF.rf, Or.inl ⟨0, rfl, rfl, ?_, ?_, rfl⟩⟩
  · rintro n ⟨w1, w2, u⟩ ⟨hF, hI⟩
    have hF : msF [52, 53] s2 u := hF
    unfold mf_fillsWho_l36
    rcases hI with ⟨r, e1, e2, hro, hr, en⟩ | ⟨e1, en, hro⟩
    · have e1 : w1 = 1 := e1
      have e2 : w2 = nI (r + 1) := e2
      subst e1 e2
      refine wO_neg (show ¬ (1 : Int32) = 0 by decide) ?_
      have hTu : MT g lv u := hT2.mv hF (by decide)
      refine wO_bd (m_who_round hTu (r := r) (nx := nx) (by omega) (fun st hst w hw => by rw [hF.a 51 (by decide)]; exact hth3 st hst w hw) hok hro) ?_
      rintro ⟨w, v⟩ ⟨k1, k2, k3⟩
      have hs1 : ∀ w, w < N → gUn nx g.1.2 (r + 1) w = true → gUn nx g.1.2 r w = true := by
        intro w hw hu
        rw [gUn_iff (by omega)] at hu ⊢
        refine ⟨hu.1, ?_⟩
        cases hc : gWs nx r w with
        | none => rfl
        | some p => rw [gWs_mono hc] at hu; cases hu.2
      obtain ⟨c1, c2⟩ := gCt_sub hs1
      rcases k3 with ⟨f1, st, f2, f3, p, f4⟩ | ⟨f1, f2⟩
      · have hlt : gCt (gUn nx g.1.2 (r + 1)) N < gCt (gUn nx g.1.2 r) N := by
          refine Nat.lt_of_le_of_ne c1 (fun e => ?_)
          have h294 : st < N := by rw [hN]; exact f2.1
          have := (gUn_iff f2.1).mp ((c2.mp e) st h294 ((gUn_iff f2.1).mpr ⟨f2, f3⟩))
          rw [f4] at this
          cases this.2
        refine wO_some ⟨gCt (gUn nx g.1.2 (r + 1)) N + 1, by omega, hF.tr k1, Or.inl ⟨r + 1, f1, nI_1 (r + 1), k2, by omega, rfl⟩⟩
      · refine wO_some ⟨0, by omega, hF.tr k1, Or.inr ⟨f1, rfl, fun st hst => ?_⟩⟩
        have hr2 : r ≤ N := by omega
        have h3 := gWs_st (V := gSt g.1.2) hok f2 (N - r) st hst
        rw [Nat.add_sub_cancel' hr2] at h3
        have h4 := k2 st hst
        rw [f2 st hst] at h4
        rw [h3]
        exact h4
    · have e1 : w1 = 0 := e1
      subst e1
      exact wO_pos rfl (wO_some ⟨hF, hro⟩)
  · intro st hst
    obtain ⟨i1, i2⟩ := hini st hst.1
    simp only [gWs]
    rw [i1, i2]
    by_cases c1 : st / 14 = 20
    · rw [if_pos c1, if_pos c1]; exact ⟨rfl, rfl⟩
    · rw [if_neg c1, if_neg c1]
      by_cases c2 : st / 14 = 0
      · rw [if_pos c2, if_pos c2]; exact ⟨rfl, rfl⟩
      · rw [if_neg c2, if_neg c2]
  · have := gCt_le (gUn nx g.1.2 0) N
    omega
theorem m_fillsWho {g : gT} {lv : Nat} {s : ms_S} {po : Option (Nat × Nat)} {wo sl tu la : Nat} (h : MW g lv s po wo sl tu la) : wO (mf_fillsWho s) (fun t => msF gKw s t ∧ t.2.1 48 = s.2.1 48 ∧ gTh g po wo (t.2.1 51) ∧ gRo g.1.2 (gWf (gNx g po wo)) (t.2.1 52) (t.2.1 53)) := by
  have hT := h.1
  have hok : ∀ st w u, gSt g.1.2 st → w < 7 → gNx g po wo st w = some u → gSt g.1.2 u := fun st w u hst _ hu => gNx_ok (h.1.2.2.2.1) hst.1 hu
  unfold mf_fillsWho
  refine wO_bd (m_fillsThen h) ?_
  rintro s1 ⟨hF1, e48, hth⟩
  refine wO_bd m_who_init ?_
  rintro s2 ⟨hF2, hini⟩
  have hth2 : gTh g po wo (s2.2.1 51) := by rw [hF2.a 51 (by decide)]; exact hth
  have hT2 : MT g lv s2 := (hT.mv hF1 (by decide)).mv hF2 (by decide)
  obtain ⟨N, hN⟩ : ∃ N, N = 294 := ⟨294, rfl⟩
  rw [gWf_eq hN]
  refine wO_bd (m_who_rounds hN hT2 hok hth2 hini) ?_
  rintro t ⟨hF, hro⟩
  have hFt := hF2.tr hF
  refine wO_some ⟨(hF1.wk (by decide)).tr (hFt.wk (by decide)), (hFt.a 48 (by decide)).trans e48, ?_, hro⟩
  rw [hF.a 51 (by decide)]
  exact hth2
