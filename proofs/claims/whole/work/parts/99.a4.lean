/-! question: calm -/
noncomputable def gKw2 (g : gT) (ti l r : Nat) : Nat := gWn (gWf (gNx g (some (l, r)) 0) (14 * ti + 6))
def gKm (g : gT) (ti : Nat) (A : Nat → Int32) : Prop := ∀ l r, l < g.1.1 → r < g.1.1 → A (5 * l + r) = -1 ∨ A (5 * l + r) = nI (gKw2 g ti l r)
def xQi3 : List Nat := [2018, 2022, 2023, 2024, 1873, 1874, 1875]
def xQa3 : List Nat := [15, 16, 118, 119, 127, 128, 129, 130, 138]
/-- what the class keeps beside: tilt, pair, calms, laying -/
def XK (g : gT) (po : Option (Nat × Nat)) (ti b : Nat) (s : xs_S) : Prop := s.1 151 = nI ti ∧ ti ≤ 20 ∧ gAp po g.1.1 (s.1 401) (s.1 402) ∧ gKm g ti (s.2.1 138) ∧ ∃ c, c ≤ b ∧ s.1 1875 = nI c
theorem x_calmOf {g : gT} {po : Option (Nat × Nat)} {s : xs_S} {st ti b l r : Nat} (hx : XC g po st s) (hk : XK g po ti b s) (hb : b + 2 < 2 ^ 30) (hl : l < g.1.1) (hr : r < g.1.1) : wO (xf_11_calmOf s (nI l) (nI r)) (fun p => p.1 = nI (gKw2 g ti l r) ∧ xsF xQi3 xQa3 s p.2 ∧ XC g po st p.2 ∧ XK g po ti (b + 2) p.2) := by
  obtain ⟨k1, k2, k3, k4, c, k5, k6⟩ := id hk
  have hns := hx.1.1.1
  have ei : nI l * (5 : Int32) + nI r = nI (5 * l + r) := by
    rw [show nI l * (5 : Int32) = nI (l * 5) from pu_mul l 5, nI_add]
    congr 1
    omega
  have same : XK g po ti (b + 2) s := ⟨k1, k2, k3, k4, c, by omega, k6⟩
  unfold xf_11_calmOf
  refine wO_ag (k := 5 * l + r) ei (by omega) (by omega) ?_
  refine wO_ite (fun e => ?_) (fun e => ?_)
  · refine wO_bd (x_lay (po2 := some (l, r)) hx.1 hx.2.1 k6 (by omega) ⟨rfl, rfl, hl, hr⟩) ?_
    rintro s3 ⟨f3, g3, h3, c3, d3, e3⟩
    have i151 : s3.1 151 = nI ti := (f3.1 151 (by decide)).trans k1
    have even : xf_7_evenStanding_9 s3 = some (nI (gph (14 * ti + 6)), s3) := by
      unfold xf_7_evenStanding_9
      rw [i151, show xf_11_standingOf (nI ti) (0 : Int32) (-1) = some (nI (14 * ti + 7 * 0)) from x_standingN ti 0]
      have : gph (14 * ti + 6) = 14 * ti + 7 * 0 := gph_6 (a := ti) (b := 0)
      rw [this]
      rfl
    refine wO_eq even ?_
    have hs0 : gSt g.1.2 (14 * ti + 6) := ⟨by omega, Or.inr (by omega)⟩
    refine wO_bd (x_foresee (wo := 0) g3 h3 hs0 (by omega)) ?_
    rintro ⟨a, s5⟩ ⟨f5, g5, v5, y5, q5, c5, m5⟩
    have v5 : a = nI (gKw2 g ti l r) := v5
    have f5 : xsF xKsI xKfA s3 s5 := f5
    have g5 : XG g s5 (some (l, r)) := g5
    have y5 : gLy s5 := y5
    have c5 : gFc g (some (l, r)) 0 s5 q5 := c5
    subst v5
    refine wO_in (k := 5 * l + r) ei (by omega) (by omega) ?_
    rw [ei, nI_clamp (by omega)]
    generalize hs6 : xs_sA s5 138 (upd (s5.2.1 138) (5 * l + r) (nI (gKw2 g ti l r))) = s6
    have f6 : xsF [] [138] s5 s6 := by rw [← hs6]; exact xsF.sA (by decide)
    have g6 : XG g s6 (some (l, r)) := g5.mv f6 (by decide) (by decide) (by rw [f6.2.1 118 (by decide), f6.2.1 119 (by decide)]; exact g5.2.2)
    have h6 : gFs g (some (l, r)) s6 := by
      refine ⟨y5.mv (f6.1 2023 (by decide)) (f6.1 1875 (by decide)), Or.inr (Or.inr ⟨0, q5, ?_⟩)⟩
      unfold gFc at c5 ⊢
      rw [f6.1 2022 (by decide), f6.1 2018 (by decide), f6.2.1 118 (by decide), f6.2.1 119 (by decide), f6.2.1 127 (by decide), f6.2.1 128 (by decide), f6.2.1 129 (by decide), f6.2.1 130 (by decide)]
      exact c5
    have r6 : s6.2.1 138 = upd (s.2.1 138) (5 * l + r) (nI (gKw2 g ti l r)) := by
      rw [← hs6]
      show upd (s5.2.1 138) _ _ = _
      rw [f5.2.1 138 (by decide), f3.2.1 138 (by decide)]
    have e75 : s6.1 1875 = nI c3 := (f6.1 1875 (by decide)).trans ((f5.1 1875 (by decide)).trans e3)
    have e401 : s5.1 401 = s.1 401 := (f5.1 401 (by decide)).trans (f3.1 401 (by decide))
    have e402 : s5.1 402 = s.1 402 := (f5.1 402 (by decide)).trans (f3.1 402 (by decide))
    refine wO_bd (x_lay (po2 := po) g6 h6 e75 (by omega) (by rw [e401, e402]; exact k3)) ?_
    rintro s7 ⟨f7, g7, h7, c7, d7, e7⟩
    have ft : xsF xQi3 xQa3 s s7 := (f3.wk (by decide) (by decide)).tr ((f5.wk (by decide) (by decide)).tr ((f6.wk (by decide) (by decide)).tr (f7.wk (by decide) (by decide))))
    have r7 : s7.2.1 138 = upd (s.2.1 138) (5 * l + r) (nI (gKw2 g ti l r)) := (f7.2.1 138 (by decide)).trans r6
    refine wO_agv (k := 5 * l + r) (v := nI (gKw2 g ti l r)) rfl (by omega) (by omega) (by rw [r7]; exact upd_eq) ?_
    refine wO_some ⟨rfl, ft, ⟨g7, h7, (ft.1 400 (by decide)).trans hx.2.2.1, hx.2.2.2⟩, (ft.1 151 (by decide)).trans k1, k2, ?_, ?_, c7, by omega, e7⟩
    · show gAp po g.1.1 (s7.1 401) (s7.1 402)
      rw [ft.1 401 (by decide), ft.1 402 (by decide)]
      exact k3
    · show gKm g ti (s7.2.1 138)
      rw [r7]
      intro l2 r2 hl2 hr2
      by_cases he : 5 * l2 + r2 = 5 * l + r
      · have h1 : l2 = l := by omega
        have h2 : r2 = r := by omega
        subst h1 h2
        exact Or.inr upd_eq
      · rw [upd_ne he]
        exact k4 l2 r2 hl2 hr2
  · have hv : s.2.1 138 (5 * l + r) = nI (gKw2 g ti l r) := (k4 l r hl hr).resolve_left e
    refine wO_agv (k := 5 * l + r) ei (by omega) (by omega) hv ?_
    exact wO_some ⟨rfl, xsF.rf, hx, same⟩
theorem q_calm {g : gT} {lv ti b : Nat} {s : xs_S} {m : ms_S} {po : Option (Nat × Nat)} {st : Nat} (a1 a2 : Int32) (hx : XC g po st s) (hk : XK g po ti b s) (hb : b + 2 < 2 ^ 30) (hm : MN g lv m po st) (h29 : m.2.1 29 lv = nI ti) : ∃ a s2 m2, xf_11_calm s a1 a2 = some (a, s2) ∧ mf_calm m a1 a2 = some (a, m2) ∧ xsF xQi3 xQa3 s s2 ∧ XC g po st s2 ∧ XK g po ti (b + 2) s2 ∧ msF mQ m m2 := by
  have hns := hx.1.1.1
  have h147 := hx.1.1.2.2.1
  have same : XK g po ti (b + 2) s := by
    obtain ⟨k1, k2, k3, k4, c, k5, k6⟩ := hk
    exact ⟨k1, k2, k3, k4, c, by omega, k6⟩
  have out : ∀ (hxo : xf_11_areTwo s a1 a2 = some (0, s)) (hmo : mf_calm m a1 a2 = some (-1, m)), ∃ a s2 m2, xf_11_calm s a1 a2 = some (a, s2) ∧ mf_calm m a1 a2 = some (a, m2) ∧ xsF xQi3 xQa3 s s2 ∧ XC g po st s2 ∧ XK g po ti (b + 2) s2 ∧ msF mQ m m2 := by
    intro hxo hmo
    refine ⟨-1, s, m, ?_, hmo, xsF.rf, hx, same, msF.rf⟩
    refine wO_iff.mp ?_
    unfold xf_11_calm
    exact wO_eq hxo (wO_pos rfl (wO_some rfl))
  rcases pu_small a1 g.1.1 (by omega) with ⟨l, hl, rfl⟩ | h1
  · rcases pu_small a2 g.1.1 (by omega) with ⟨r, hr, rfl⟩ | h2
    · by_cases he : l = r
      · refine out (wO_iff.mp ?_) (wO_iff.mp ?_)
        · unfold xf_11_areTwo
          refine wO_eq (x_hasSpeaker h147 hns (by omega)) ?_
          rw [decide_eq_true hl]
          refine wO_neg pu_10 (wO_eq (x_hasSpeaker h147 hns (by omega)) ?_)
          rw [decide_eq_true hr]
          exact wO_neg pu_10 (wO_pos (by rw [he]) (wO_some rfl))
        · unfold mf_calm
          refine wO_eq (m_isSpeaker_yes hm.1 hl) (wO_neg pu_10 (wO_eq (m_isSpeaker_yes hm.1 hr) (wO_neg pu_10 (wO_pos (by rw [he]) (wO_some rfl)))))
      · have hne : ¬ nI l = nI r := fun e => he ((nI_eq (by omega) (by omega)).mp e)
        obtain ⟨⟨a, s2⟩, x1, x2, x3, x4, x5⟩ := x_calmOf hx hk hb hl hr
        obtain ⟨⟨a', m2⟩, y1, y2, y3⟩ := m_calmOf hm h29 hk.2.1 hl hr
        have x2 : a = nI (gKw2 g ti l r) := x2
        have y2 : a' = nI (gKw2 g ti l r) := y2
        subst x2 y2
        refine ⟨nI (gKw2 g ti l r), s2, m2, wO_iff.mp ?_, wO_iff.mp ?_, x3, x4, x5, y3⟩
        · unfold xf_11_calm xf_11_areTwo
          refine wO_eq (x := (1, s)) (wO_iff.mp ?_) (wO_neg pu_10 (wO_eq x1 (wO_some rfl)))
          refine wO_eq (x_hasSpeaker h147 hns (by omega)) ?_
          rw [decide_eq_true hl]
          refine wO_neg pu_10 (wO_eq (x_hasSpeaker h147 hns (by omega)) ?_)
          rw [decide_eq_true hr]
          exact wO_neg pu_10 (wO_neg hne (wO_some rfl))
        · unfold mf_calm
          exact wO_eq (m_isSpeaker_yes hm.1 hl) (wO_neg pu_10 (wO_eq (m_isSpeaker_yes hm.1 hr) (wO_neg pu_10 (wO_neg hne (wO_eq y1 (wO_some rfl))))))
    · refine out (wO_iff.mp ?_) (wO_iff.mp ?_)
      · unfold xf_11_areTwo
        refine wO_eq (x_hasSpeaker h147 hns (by omega)) ?_
        rw [decide_eq_true hl]
        exact wO_neg pu_10 (wO_eq (x_hasSpeaker_no h147 h2) (wO_pos rfl (wO_some rfl)))
      · unfold mf_calm
        exact wO_eq (m_isSpeaker_yes hm.1 hl) (wO_neg pu_10 (wO_eq (m_isSpeaker_no hm.1 h2) (wO_pos rfl (wO_some rfl))))
  · refine out (wO_iff.mp ?_) (wO_iff.mp ?_)
    · unfold xf_11_areTwo
      exact wO_eq (x_hasSpeaker_no h147 h1) (wO_pos rfl (wO_some rfl))
    · unfold mf_calm
      exact wO_eq (m_isSpeaker_no hm.1 h1) (wO_pos rfl (wO_some rfl))
