/-! question: cheapest -/
noncomputable def gC1 (g : gT) (ti a b : Nat) (o : Option (Nat × Nat)) : Option (Nat × Nat) := if gKw2 g ti a b = 0 then (match o with
  | none => some (10 * a + b, gWb g ti a b)
  | some p => if gWb g ti a b < p.2 then some (10 * a + b, gWb g ti a b) else some p) else o
noncomputable def gC2 (g : gT) (ti a : Nat) (o : Option (Nat × Nat)) : Nat → Option (Nat × Nat)
  | 0 => o
  | k + 1 => gC1 g ti a (a + 1 + k) (gC2 g ti a o k)
noncomputable def gC3 (g : gT) (ti : Nat) : Nat → Option (Nat × Nat)
  | 0 => none
  | i + 1 => gC2 g ti i (gC3 g ti i) (g.1.1 - (i + 1))
def gc1 (o : Option (Nat × Nat)) : Int32 := match o with
  | none => -2
  | some p => nI p.1
def gc2 (o : Option (Nat × Nat)) : Int32 := match o with
  | none => -2
  | some p => nI p.2
def gCk (o : Option (Nat × Nat)) : Prop := ∀ p, o = some p → p.1 < 64 ∧ p.2 < 200
theorem gC1_n {g : gT} {ti a b : Nat} {o : Option (Nat × Nat)} (h : ¬ gKw2 g ti a b = 0) : gC1 g ti a b o = o := if_neg h
theorem gC1_y0 {g : gT} {ti a b : Nat} (h : gKw2 g ti a b = 0) : gC1 g ti a b none = some (10 * a + b, gWb g ti a b) := if_pos h
theorem gC1_y1 {g : gT} {ti a b : Nat} {p : Nat × Nat} (h : gKw2 g ti a b = 0) (h2 : gWb g ti a b < p.2) : gC1 g ti a b (some p) = some (10 * a + b, gWb g ti a b) := (if_pos h).trans (if_pos h2)
theorem gC1_y2 {g : gT} {ti a b : Nat} {p : Nat × Nat} (h2 : ¬ gWb g ti a b < p.2) : gC1 g ti a b (some p) = some p := by
  by_cases h : gKw2 g ti a b = 0
  · exact (if_pos h).trans (if_neg h2)
  · exact if_neg h
theorem gWb_lt (g : gT) (ti a b : Nat) : gWb g ti a b < 200 := by
  have h1 := gW_le g a b ti 0 6
  have h2 := gW_le g a b ti 1 6
  unfold gWb
  omega
theorem gC1_ok {g : gT} {ti a b : Nat} {o : Option (Nat × Nat)} (ha : a < 5) (hb : b < 5) (h : gCk o) : gCk (gC1 g ti a b o) := by
  have hw := gWb_lt g ti a b
  by_cases hk : gKw2 g ti a b = 0
  · cases o with
    | none =>
      rw [gC1_y0 hk]
      intro p hp
      cases hp
      exact ⟨by show 10 * a + b < 64; omega, hw⟩
    | some p =>
      by_cases h2 : gWb g ti a b < p.2
      · rw [gC1_y1 hk h2]
        intro q hq
        cases hq
        exact ⟨by show 10 * a + b < 64; omega, hw⟩
      · rw [gC1_y2 h2]
        exact h
  · rw [gC1_n hk]
    exact h
theorem gC2_ok {g : gT} {ti a : Nat} {o : Option (Nat × Nat)} (h : gCk o) : ∀ k, a + 1 + k ≤ 5 → gCk (gC2 g ti a o k)
  | 0, _ => h
  | k + 1, hk => gC1_ok (by omega) (by omega) (gC2_ok h k (by omega))
theorem gC3_ok {g : gT} {ti : Nat} (hn : g.1.1 ≤ 5) : ∀ i, i ≤ g.1.1 → gCk (gC3 g ti i)
  | 0, _ => fun p hp => by cases hp
  | i + 1, hi => gC2_ok (gC3_ok hn i (by omega)) _ (by omega)
theorem x_cheap_in {g : gT} {po : Option (Nat × Nat)} {s u : xs_S} {st ti b a : Nat} {v1 : Int32} {o : Option (Nat × Nat)} (hF : xsF xQi3 xQa3 s u) (hx : XC g po st u) (hk : XK g po ti b u) (hb : b + 20 < 2 ^ 30) (ha : a < g.1.1) (ho : gCk o) : wO (mo_loop (xf_11_cheapest_l22 v1 (nI a)) (gc1 o, gc2 o, nI (a + 1), u)) (fun q => q.1 = gc1 (gC2 g ti a o (g.1.1 - (a + 1))) ∧ q.2.1 = gc2 (gC2 g ti a o (g.1.1 - (a + 1))) ∧ xsF xQi3 xQa3 s q.2.2 ∧ XC g po st q.2.2 ∧ XK g po ti (b + 10) q.2.2) := by
  have hns := hx.1.1.1
  have hti := hk.2.1
  refine wO_count (fun (k : Nat) (q : Int32 × Int32 × Int32 × xs_S) => q.1 = gc1 (gC2 g ti a o k) ∧ q.2.1 = gc2 (gC2 g ti a o k) ∧ q.2.2.1 = nI (a + 1 + k) ∧ xsF xQi3 xQa3 s q.2.2.2 ∧ XC g po st q.2.2.2 ∧ XK g po ti (b + 2 * k) q.2.2.2) (g.1.1 - (a + 1)) ?_ ?_ _ ⟨rfl, rfl, rfl, hF, hx, hk⟩
  · rintro k ⟨w2, w3, w5, t⟩ hkk ⟨e1, e2, e3, f1, c1, k1⟩
    have e1 : w2 = gc1 (gC2 g ti a o k) := e1
    have e2 : w3 = gc2 (gC2 g ti a o k) := e2
    have e3 : w5 = nI (a + 1 + k) := e3
    have f1 : xsF xQi3 xQa3 s t := f1
    have c1 : XC g po st t := c1
    have k1 : XK g po ti (b + 2 * k) t := k1
    have hO := gC2_ok (g := g) (ti := ti) (a := a) ho k (by omega)
    have hstep : gC2 g ti a o (k + 1) = gC1 g ti a (a + 1 + k) (gC2 g ti a o k) := rfl
    rw [hstep]
    generalize gC2 g ti a o k = O at *
    subst e1 e2 e3
    unfold xf_11_cheapest_l22 xf_11_cheapest_j39 xf_11_cheapest_j52
    dsimp only
    rw [c1.1.1.2.2.1]
    refine wO_neg (nI_ge (show a + 1 + k < g.1.1 by omega) (by omega)) ?_
    refine wO_bd (x_wages (ti := ti) (l := a) (r := a + 1 + k) c1.1.1 k1.1 hti (by omega) (by omega)) ?_
    rintro ⟨v, t1⟩ ⟨e4, f4⟩
    have e4 : v = nI (gWb g ti a (a + 1 + k)) := e4
    have f4 : xsF [] [15, 16] t t1 := f4
    subst e4
    have hwl := gWb_lt g ti a (a + 1 + k)
    have c4 : XC g po st t1 := c1.fr f4 (by decide) (by decide)
    have k4 : XK g po ti (b + 2 * k) t1 := k1.fr (f4.1 151 (by decide)) (f4.1 401 (by decide)) (f4.1 402 (by decide)) (f4.2.1 138 (by decide)) (f4.1 1875 (by decide))
    have f5 : xsF xQi3 xQa3 s t1 := f1.tr (f4.wk (by decide) (by decide))
    have e10 : (10 : Int32) * nI a + nI (a + 1 + k) = nI (10 * a + (a + 1 + k)) := by
      rw [show (10 : Int32) * nI a = nI (10 * a) from pu_mul 10 a, nI_add]
    have calm : (∀ p, O = some p → gWb g ti a (a + 1 + k) < p.2) → wO ((xf_11_calmOf t1 (nI a) (nI (a + 1 + k))).bind fun (v_6, s_6) => (if v_6 = (0 : Int32) then some (.inl ((((10 : Int32) * nI a) + nI (a + 1 + k)), nI (gWb g ti a (a + 1 + k)), (nI (a + 1 + k) + (1 : Int32)), s_6)) else some (.inl (gc1 O, gc2 O, (nI (a + 1 + k) + (1 : Int32)), s_6)))) (mo_sum (fun (q : Int32 × Int32 × Int32 × xs_S) => q.1 = gc1 (gC1 g ti a (a + 1 + k) O) ∧ q.2.1 = gc2 (gC1 g ti a (a + 1 + k) O) ∧ q.2.2.1 = nI (a + 1 + (k + 1)) ∧ xsF xQi3 xQa3 s q.2.2.2 ∧ XC g po st q.2.2.2 ∧ XK g po ti (b + 2 * (k + 1)) q.2.2.2) (fun (q : Int32 × Int32 × xs_S) => q.1 = gc1 (gC2 g ti a o (g.1.1 - (a + 1))) ∧ q.2.1 = gc2 (gC2 g ti a o (g.1.1 - (a + 1))) ∧ xsF xQi3 xQa3 s q.2.2 ∧ XC g po st q.2.2 ∧ XK g po ti (b + 10) q.2.2)) := fun hlt => by
      refine wO_bd (x_calmOf (l := a) (r := a + 1 + k) c4 k4 (by omega) (by omega) (by omega)) ?_
      rintro ⟨v, t2⟩ ⟨e6, f6, c6, k6⟩
      have e6 : v = nI (gKw2 g ti a (a + 1 + k)) := e6
      have f6 : xsF xQi3 xQa3 t1 t2 := f6
      have c6 : XC g po st t2 := c6
      have k6 : XK g po ti (b + 2 * k + 2) t2 := k6
      subst e6
      have hkl := @gKw2_le g ti a (a + 1 + k)
      by_cases hz : gKw2 g ti a (a + 1 + k) = 0
      · have eC : gC1 g ti a (a + 1 + k) O = some (10 * a + (a + 1 + k), gWb g ti a (a + 1 + k)) := by
          cases O with
          | none => exact gC1_y0 hz
          | some p => exact gC1_y1 hz (hlt p rfl)
        rw [eC]
        exact wO_pos (by rw [hz]; rfl) (wO_some ⟨e10, rfl, nI_1 _, f5.tr f6, c6, k6.up (by omega)⟩)
      · rw [gC1_n hz]
        exact wO_neg (fun e => hz ((nI_eq (b := 0) (by omega) (by omega)).mp e)) (wO_some ⟨rfl, rfl, nI_1 _, f5.tr f6, c6, k6.up (by omega)⟩)
    cases O with
    | none => exact wO_pos rfl (calm (fun p hp => by cases hp))
    | some p =>
      have hp := hO p rfl
      refine wO_neg (pu_neg2 hp.1) ?_
      by_cases hlt : gWb g ti a (a + 1 + k) < p.2
      · exact wO_neg (nI_ge hlt (by omega)) (calm (fun q hq => by cases hq; exact hlt))
      · rw [gC1_y2 hlt]
        exact wO_pos (nI_le (by omega) (by omega)) (wO_some ⟨rfl, rfl, nI_1 _, f5, c4, k4.up (by omega)⟩)
  · rintro ⟨w2, w3, w5, t⟩ ⟨e1, e2, e3, f1, c1, k1⟩
    have e3 : w5 = nI (a + 1 + (g.1.1 - (a + 1))) := e3
    subst e3
    have c1 : XC g po st t := c1
    have k1 : XK g po ti (b + 2 * (g.1.1 - (a + 1))) t := k1
    unfold xf_11_cheapest_l22
    dsimp only
    rw [c1.1.1.2.2.1]
    exact wO_pos (nI_le (by omega) (by omega)) (wO_some ⟨e1, e2, f1, c1, k1.up (by omega)⟩)
theorem x_cheap {g : gT} {po : Option (Nat × Nat)} {s : xs_S} {st ti b : Nat} {v1 : Int32} (hx : XC g po st s) (hk : XK g po ti b s) (hb : b + 100 < 2 ^ 30) : wO (mo_loop (xf_11_cheapest_l13 v1) ((-2 : Int32), (-2 : Int32), (0 : Int32), s)) (fun q => q.1 = gc1 (gC3 g ti g.1.1) ∧ q.2.1 = gc2 (gC3 g ti g.1.1) ∧ xsF xQi3 xQa3 s q.2.2 ∧ XC g po st q.2.2 ∧ XK g po ti (b + 50) q.2.2) := by
  have hns := hx.1.1.1
  refine wO_count (fun (k : Nat) (q : Int32 × Int32 × Int32 × xs_S) => q.1 = gc1 (gC3 g ti k) ∧ q.2.1 = gc2 (gC3 g ti k) ∧ q.2.2.1 = nI k ∧ xsF xQi3 xQa3 s q.2.2.2 ∧ XC g po st q.2.2.2 ∧ XK g po ti (b + 10 * k) q.2.2.2) g.1.1 ?_ ?_ _ ⟨rfl, rfl, rfl, xsF.rf, hx, hk⟩
  · rintro k ⟨w2, w3, w4, t⟩ hkk ⟨e1, e2, e3, f1, c1, k1⟩
    have e1 : w2 = gc1 (gC3 g ti k) := e1
    have e2 : w3 = gc2 (gC3 g ti k) := e2
    have e3 : w4 = nI k := e3
    have f1 : xsF xQi3 xQa3 s t := f1
    have c1 : XC g po st t := c1
    have k1 : XK g po ti (b + 10 * k) t := k1
    subst e1 e2 e3
    unfold xf_11_cheapest_l13
    dsimp only
    rw [c1.1.1.2.2.1]
    refine wO_neg (nI_ge hkk (by omega)) ?_
    rw [nI_1]
    refine wO_bd (x_cheap_in f1 c1 k1 (by omega) hkk (gC3_ok hns k (by omega))) ?_
    rintro ⟨q2, q3, t2⟩ ⟨d1, d2, d3, d4, d5⟩
    exact wO_some ⟨d1, d2, rfl, d3, d4, XK.up d5 (by omega)⟩
  · rintro ⟨w2, w3, w4, t⟩ ⟨e1, e2, e3, f1, c1, k1⟩
    have e3 : w4 = nI g.1.1 := e3
    subst e3
    have c1 : XC g po st t := c1
    have k1 : XK g po ti (b + 10 * g.1.1) t := k1
    unfold xf_11_cheapest_l13
    dsimp only
    rw [c1.1.1.2.2.1]
    exact wO_pos (Int32.le_refl _) (wO_some ⟨e1, e2, f1, c1, k1.up (by omega)⟩)
theorem m_cheap_in {g : gT} {lv : Nat} {po : Option (Nat × Nat)} {m u : ms_S} {st ti a : Nat} {v1 : Int32} {o : Option (Nat × Nat)} (hF : msF mQ3 m u) (h : MN g lv m po st) (h29 : m.2.1 29 lv = nI ti) (hti : ti ≤ 20) (h61 : ∀ i, i < g.1.1 → u.2.1 61 i = nI (gBs (gCb g ti i) g.1.1)) (ha : a < g.1.1) (ho : gCk o) : wO (mo_loop (mf_cheapest_l26 v1 (nI a)) (gc1 o, gc2 o, nI (a + 1), u)) (fun q => q.1 = gc1 (gC2 g ti a o (g.1.1 - (a + 1))) ∧ q.2.1 = gc2 (gC2 g ti a o (g.1.1 - (a + 1))) ∧ msF mQ3 m q.2.2 ∧ ∀ i, i < g.1.1 → q.2.2.2.1 61 i = nI (gBs (gCb g ti i) g.1.1)) := by
  have hns := h.1.2.2.1
  have hlv := h.1.1
  refine wO_count (fun (k : Nat) (q : Int32 × Int32 × Int32 × ms_S) => q.1 = gc1 (gC2 g ti a o k) ∧ q.2.1 = gc2 (gC2 g ti a o k) ∧ q.2.2.1 = nI (a + 1 + k) ∧ msF mQ3 m q.2.2.2 ∧ ∀ i, i < g.1.1 → q.2.2.2.2.1 61 i = nI (gBs (gCb g ti i) g.1.1)) (g.1.1 - (a + 1)) ?_ ?_ _ ⟨rfl, rfl, rfl, hF, h61⟩
  · rintro k ⟨w2, w3, w5, t⟩ hkk ⟨e1, e2, e3, f1, r1⟩
    have e1 : w2 = gc1 (gC2 g ti a o k) := e1
    have e2 : w3 = gc2 (gC2 g ti a o k) := e2
    have e3 : w5 = nI (a + 1 + k) := e3
    have f1 : msF mQ3 m t := f1
    have r1 : ∀ i, i < g.1.1 → t.2.1 61 i = nI (gBs (gCb g ti i) g.1.1) := r1
    have hO := gC2_ok (g := g) (ti := ti) (a := a) ho k (by omega)
    have hstep : gC2 g ti a o (k + 1) = gC1 g ti a (a + 1 + k) (gC2 g ti a o k) := rfl
    rw [hstep]
    generalize gC2 g ti a o k = O at *
    subst e1 e2 e3
    have hM : MN g lv t po st := h.mv f1 (by decide) (by decide)
    have h29t : t.2.1 29 lv = nI ti := by rw [f1.a 29 (by decide)]; exact h29
    have hwl := gWb_lt g ti a (a + 1 + k)
    have e10 : (10 : Int32) * nI a + nI (a + 1 + k) = nI (10 * a + (a + 1 + k)) := by
      rw [show (10 : Int32) * nI a = nI (10 * a) from pu_mul 10 a, nI_add]
    have upd1 : ∀ t1, msF mQ t t1 → gC1 g ti a (a + 1 + k) O = some (10 * a + (a + 1 + k), gWb g ti a (a + 1 + k)) → wO (mf_cheapest_j51 t1 v1 (nI a) (nI (a + 1 + k))) (mo_sum (fun (q : Int32 × Int32 × Int32 × ms_S) => q.1 = gc1 (gC1 g ti a (a + 1 + k) O) ∧ q.2.1 = gc2 (gC1 g ti a (a + 1 + k) O) ∧ q.2.2.1 = nI (a + 1 + (k + 1)) ∧ msF mQ3 m q.2.2.2 ∧ ∀ i, i < g.1.1 → q.2.2.2.2.1 61 i = nI (gBs (gCb g ti i) g.1.1)) (fun (q : Int32 × Int32 × ms_S) => q.1 = gc1 (gC2 g ti a o (g.1.1 - (a + 1))) ∧ q.2.1 = gc2 (gC2 g ti a o (g.1.1 - (a + 1))) ∧ msF mQ3 m q.2.2 ∧ ∀ i, i < g.1.1 → q.2.2.2.1 61 i = nI (gBs (gCb g ti i) g.1.1))) := fun t1 ft eC => by
      have hM1 : MN g lv t1 po st := hM.mv ft (by decide) (by decide)
      unfold mf_cheapest_j51 mf_cheapest_j62
      refine wO_bd (m_wagesBoth (l := a) (r := a + 1 + k) hM1 (by rw [ft.a 29 (by decide)]; exact h29t) hti (by omega) (by omega)) ?_
      rintro ⟨v, t2⟩ ⟨e6, f6⟩
      have e6 : v = nI (gWb g ti a (a + 1 + k)) := e6
      have f6 : msF mQ t1 t2 := f6
      subst e6
      rw [eC]
      refine wO_some ⟨e10, rfl, nI_1 _, f1.tr ((ft.wk (by decide)).tr (f6.wk (by decide))), fun i hi => ?_⟩
      show t2.2.1 61 i = _
      rw [f6.a 61 (by decide), ft.a 61 (by decide)]
      exact r1 i hi
    unfold mf_cheapest_l26
    refine wO_agv (k := lv) hM.1.2.1 (by omega) (by omega) hM.1.2.2.2.2.1 ?_
    refine wO_neg (nI_ge (show a + 1 + k < g.1.1 by omega) (by omega)) ?_
    refine wO_agv (k := a) rfl (by omega) (by omega) (r1 a ha) ?_
    rw [pu_bit _ (gBs_lt64 (by omega)) (a + 1 + k) (by omega), gBs_bit, decide_eq_true (show a + 1 + k < g.1.1 by omega), Bool.true_and]
    by_cases hz : gKw2 g ti a (a + 1 + k) = 0
    · have hb : gCb g ti a (a + 1 + k) = true := by
        unfold gCb
        rw [decide_eq_true (show a < a + 1 + k by omega), decide_eq_true hz]
        rfl
      rw [hb]
      refine wO_neg pu_10 ?_
      cases O with
      | none => exact wO_pos (show (-2 : Int32) < 0 by decide) (upd1 t msF.rf (gC1_y0 hz))
      | some p =>
        have hp := hO p rfl
        refine wO_neg (show ¬ nI p.1 < 0 from pu_nn (by omega)) ?_
        refine wO_bd (m_wagesBoth (l := a) (r := a + 1 + k) hM h29t hti (by omega) (by omega)) ?_
        rintro ⟨v, t2⟩ ⟨e6, f6⟩
        have e6 : v = nI (gWb g ti a (a + 1 + k)) := e6
        have f6 : msF mQ t t2 := f6
        subst e6
        by_cases hlt : gWb g ti a (a + 1 + k) < p.2
        · exact wO_pos (nI_lt hlt (by omega)) (upd1 t2 f6 (gC1_y1 hz hlt))
        · rw [gC1_y2 hlt]
          unfold mf_cheapest_j62
          refine wO_neg (nI_nlt (by omega) (by omega)) (wO_some ⟨rfl, rfl, nI_1 _, f1.tr (f6.wk (by decide)), fun i hi => ?_⟩)
          show t2.2.1 61 i = _
          rw [f6.a 61 (by decide)]
          exact r1 i hi
    · have hb : gCb g ti a (a + 1 + k) = false := by
        unfold gCb
        rw [decide_eq_false hz, Bool.and_false]
      rw [hb, gC1_n hz]
      unfold mf_cheapest_j62
      exact wO_pos rfl (wO_some ⟨rfl, rfl, nI_1 _, f1, r1⟩)
  · rintro ⟨w2, w3, w5, t⟩ ⟨e1, e2, e3, f1, r1⟩
    have e3 : w5 = nI (a + 1 + (g.1.1 - (a + 1))) := e3
    subst e3
    have f1 : msF mQ3 m t := f1
    have hM : MN g lv t po st := h.mv f1 (by decide) (by decide)
    unfold mf_cheapest_l26
    refine wO_agv (k := lv) hM.1.2.1 (by omega) (by omega) hM.1.2.2.2.2.1 ?_
    exact wO_pos (nI_le (by omega) (by omega)) (wO_some ⟨e1, e2, f1, r1⟩)
theorem m_cheap {g : gT} {lv : Nat} {po : Option (Nat × Nat)} {m : ms_S} {st ti : Nat} {v1 : Int32} (h : MN g lv m po st) (h29 : m.2.1 29 lv = nI ti) (hti : ti ≤ 20) : wO ((mf_fillsCalm m).bind fun s_3 => mo_loop (mf_cheapest_l15 v1) ((-2 : Int32), (-2 : Int32), (0 : Int32), s_3)) (fun q => q.1 = gc1 (gC3 g ti g.1.1) ∧ q.2.1 = gc2 (gC3 g ti g.1.1) ∧ msF mQ3 m q.2.2) := by
  have hns := h.1.2.2.1
  have hlv := h.1.1
  refine wO_bd (m_fillsCalm h h29 hti) ?_
  rintro m1 ⟨f0, r0⟩
  refine wO_count (fun (k : Nat) (q : Int32 × Int32 × Int32 × ms_S) => q.1 = gc1 (gC3 g ti k) ∧ q.2.1 = gc2 (gC3 g ti k) ∧ q.2.2.1 = nI k ∧ msF mQ3 m q.2.2.2 ∧ ∀ i, i < g.1.1 → q.2.2.2.2.1 61 i = nI (gBs (gCb g ti i) g.1.1)) g.1.1 ?_ ?_ _ ⟨rfl, rfl, rfl, f0, r0⟩
  · rintro k ⟨w2, w3, w4, t⟩ hkk ⟨e1, e2, e3, f1, r1⟩
    have e1 : w2 = gc1 (gC3 g ti k) := e1
    have e2 : w3 = gc2 (gC3 g ti k) := e2
    have e3 : w4 = nI k := e3
    have f1 : msF mQ3 m t := f1
    have r1 : ∀ i, i < g.1.1 → t.2.1 61 i = nI (gBs (gCb g ti i) g.1.1) := r1
    subst e1 e2 e3
    have hM : MN g lv t po st := h.mv f1 (by decide) (by decide)
    unfold mf_cheapest_l15
    refine wO_agv (k := lv) hM.1.2.1 (by omega) (by omega) hM.1.2.2.2.2.1 ?_
    refine wO_neg (nI_ge hkk (by omega)) ?_
    rw [nI_1]
    refine wO_bd (m_cheap_in f1 h h29 hti r1 hkk (gC3_ok hns k (by omega))) ?_
    rintro ⟨q2, q3, t2⟩ ⟨d1, d2, d3, d4⟩
    exact wO_some ⟨d1, d2, rfl, d3, d4⟩
  · rintro ⟨w2, w3, w4, t⟩ ⟨e1, e2, e3, f1, r1⟩
    have e3 : w4 = nI g.1.1 := e3
    subst e3
    have f1 : msF mQ3 m t := f1
    have hM : MN g lv t po st := h.mv f1 (by decide) (by decide)
    unfold mf_cheapest_l15
    refine wO_agv (k := lv) hM.1.2.1 (by omega) (by omega) hM.1.2.2.2.2.1 ?_
    exact wO_pos (Int32.le_refl _) (wO_some ⟨e1, e2, f1⟩)
theorem R_s26 : lw_s26 RR := fun n s m a h hn => RR_q h (fun g lv po st ti h1 h2 hm h29 h3 => by
  rcases pu_small a 2 (by omega) with ⟨k, hk, rfl⟩ | ha
  · obtain ⟨⟨v1, v2, s2⟩, e1, x1, x2, f1, c1, k1⟩ := x_cheap (v1 := nI k) h1 h2 (by omega)
    have x1 : v1 = gc1 (gC3 g ti g.1.1) := x1
    have x2 : v2 = gc2 (gC3 g ti g.1.1) := x2
    subst x1 x2
    obtain ⟨⟨v1, v2, m2⟩, e2, y1, y2, g1⟩ := m_cheap (v1 := nI k) hm h29 h2.2.1
    have y1 : v1 = gc1 (gC3 g ti g.1.1) := y1
    have y2 : v2 = gc2 (gC3 g ti g.1.1) := y2
    subst y1 y2
    obtain ⟨m1, em1, em2⟩ := mo_bind e2
    refine ⟨if k = 0 then gc1 (gC3 g ti g.1.1) else gc2 (gC3 g ti g.1.1), s2, m2, wO_iff.mp ?_, wO_iff.mp ?_, xsF.g f1 (by decide) (by decide), c1, XK.up k1 (by omega), msF.wk g1 (by decide)⟩
    · unfold xf_11_cheapest xf_11_cheapest_j7
      rcases (show k = 0 ∨ k = 1 by omega) with rfl | rfl
      · exact wO_pos rfl (wO_eq e1 (wO_pos rfl (wO_some rfl)))
      · exact wO_neg pu_10 (wO_pos rfl (wO_eq e1 (wO_neg pu_10 (wO_some rfl))))
    · unfold mf_cheapest
      refine wO_eq (m_in_yes (n := 2) hk (by omega)) (wO_neg pu_10 (wO_eq em1 (wO_eq em2 ?_)))
      rcases (show k = 0 ∨ k = 1 by omega) with rfl | rfl
      · exact wO_pos rfl (wO_some rfl)
      · exact wO_neg pu_10 (wO_some rfl)
  · have ne : ∀ k, k < 2 → ¬ a = nI k := fun k hk e => by
      subst e
      rcases ha with ha | ha
      · exact pu_nn (by omega) ha
      · exact nI_ge hk (by omega) ha
    refine ⟨-1, s, m, wO_iff.mp ?_, wO_iff.mp ?_, xsG.rf, h1, h2.up (by omega), msF.rf⟩
    · unfold xf_11_cheapest
      exact wO_neg (ne 0 (by omega)) (wO_neg (ne 1 (by omega)) (wO_some rfl))
    · unfold mf_cheapest
      exact wO_eq (m_in_no (n := 2) (by omega) ha) (wO_pos rfl (wO_some rfl)))
