/-! questions: ways, waking, whole -/
def gQ2 (g : gT) (po : Option (Nat × Nat)) (st : Nat) (s : xs_S) (m : ms_S) (xo : Option (Int32 × xs_S)) (mo : Option (Int32 × ms_S)) : Prop := ∃ a s2 m2, xo = some (a, s2) ∧ mo = some (a, m2) ∧ xsG xQi2 xQa2 s s2 ∧ XC g po st s2 ∧ msF mQ m m2
theorem gQ.two {g : gT} {po : Option (Nat × Nat)} {st : Nat} {s : xs_S} {m : ms_S} {xo : Option (Int32 × xs_S)} {mo : Option (Int32 × ms_S)} (h : gQ g po st s m xo mo) : gQ2 g po st s m xo mo := by
  obtain ⟨a, s2, m2, h1, h2, h3, h4, h5⟩ := h
  exact ⟨a, s2, m2, h1, h2, h3.g (by decide) (by decide), h4, h5⟩
theorem gQ2_of {g : gT} {po : Option (Nat × Nat)} {st : Nat} {s : xs_S} {m : ms_S} {xo : Option (Int32 × xs_S)} {mo : Option (Int32 × ms_S)} {P : Int32 → Prop} (hu : ∀ a b, P a → P b → a = b) (hx : wO xo (fun p => P p.1 ∧ xsG xQi2 xQa2 s p.2 ∧ XC g po st p.2)) (hm : wO mo (fun p => P p.1 ∧ msF mQ m p.2)) : gQ2 g po st s m xo mo := by
  obtain ⟨⟨a, s2⟩, h1, h2, h3, h4⟩ := hx
  obtain ⟨⟨b, m2⟩, k1, k2, k3⟩ := hm
  have e : a = b := hu a b h2 k2
  subst e
  exact ⟨a, s2, m2, h1, k1, h3, h4, k3⟩
def gRv (nw : Nat) (c : Nat → Int32) (A : Nat → Int32) : Prop := ∀ u, gSt nw u → A u = c u
theorem m_rows_more {g : gT} {lv mo : Nat} {s : ms_S} {nx : Nat → Nat → Option Nat} {c : Nat → Int32} {e v1 v3 : Int32} (hT : MT g lv s) (hth : ∀ st, gSt g.1.2 st → ∀ w, w < 7 → s.2.1 51 (7 * st + w) = gE (nx st w)) (hok : ∀ st w u, gSt g.1.2 st → w < 7 → nx st w = some u → gSt g.1.2 u) (hmo : mo ≤ 1) (hz : mo = 0 → ∀ u, gCm u = false → c u = e) (he1 : mo = 1 → e = 1) (hv : gRv g.1.2 c (s.2.1 56)) : wO (mo_loop (mf_rowsOf_l30 v1 (nI mo) v3) (0, s)) (fun t => msF [57] s t ∧ gRv g.1.2 (fun x => gVs nx e c x 7) (t.2.1 57)) := by
  refine wO_count (fun (i : Nat) (p : Int32 × ms_S) => p.1 = nI i ∧ msF [57] s p.2 ∧ ∀ u, gSt g.1.2 u → u < i → p.2.2.1 57 u = gVs nx e c u 7) 294 ?_ ?_ _ ⟨rfl, msF.rf, fun u _ hu => absurd hu (by omega)⟩
  · rintro i ⟨w3, u⟩ hi ⟨e1, hF, hu⟩
    have e1 : w3 = nI i := e1
    subst e1
    have hF : msF [57] s u := hF
    have hu : ∀ v, gSt g.1.2 v → v < i → u.2.1 57 v = gVs nx e c v 7 := hu
    unfold mf_rowsOf_l30
    refine wO_neg (show ¬ (294 : Int32) ≤ nI i from nI_ge (b := 294) hi (by omega)) ?_
    refine wO_in (k := i) rfl (by omega) (by omega) ?_
    rw [nI_clamp (by omega)]
    refine wO_bd (Q := fun t => msF [57] s t ∧ (∀ j, ¬ j = i → t.2.1 57 j = u.2.1 57 j) ∧ (gSt g.1.2 i → t.2.1 57 i = gVs nx e c i 7)) ?_ ?_
    · have hF0 : msF [57] s (ms_sA u 57 (upd (u.2.1 57) i 0)) := hF.tr (msF.sA (by decide))
      have e0 : ∀ j, ¬ j = i → (ms_sA u 57 (upd (u.2.1 57) i 0)).2.1 57 j = u.2.1 57 j := fun j hj => by
        show upd (u.2.1 57) i 0 j = _
        exact upd_ne hj
      have z0 : (ms_sA u 57 (upd (u.2.1 57) i 0)).2.1 57 i = 0 := by
        show upd (u.2.1 57) i 0 i = _
        exact upd_eq
      generalize ms_sA u 57 (upd (u.2.1 57) i 0) = u0 at *
      refine wO_count (fun (j : Nat) (p : Int32 × ms_S) => p.1 = nI j ∧ msF [57] s p.2 ∧ (∀ j, ¬ j = i → p.2.2.1 57 j = u.2.1 57 j) ∧ (gSt g.1.2 i → p.2.2.1 57 i = gVs nx e c i j)) 7 ?_ ?_ _ ⟨rfl, hF0, e0, fun _ => z0⟩
      · rintro j ⟨w4, v⟩ hj ⟨e1, hFv, hne, hat⟩
        have e1 : w4 = nI j := e1
        subst e1
        have hFv : msF [57] s v := hFv
        have hne : ∀ j, ¬ j = i → v.2.1 57 j = u.2.1 57 j := hne
        have hat : gSt g.1.2 i → v.2.1 57 i = gVs nx e c i j := hat
        have hTv : MT g lv v := hT.mv hFv (by decide)
        unfold mf_rowsOf_l40
        refine wO_neg (show ¬ (7 : Int32) ≤ nI j from nI_ge (b := 7) hj (by omega)) ?_
        refine wO_eq (m_isStanding hTv hi) ?_
        cases hb : (decide (i % 7 < g.1.2) || decide (i % 7 = 6)) with
        | false =>
          have hns : ¬ gSt g.1.2 i := fun h => by
            have h1 := h.2
            rw [Bool.or_eq_false_iff, decide_eq_false_iff_not, decide_eq_false_iff_not] at hb
            omega
          exact wO_pos rfl (wO_some ⟨hFv, hne, fun h => absurd h hns⟩)
        | true =>
          have hst : gSt g.1.2 i := by
            rw [Bool.or_eq_true, decide_eq_true_eq, decide_eq_true_eq] at hb
            exact ⟨hi, hb⟩
          refine wO_neg pu_10 ?_
          have ei : (7 : Int32) * nI i + nI j = nI (7 * i + j) := (congrArg (· + nI j) (pu_mul 7 i)).trans (nI_add _ _)
          have h51 : v.2.1 51 (7 * i + j) = gE (nx i j) := by rw [hFv.a 51 (by decide)]; exact hth i hst j hj
          have h56 : v.2.1 56 = s.2.1 56 := hFv.a 56 (by decide)
          refine wO_agv (k := 7 * i + j) ei (by omega) (by omega) h51 ?_
          cases hx : nx i j with
          | none =>
            unfold mf_rowsOf_j76
            exact wO_pos (show (-1 : Int32) < 0 by decide) (wO_some ⟨nI_1 j, hFv, hne, fun h => by rw [gVs_1 hx]; exact hat h⟩)
          | some y =>
            have hsy := hok i j y hst hj hx
            have hy1 := hsy.1
            show wO (if nI y < (0 : Int32) then _ else _) _
            refine wO_neg (pu_nn (by omega)) ?_
            refine wO_agv (k := i) rfl (by omega) (by omega) (hat hst) ?_
            have put : ∀ k0 : Int32, gVs nx e c i j + k0 = gVs nx e c i (j + 1) → wO (mf_rowsOf_j74 v v1 (nI mo) v3 (nI i) (nI j) k0 (gVs nx e c i j) (nI i)) (mo_sum (fun p => p.1 = nI (j + 1) ∧ msF [57] s p.2 ∧ (∀ j, ¬ j = i → p.2.2.1 57 j = u.2.1 57 j) ∧ (gSt g.1.2 i → p.2.2.1 57 i = gVs nx e c i (j + 1))) (fun t => msF [57] s t ∧ (∀ j, ¬ j = i → t.2.1 57 j = u.2.1 57 j) ∧ (gSt g.1.2 i → t.2.1 57 i = gVs nx e c i 7))) := by
              intro k0 hk0
              unfold mf_rowsOf_j74 mf_rowsOf_j76
              refine wO_in (k := i) rfl (by omega) (by omega) ?_
              rw [nI_clamp (by omega)]
              refine wO_some ⟨nI_1 j, hFv.tr (msF.sA (by decide)), fun j2 hj2 => ?_, fun _ => ?_⟩
              · show upd (v.2.1 57) i _ j2 = _
                rw [upd_ne hj2]
                exact hne j2 hj2
              · show upd (v.2.1 57) i _ i = _
                rw [upd_eq]
                exact hk0
            have put2 : (gCm y = true ∨ c y = e) → wO (mf_rowsOf_j70 v v1 (nI mo) v3 (nI i) (nI j) (nI y) (gVs nx e c i j) (nI i)) (mo_sum (fun p => p.1 = nI (j + 1) ∧ msF [57] s p.2 ∧ (∀ j, ¬ j = i → p.2.2.1 57 j = u.2.1 57 j) ∧ (gSt g.1.2 i → p.2.2.1 57 i = gVs nx e c i (j + 1))) (fun t => msF [57] s t ∧ (∀ j, ¬ j = i → t.2.1 57 j = u.2.1 57 j) ∧ (gSt g.1.2 i → t.2.1 57 i = gVs nx e c i 7))) := by
              intro hcy
              unfold mf_rowsOf_j70
              refine wO_agv (k := y) (v := c y) rfl (by omega) (by omega) (by rw [h56]; exact hv y hsy) ?_
              refine put _ ?_
              cases hc : gCm y with
              | true => rw [gVs_2 hx hc]
              | false =>
                rcases hcy with k | k
                · rw [hc] at k; cases k
                · rw [gVs_3 hx hc, k]
            by_cases hm0 : mo = 0
            · refine wO_pos (by rw [hm0]; rfl) (put2 ?_)
              cases hc : gCm y with
              | true => exact Or.inl rfl
              | false => exact Or.inr (hz hm0 y hc)
            · have hm1 : mo = 1 := by omega
              refine wO_neg (by rw [hm1]; exact pu_10) ?_
              refine wO_eq (m_isCalm hy1) ?_
              cases hc : gCm y with
              | true => exact wO_neg pu_10 (put2 (Or.inl hc))
              | false => exact wO_pos rfl (put 1 (by rw [gVs_3 hx hc, he1 hm1]))
      · rintro ⟨w4, v⟩ ⟨e1, hFv, hne, hat⟩
        have e1 : w4 = nI 7 := e1
        subst e1
        unfold mf_rowsOf_l40
        exact wO_pos (show (7 : Int32) ≤ nI 7 from Int32.le_refl _) (wO_some ⟨hFv, hne, hat⟩)
    · rintro t ⟨t1, t2, t3⟩
      unfold mf_rowsOf_j78
      refine wO_some ⟨nI_1 i, t1, fun v hv2 hlt => ?_⟩
      by_cases he : v = i
      · subst he; exact t3 hv2
      · exact (t2 v he).trans (hu v hv2 (by omega))
  · rintro ⟨w3, u⟩ ⟨e1, hF, hu⟩
    have e1 : w3 = nI 294 := e1
    subst e1
    unfold mf_rowsOf_l30
    exact wO_pos (Int32.le_refl _) (wO_some ⟨hF, fun v hv2 => hu v hv2 hv2.1⟩)
def gVe (mo : Nat) : Int32 := if mo = 0 then 0 else 1
def gVb (mo u : Nat) : Int32 := if mo = 0 then (bif gCm u then 1 else 0) else 0
theorem gV_z {g : gT} {po : Option (Nat × Nat)} {k u : Nat} (hc : gCm u = false) : gV (gNx g po 0) (gVe 0) (gVb 0) k u = gVe 0 := by
  cases k with
  | zero =>
    show gVb 0 u = _
    unfold gVb gVe
    rw [if_pos rfl, if_pos rfl, hc]
    rfl
  | succ k =>
    show gVs _ _ _ u 7 = _
    refine gVs_0 (fun w _ => ?_)
    cases hu : gNx g po 0 u w with
    | none => rfl
    | some v => rw [(gNx_cm hu).1] at hc; cases hc
theorem m_rowsOf {g : gT} {lv mo k : Nat} {m : ms_S} {po : Option (Nat × Nat)} {st : Nat} (hm : MN g lv m po st) (hmo : mo ≤ 1) (hk : k ≤ 7) : wO (mf_rowsOf m (nI k) (nI mo)) (fun p => p.1 = gV (gNx g po 0) (gVe mo) (gVb mo) k st ∧ msF mQ m p.2) := by
  have hn := hm.1.2.2.2.1
  have hst := hm.2.1
  have hst1 := hst.1
  have hok : ∀ st w u, gSt g.1.2 st → w < 7 → gNx g po 0 st w = some u → gSt g.1.2 u := fun st w u hst _ hu => gNx_ok hn hst.1 hu
  unfold mf_rowsOf
  refine wO_bd (m_copies hm) ?_
  rintro m1 ⟨f1, r1, l1, w1⟩
  refine wO_bd (m_fillsThen w1) ?_
  rintro m2 ⟨f2, r2, th⟩
  have w2 : MW g lv m2 po 0 (st / 14) (st / 7 % 2) (st % 7) := by
    obtain ⟨a1, a2, a3, a4, a5, a6, a7, a8⟩ := w1
    exact ⟨a1.mv f2 (by decide), a2.mv (by rw [r2]) (by rw [r2]), (f2.i 50 (by decide)).trans a3, a4, by rw [r2]; exact a5, by rw [r2]; exact a6, by rw [r2]; exact a7, a8⟩
  have f12 : msF mQ m m2 := (f1.wk (by decide)).tr (f2.wk (by decide))
  refine wO_bd (Q := fun t => msF [56] m2 t ∧ gRv g.1.2 (gVb mo) (t.2.1 56)) ?_ ?_
  · refine wO_count (fun (i : Nat) (p : Int32 × ms_S) => p.1 = nI i ∧ msF [56] m2 p.2 ∧ ∀ j, j < i → p.2.2.1 56 j = gVb mo j) 294 ?_ ?_ _ ⟨rfl, msF.rf, fun j hj => absurd hj (by omega)⟩
    · rintro i ⟨w, u⟩ hi ⟨e, hF, hu⟩
      have e : w = nI i := e
      subst e
      unfold mf_rowsOf_l6 mf_rowsOf_j19
      refine wO_neg (show ¬ (294 : Int32) ≤ nI i from nI_ge (b := 294) hi (by omega)) ?_
      have key : ∀ k0 : Int32, k0 = gVb mo i → wO (mf_rowsOf_j20 u (nI k) (nI mo) (nI i) k0 (nI i)) (mo_sum (fun p => p.1 = nI (i + 1) ∧ msF [56] m2 p.2 ∧ ∀ j, j < i + 1 → p.2.2.1 56 j = gVb mo j) (fun t => msF [56] m2 t ∧ gRv g.1.2 (gVb mo) (t.2.1 56))) := by
        intro k0 hk
        unfold mf_rowsOf_j20
        refine wO_in (k := i) rfl (by omega) (by omega) ?_
        rw [nI_clamp (by omega)]
        refine wO_some ⟨nI_1 i, hF.tr (msF.sA (by decide)), fun j hj => ?_⟩
        show upd (u.2.1 56) i k0 j = _
        by_cases he : j = i
        · subst he; rw [upd_eq]; exact hk
        · rw [upd_ne he]; exact hu j (by omega)
      by_cases hm0 : mo = 0
      · refine wO_pos (by rw [hm0]; rfl) ?_
        refine wO_eq (m_isCalm hi) ?_
        cases hc : gCm i with
        | false => exact wO_pos rfl (key 0 (by unfold gVb; rw [if_pos hm0, hc]; rfl))
        | true => exact wO_neg pu_10 (key 1 (by unfold gVb; rw [if_pos hm0, hc]; rfl))
      · have hm1 : mo = 1 := by omega
        refine wO_neg (by rw [hm1]; exact pu_10) (key 0 (by unfold gVb; rw [if_neg hm0]))
    · rintro ⟨w, u⟩ ⟨e, hF, hu⟩
      have e : w = nI 294 := e
      subst e
      unfold mf_rowsOf_l6
      exact wO_pos (Int32.le_refl _) (wO_some ⟨hF, fun v hv => hu v hv.1⟩)
  · rintro m3 ⟨f3, v3⟩
    have hT3 : MT g lv m3 := w2.1.mv f3 (by decide)
    have th3 : ∀ st, gSt g.1.2 st → ∀ w, w < 7 → m3.2.1 51 (7 * st + w) = gE (gNx g po 0 st w) := fun st hs w hw => by rw [f3.a 51 (by decide)]; exact th st hs w hw
    refine wO_bd (Q := fun t => msF [56, 57] m3 t ∧ gRv g.1.2 (gV (gNx g po 0) (gVe mo) (gVb mo) k) (t.2.1 56)) ?_ ?_
    · refine wO_count (fun (i : Nat) (p : Int32 × ms_S) => p.1 = nI i ∧ msF [56, 57] m3 p.2 ∧ gRv g.1.2 (gV (gNx g po 0) (gVe mo) (gVb mo) i) (p.2.2.1 56)) k ?_ ?_ _ ⟨rfl, msF.rf, v3⟩
      · rintro i ⟨w, u⟩ hi ⟨e, hF, hv⟩
        have e : w = nI i := e
        subst e
        have hF : msF [56, 57] m3 u := hF
        unfold mf_rowsOf_l25
        refine wO_neg (nI_ge hi (by omega)) ?_
        refine wO_bd (m_rows_more (e := gVe mo) (c := gV (gNx g po 0) (gVe mo) (gVb mo) i) (s := u) (hT3.mv hF (by decide)) (fun st hs w hw => by rw [hF.a 51 (by decide)]; exact th3 st hs w hw) hok hmo (fun h0 u hc => by subst h0; exact gV_z hc) (fun h1 => by unfold gVe; rw [h1]; rfl) hv) ?_
        rintro t ⟨t1, t2⟩
        refine wO_bd m_keepsMore ?_
        rintro t5 ⟨t3, t4⟩
        exact wO_some ⟨nI_1 i, hF.tr ((t1.wk (by decide)).tr (t3.wk (by decide))), fun v hv2 => (t4 v hv2.1).trans (t2 v hv2)⟩
      · rintro ⟨w, u⟩ ⟨e, hF, hv⟩
        have e : w = nI k := e
        subst e
        unfold mf_rowsOf_l25
        exact wO_pos (Int32.le_refl _) (wO_some ⟨hF, hv⟩)
    · rintro t ⟨t1, t2⟩
      have e48 : t.2.1 48 = m2.2.1 48 := (t1.a 48 (by decide)).trans (f3.a 48 (by decide))
      have num : mf_numberNow t = some (nI st, t) := by
        rw [m_number (sl := st / 14) (tu := st / 7 % 2) (la := st % 7) (by rw [e48]; exact w2.2.2.2.2.1) (by rw [e48]; exact w2.2.2.2.2.2.1) (by rw [e48]; exact w2.2.2.2.2.2.2.1)]
        congr 3
        omega
      refine wO_eq num ?_
      exact wO_agv (k := st) rfl (by omega) (by omega) (t2 st hst) (wO_some ⟨rfl, f12.tr ((f3.wk (by decide)).tr (t1.wk (by decide)))⟩)
