/-! question: together (the reference) -/
def gCm (st : Nat) : Bool := decide (0 < st / 14) && decide (st / 14 < 20)
def gTk (nx : Nat → Nat → Option Nat) : Nat → Nat → Bool
  | 0 => gCm
  | k + 1 => fun st => gAny (fun w => match nx st w with
    | none => false
    | some u => gTk nx k u) 7
def gTs (nx : Nat → Nat → Option Nat) (k st w : Nat) : Bool := match nx st w with
  | none => false
  | some u => gTk nx k u
theorem gTk_s {nx : Nat → Nat → Option Nat} {k st : Nat} : gTk nx (k + 1) st = gAny (gTs nx k st) 7 := rfl
/-- how long: what both answer -/
def gTg (nx : Nat → Nat → Option Nat) (st N : Nat) (a : Int32) : Prop := (∃ k, k < N ∧ (∀ j, j < k → gTk nx (j + 1) st = true) ∧ gTk nx (k + 1) st = false ∧ a = nI k) ∨ ((∀ j, j < N → gTk nx (j + 1) st = true) ∧ a = nI N)
theorem gTg_u {nx : Nat → Nat → Option Nat} {st N : Nat} (a b : Int32) (h : gTg nx st N a) (k : gTg nx st N b) : a = b := by
  rcases h with ⟨i, h1, h2, h3, h4⟩ | ⟨h1, h2⟩
  · rcases k with ⟨j, k1, k2, k3, k4⟩ | ⟨k1, k2⟩
    · have : i = j := by
        rcases Nat.lt_trichotomy i j with e | e | e
        · have := k2 i e
          rw [h3] at this; cases this
        · exact e
        · have := h2 j e
          rw [k3] at this; cases this
      subst this
      exact h4.trans k4.symm
    · have := k1 i h1
      rw [h3] at this; cases this
  · rcases k with ⟨j, k1, k2, k3, k4⟩ | ⟨k1, k2⟩
    · have := h1 j k1
      rw [k3] at this; cases this
    · exact h2.trans k2.symm
def gTv (nw : Nat) (f : Nat → Bool) (A : Nat → Int32) : Prop := ∀ u, gSt nw u → A u = bif f u then 1 else 0
theorem m_isCalm {st : Nat} (h : st < 294) : mf_isCalm (nI st) = some (bif gCm st then 1 else 0) := by
  unfold mf_isCalm gCm
  rw [show nI st / (14 : Int32) = nI (st / 14) from pu_div (b := 14) (by omega) (by omega)]
  by_cases h1 : 0 < st / 14
  · rw [if_neg (nI_nle (by omega) (by omega)), decide_eq_true h1]
    by_cases h2 : st / 14 < 20
    · rw [if_neg (show ¬ (20 : Int32) ≤ nI (st / 14) from nI_ge (b := 20) h2 (by omega)), decide_eq_true h2]; rfl
    · rw [if_pos (show (20 : Int32) ≤ nI (st / 14) from nI_le (a := 20) (by omega) (by omega)), decide_eq_false h2]; rfl
  · have h0 : st / 14 = 0 := by omega
    rw [h0]
    rfl
theorem m_tog_more {g : gT} {lv k : Nat} {s : ms_S} {nx : Nat → Nat → Option Nat} {v1 v2 : Int32} (hT : MT g lv s) (hth : ∀ st, gSt g.1.2 st → ∀ w, w < 7 → s.2.1 51 (7 * st + w) = gE (nx st w)) (hok : ∀ st w u, gSt g.1.2 st → w < 7 → nx st w = some u → gSt g.1.2 u) (hv : gTv g.1.2 (gTk nx k) (s.2.1 56)) : wO (mo_loop (mf_together_l39 v1 v2) (0, s)) (fun t => msF [57] s t ∧ gTv g.1.2 (gTk nx (k + 1)) (t.2.1 57)) := by
  refine wO_count (fun (i : Nat) (p : Int32 × ms_S) => p.1 = nI i ∧ msF [57] s p.2 ∧ ∀ u, gSt g.1.2 u → u < i → p.2.2.1 57 u = bif gTk nx (k + 1) u then 1 else 0) 294 ?_ ?_ _ ⟨rfl, msF.rf, fun u _ hu => absurd hu (by omega)⟩
  · rintro i ⟨w3, u⟩ hi ⟨e, hF, hu⟩
    have e : w3 = nI i := e
    subst e
    have hF : msF [57] s u := hF
    have hu : ∀ v, gSt g.1.2 v → v < i → u.2.1 57 v = bif gTk nx (k + 1) v then 1 else 0 := hu
    unfold mf_together_l39
    refine wO_neg (show ¬ (294 : Int32) ≤ nI i from nI_ge (b := 294) hi (by omega)) ?_
    refine wO_in (k := i) rfl (by omega) (by omega) ?_
    rw [nI_clamp (by omega)]
    refine wO_bd (Q := fun t => msF [57] s t ∧ (∀ j, ¬ j = i → t.2.1 57 j = u.2.1 57 j) ∧ (gSt g.1.2 i → t.2.1 57 i = bif gTk nx (k + 1) i then 1 else 0)) ?_ ?_
    · have hF0 : msF [57] s (ms_sA u 57 (upd (u.2.1 57) i 0)) := hF.tr (msF.sA (by decide))
      have e0 : ∀ j, ¬ j = i → (ms_sA u 57 (upd (u.2.1 57) i 0)).2.1 57 j = u.2.1 57 j := fun j hj => by
        show upd (u.2.1 57) i 0 j = _
        exact upd_ne hj
      have z0 : (ms_sA u 57 (upd (u.2.1 57) i 0)).2.1 57 i = 0 := by
        show upd (u.2.1 57) i 0 i = _
        exact upd_eq
      generalize ms_sA u 57 (upd (u.2.1 57) i 0) = u0 at *
      refine wO_count (fun (j : Nat) (p : Int32 × ms_S) => p.1 = nI j ∧ msF [57] s p.2 ∧ (∀ j, ¬ j = i → p.2.2.1 57 j = u.2.1 57 j) ∧ (gSt g.1.2 i → p.2.2.1 57 i = bif gAny (gTs nx k i) j then 1 else 0)) 7 ?_ ?_ _ ⟨rfl, hF0, e0, fun _ => z0⟩
      · rintro j ⟨w4, v⟩ hj ⟨e, hFv, hne, hat⟩
        have e : w4 = nI j := e
        subst e
        have hFv : msF [57] s v := hFv
        have hTv : MT g lv v := hT.mv hFv (by decide)
        unfold mf_together_l49
        refine wO_neg (show ¬ (7 : Int32) ≤ nI j from nI_ge (b := 7) hj (by omega)) ?_
        refine wO_eq (m_isStanding hTv hi) ?_
        cases hb : (decide (i % 7 < g.1.2) || decide (i % 7 = 6)) with
        | false =>
          have hns : ¬ gSt g.1.2 i := fun h => by
            have h1 := h.2
            rw [Bool.or_eq_false_iff, decide_eq_false_iff_not, decide_eq_false_iff_not] at hb
            omega
          exact wO_pos rfl (wO_some ⟨hFv, hne, fun h => absurd h hns⟩)
        | true =>
          have hst : gSt g.1.2 i := by
            rw [Bool.or_eq_true, decide_eq_true_eq, decide_eq_true_eq] at hb
            exact ⟨hi, hb⟩
          refine wO_neg pu_10 ?_
          have ei : (7 : Int32) * nI i + nI j = nI (7 * i + j) := (congrArg (· + nI j) (pu_mul 7 i)).trans (nI_add _ _)
          have h51 : v.2.1 51 (7 * i + j) = gE (nx i j) := by rw [hFv.a 51 (by decide)]; exact hth i hst j hj
          have h56 : v.2.1 56 = s.2.1 56 := hFv.a 56 (by decide)
          refine wO_agv (k := 7 * i + j) ei (by omega) (by omega) h51 ?_
          unfold mf_together_j83
          have same : gTs nx k i j = false → wO (some (Sum.inl (nI j + (1 : Int32), v)) : Option ((Int32 × ms_S) ⊕ ms_S)) (mo_sum (fun p => p.1 = nI (j + 1) ∧ msF [57] s p.2 ∧ (∀ j, ¬ j = i → p.2.2.1 57 j = u.2.1 57 j) ∧ (gSt g.1.2 i → p.2.2.1 57 i = bif gAny (gTs nx k i) (j + 1) then 1 else 0)) (fun t => msF [57] s t ∧ (∀ j, ¬ j = i → t.2.1 57 j = u.2.1 57 j) ∧ (gSt g.1.2 i → t.2.1 57 i = bif gTk nx (k + 1) i then 1 else 0))) := fun e => wO_some ⟨nI_1 j, hFv, hne, fun h => by
            simp only [gAny, e, Bool.or_false]
            exact hat h⟩
          cases hx : nx i j with
          | none => exact wO_pos (show (-1 : Int32) < 0 by decide) (same (by simp only [gTs, hx]))
          | some y =>
            have hsy := hok i j y hst hj hx
            have hy1 := hsy.1
            rw [hx] at h51
            show wO (if nI y < (0 : Int32) then _ else _) _
            refine wO_neg (pu_nn (by omega)) ?_
            refine wO_agv (k := 7 * i + j) (v := nI y) ei (by omega) (by omega) h51 ?_
            refine wO_agv (k := y) (v := bif gTk nx k y then 1 else 0) rfl (by omega) (by omega) (by rw [h56]; exact hv y hsy) ?_
            cases hty : gTk nx k y with
            | false => exact wO_neg (show ¬ (0 : Int32) = 1 by decide) (same (by simp only [gTs, hx, hty]))
            | true =>
              refine wO_pos rfl ?_
              refine wO_in (k := i) rfl (by omega) (by omega) ?_
              rw [nI_clamp (by omega)]
              refine wO_some ⟨nI_1 j, hFv.tr (msF.sA (by decide)), fun j2 hj2 => ?_, fun _ => ?_⟩
              · show upd (v.2.1 57) i 1 j2 = _
                rw [upd_ne hj2]
                exact hne j2 hj2
              · show upd (v.2.1 57) i 1 i = _
                rw [upd_eq]
                have : gTs nx k i j = true := by simp only [gTs, hx, hty]
                simp only [gAny, this, Bool.or_true, cond_true]
      · rintro ⟨w4, v⟩ ⟨e, hFv, hne, hat⟩
        have e : w4 = nI 7 := e
        subst e
        unfold mf_together_l49
        exact wO_pos (show (7 : Int32) ≤ nI 7 from Int32.le_refl _) (wO_some ⟨hFv, hne, hat⟩)
    · rintro t ⟨t1, t2, t3⟩
      unfold mf_together_j85
      refine wO_some ⟨nI_1 i, t1, fun v hv2 hlt => ?_⟩
      by_cases he : v = i
      · subst he; exact t3 hv2
      · exact (t2 v he).trans (hu v hv2 (by omega))
  · rintro ⟨w3, u⟩ ⟨e, hF, hu⟩
    have e : w3 = nI 294 := e
    subst e
    unfold mf_together_l39
    exact wO_pos (Int32.le_refl _) (wO_some ⟨hF, fun v hv2 => hu v hv2 hv2.1⟩)
theorem m_keepsMore {s : ms_S} : wO (mf_keepsMore s) (fun t => msF [56] s t ∧ ∀ j, j < 294 → t.2.1 56 j = s.2.1 57 j) := by
  unfold mf_keepsMore
  refine wO_bd (Q := fun t => msF [56] s t ∧ ∀ j, j < 294 → t.2.1 56 j = s.2.1 57 j) ?_ (fun t ht => wO_some ht)
  refine wO_count (fun (i : Nat) (p : Int32 × ms_S) => p.1 = nI i ∧ msF [56] s p.2 ∧ ∀ j, j < i → p.2.2.1 56 j = s.2.1 57 j) 294 ?_ ?_ _ ⟨rfl, msF.rf, fun j hj => absurd hj (by omega)⟩
  · rintro i ⟨w, u⟩ hi ⟨e, hF, hu⟩
    have e : w = nI i := e
    subst e
    have hF : msF [56] s u := hF
    unfold mf_keepsMore_l2
    refine wO_neg (show ¬ (294 : Int32) ≤ nI i from nI_ge (b := 294) hi (by omega)) ?_
    refine wO_agv (k := i) (v := s.2.1 57 i) rfl (by omega) (by omega) (by rw [hF.a 57 (by decide)]) ?_
    refine wO_in (k := i) rfl (by omega) (by omega) ?_
    rw [nI_clamp (by omega)]
    refine wO_some ⟨nI_1 i, hF.tr (msF.sA (by decide)), fun j hj => ?_⟩
    show upd (u.2.1 56) i (s.2.1 57 i) j = _
    by_cases he : j = i
    · subst he; exact upd_eq
    · rw [upd_ne he]; exact hu j (by omega)
  · rintro ⟨w, u⟩ ⟨e, hF, hu⟩
    have e : w = nI 294 := e
    subst e
    unfold mf_keepsMore_l2
    exact wO_pos (Int32.le_refl _) (wO_some ⟨hF, hu⟩)
theorem gNx_po {g : gT} {wo st w : Nat} : gNx g none wo st w = none := rfl
theorem gNx_cm {g : gT} {po : Option (Nat × Nat)} {wo st w u : Nat} (h : gNx g po wo st w = some u) : gCm st = true ∧ po.isSome = true := by
  unfold gNx at h
  cases po with
  | none => cases h
  | some p =>
    refine ⟨?_, rfl⟩
    simp only at h
    unfold gCm
    by_cases c1 : 0 < st / 14
    · by_cases c2 : st / 14 < 20
      · rw [decide_eq_true c1, decide_eq_true c2]; rfl
      · exfalso
        split at h
        · unfold gCan at h
          simp only at h
          rw [decide_eq_false c2] at h
          simp at h
        · split at h
          · rw [decide_eq_false c2] at h
            simp at h
          · cases h
    · exfalso
      split at h
      · unfold gCan at h
        simp only at h
        rw [decide_eq_false c1] at h
        simp at h
      · split at h
        · rw [decide_eq_false c1] at h
          simp at h
        · cases h
theorem gTk_0 {g : gT} {po : Option (Nat × Nat)} {wo st k : Nat} (h : gCm st = false ∨ po.isSome = false) : gTk (gNx g po wo) (k + 1) st = false := by
  rw [gTk_s, gAny_no]
  intro w _
  unfold gTs
  cases hu : gNx g po wo st w with
  | none => rfl
  | some u =>
    have := gNx_cm hu
    rcases h with e | e
    · rw [e] at this; cases this.1
    · rw [e] at this; cases this.2
theorem m_together {g : gT} {lv : Nat} {m : ms_S} {po : Option (Nat × Nat)} {st : Nat} (hm : MN g lv m po st) : wO (mf_together m) (fun p => gTg (gNx g po 0) st 200 p.1 ∧ msF mQ m p.2) := by
  have hn := hm.1.2.2.2.1
  have hst := hm.2.1
  have hst1 := hst.1
  have hok : ∀ st w u, gSt g.1.2 st → w < 7 → gNx g po 0 st w = some u → gSt g.1.2 u := fun st w u hst _ hu => gNx_ok hn hst.1 hu
  unfold mf_together
  refine wO_bd (m_copies hm) ?_
  rintro m1 ⟨f1, r1, l1, w1⟩
  refine wO_bd (m_fillsThen w1) ?_
  rintro m2 ⟨f2, r2, th⟩
  have w2 : MW g lv m2 po 0 (st / 14) (st / 7 % 2) (st % 7) := by
    obtain ⟨a1, a2, a3, a4, a5, a6, a7, a8⟩ := w1
    exact ⟨a1.mv f2 (by decide), a2.mv (by rw [r2]) (by rw [r2]), (f2.i 50 (by decide)).trans a3, a4, by rw [r2]; exact a5, by rw [r2]; exact a6, by rw [r2]; exact a7, a8⟩
  have f12 : msF mQ m m2 := (f1.wk (by decide)).tr (f2.wk (by decide))
  refine wO_eq (m_num w2) ?_
  refine wO_eq (m_areThere w2.2.1 (hm.1.2.2.1)) ?_
  have early : gCm st = false ∨ po.isSome = false → gTg (gNx g po 0) st 200 0 := fun h => Or.inl ⟨0, by omega, fun j hj => absurd hj (by omega), gTk_0 h, rfl⟩
  cases hpo : po.isSome with
  | false => exact wO_pos rfl (wO_some ⟨early (Or.inr hpo), f12⟩)
  | true =>
    refine wO_neg pu_10 ?_
    refine wO_eq (m_isAsleep w2.2.2.2.2.1 (by omega)) ?_
    show wO (if (bif gCm st then (1 : Int32) else 0) = 0 then _ else _) _
    cases hcm : gCm st with
    | false => exact wO_pos rfl (wO_some ⟨early (Or.inl hcm), f12⟩)
    | true =>
      refine wO_neg pu_10 ?_
      refine wO_bd (Q := fun t => msF [56] m2 t ∧ gTv g.1.2 (gTk (gNx g po 0) 0) (t.2.1 56)) ?_ ?_
      · refine wO_count (fun (i : Nat) (p : Int32 × ms_S) => p.1 = nI i ∧ msF [56] m2 p.2 ∧ ∀ j, j < i → p.2.2.1 56 j = bif gCm j then 1 else 0) 294 ?_ ?_ _ ⟨rfl, msF.rf, fun j hj => absurd hj (by omega)⟩
        · rintro i ⟨w, u⟩ hi ⟨e, hF, hu⟩
          have e : w = nI i := e
          subst e
          unfold mf_together_l17
          refine wO_neg (show ¬ (294 : Int32) ≤ nI i from nI_ge (b := 294) hi (by omega)) ?_
          refine wO_eq (m_isCalm hi) ?_
          have key : ∀ k0 : Int32, k0 = (bif gCm i then 1 else 0) → wO (mf_together_j29 u (nI st) (nI i) k0 (nI i)) (mo_sum (fun p => p.1 = nI (i + 1) ∧ msF [56] m2 p.2 ∧ ∀ j, j < i + 1 → p.2.2.1 56 j = bif gCm j then 1 else 0) (fun t => msF [56] m2 t ∧ gTv g.1.2 (gTk (gNx g po 0) 0) (t.2.1 56))) := by
            intro k0 hk
            unfold mf_together_j29
            refine wO_in (k := i) rfl (by omega) (by omega) ?_
            rw [nI_clamp (by omega)]
            refine wO_some ⟨nI_1 i, hF.tr (msF.sA (by decide)), fun j hj => ?_⟩
            show upd (u.2.1 56) i k0 j = _
            by_cases he : j = i
            · subst he; rw [upd_eq]; exact hk
            · rw [upd_ne he]; exact hu j (by omega)
          cases hc : gCm i with
          | false => exact wO_pos rfl (key 0 (by rw [hc]; rfl))
          | true => exact wO_neg pu_10 (key 1 (by rw [hc]; rfl))
        · rintro ⟨w, u⟩ ⟨e, hF, hu⟩
          have e : w = nI 294 := e
          subst e
          unfold mf_together_l17
          exact wO_pos (Int32.le_refl _) (wO_some ⟨hF, fun v hv => hu v hv.1⟩)
      · rintro m3 ⟨f3, v3⟩
        have hT3 : MT g lv m3 := w2.1.mv f3 (by decide)
        have th3 : ∀ st, gSt g.1.2 st → ∀ w, w < 7 → m3.2.1 51 (7 * st + w) = gE (gNx g po 0 st w) := fun st hs w hw => by rw [f3.a 51 (by decide)]; exact th st hs w hw
        refine wO_bd (Q := fun x => (∃ k u, x = .inl (nI (k + 1), u) ∧ msF [56, 57] m3 u ∧ k < 200 ∧ (∀ j, j < k → gTk (gNx g po 0) (j + 1) st = true) ∧ gTk (gNx g po 0) (k + 1) st = false) ∨ (∃ u, x = .inr u ∧ msF [56, 57] m3 u ∧ ∀ j, j < 200 → gTk (gNx g po 0) (j + 1) st = true)) ?_ ?_
        · refine wO_count (fun (k : Nat) (p : Int32 × ms_S) => p.1 = nI (k + 1) ∧ msF [56, 57] m3 p.2 ∧ gTv g.1.2 (gTk (gNx g po 0) k) (p.2.2.1 56) ∧ ∀ j, j < k → gTk (gNx g po 0) (j + 1) st = true) 200 ?_ ?_ _ ⟨rfl, msF.rf, v3, fun j hj => absurd hj (by omega)⟩
          · rintro k ⟨w, u⟩ hk ⟨e, hF, hv, hj⟩
            have e : w = nI (k + 1) := e
            subst e
            have hF : msF [56, 57] m3 u := hF
            unfold mf_together_l34
            refine wO_neg (show ¬ (200 : Int32) < nI (k + 1) from nI_nlt (a := 200) (by omega) (by omega)) ?_
            refine wO_bd (m_tog_more (k := k) (s := u) (hT3.mv hF (by decide)) (fun st hs w hw => by rw [hF.a 51 (by decide)]; exact th3 st hs w hw) hok hv) ?_
            rintro t ⟨t1, t2⟩
            refine wO_agv (k := st) rfl (by omega) (by omega) (t2 st hst) ?_
            cases hk1 : gTk (gNx g po 0) (k + 1) st with
            | false => exact wO_pos rfl (wO_some (Or.inl ⟨k, t, rfl, hF.tr (t1.wk (by decide)), hk, hj, hk1⟩))
            | true =>
              refine wO_neg pu_10 ?_
              refine wO_bd m_keepsMore ?_
              rintro t5 ⟨t3, t4⟩
              refine wO_some ⟨nI_1 (k + 1), hF.tr ((t1.wk (by decide)).tr (t3.wk (by decide))), fun v hv2 => ?_, fun j hj2 => ?_⟩
              · exact (t4 v hv2.1).trans (t2 v hv2)
              · by_cases he : j = k
                · subst he; exact hk1
                · exact hj j (by omega)
          · rintro ⟨w, u⟩ ⟨e, hF, hv, hj⟩
            have e : w = nI (200 + 1) := e
            subst e
            unfold mf_together_l34
            exact wO_pos (show (200 : Int32) < nI (200 + 1) by decide) (wO_some (Or.inr ⟨u, rfl, hF, hj⟩))
        · rintro _ (⟨k, u, rfl, k1, k2, k3, k4⟩ | ⟨u, rfl, k1, k2⟩)
          · refine wO_some ⟨Or.inl ⟨k, k2, k3, k4, ?_⟩, f12.tr ((f3.wk (by decide)).tr (k1.wk (by decide)))⟩
            show nI (k + 1) - (1 : Int32) = nI k
            exact pu_sub (b := 1) (by omega)
          · exact wO_some ⟨Or.inr ⟨k2, rfl⟩, f12.tr ((f3.wk (by decide)).tr (k1.wk (by decide)))⟩
