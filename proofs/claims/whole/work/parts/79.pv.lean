/-! the reference: who wins, all standings -/
theorem gDc_congr {nx : Nat → Nat → Option Nat} {f h : Nat → Option (Nat × Nat)} {st R R2 : Nat} (e : ∀ w u, w < 7 → nx st w = some u → f u = h u) : (gDc nx f st R = none ↔ gDc nx h st R2 = none) ∧ gWn (gDc nx f st R) = gWn (gDc nx h st R2) := by
  have e1 : ∀ w, w < 7 → gHit nx f (1 + st / 7 % 2) st w = gHit nx h (1 + st / 7 % 2) st w := by
    intro w hw
    unfold gHit
    cases hu : nx st w with
    | none => rfl
    | some u => simp only; rw [e w u hw hu]
  have e2 : ∀ w, w < 7 → gFnd nx f st w = gFnd nx h st w := by
    intro w hw
    unfold gFnd
    cases hu : nx st w with
    | none => rfl
    | some u => simp only; rw [e w u hw hu]
  have a1 : ∀ n, n ≤ 7 → gAny (gHit nx f (1 + st / 7 % 2) st) n = gAny (gHit nx h (1 + st / 7 % 2) st) n := by
    intro n
    induction n with
    | zero => intro _; rfl
    | succ n ih => intro hn; simp only [gAny]; rw [ih (by omega), e1 n (by omega)]
  have a2 : ∀ n, n ≤ 7 → gCt (gFnd nx f st) n = gCt (gFnd nx h st) n := by
    intro n
    induction n with
    | zero => intro _; rfl
    | succ n ih => intro hn; simp only [gCt]; rw [ih (by omega), e2 n (by omega)]
  unfold gDc
  rw [a1 7 (by omega), a2 7 (by omega)]
  cases gAny (gHit nx h (1 + st / 7 % 2) st) 7 with
  | true => simp [gWn]
  | false =>
    simp only [cond_false]
    cases (gAny (gMv nx st) 7 && decide (gCt (gFnd nx h st) 7 = gCt (gMv nx st) 7)) <;> simp [gWn]
/-- nothing new in one round: nothing new ever -/
theorem gWs_st {nx : Nat → Nat → Option Nat} {V : Nat → Prop} (hok : ∀ st w u, V st → w < 7 → nx st w = some u → V u) {r : Nat} (h : ∀ st, V st → gWs nx (r + 1) st = gWs nx r st) : ∀ k st, V st → gWs nx (r + k) st = gWs nx r st := by
  intro k
  induction k with
  | zero => intro st _; rfl
  | succ k ih =>
    intro st hst
    show gWs nx (r + k + 1) st = _
    have h1 := ih st hst
    simp only [gWs]
    rw [h1]
    cases h2 : gWs nx r st with
    | some p => rfl
    | none =>
      simp only
      have h3 := h st hst
      simp only [gWs, h2] at h3
      exact ((gDc_congr (R := r + k + 1) (R2 := r + 1) (fun w u hw hu => ih u (hok st w u hst hw hu))).1).mpr h3
/-- the rows hold what gWs says -/
def gRo (nw : Nat) (f : Nat → Option (Nat × Nat)) (A B : Nat → Int32) : Prop := ∀ st, gSt nw st → match f st with
  | some p => A st = nI p.1 ∧ B st = nI p.2
  | none => A st = 0
def gKw : List Nat := [44, 45, 46, 48, 51, 52, 53]
def gUn (nx : Nat → Nat → Option Nat) (nw r st : Nat) : Bool := (decide (st % 7 < nw) || decide (st % 7 = 6)) && (gWs nx r st).isNone
theorem gUn_iff {nx : Nat → Nat → Option Nat} {nw r st : Nat} (h : st < 294) : gUn nx nw r st = true ↔ gSt nw st ∧ gWs nx r st = none := by
  unfold gUn gSt
  simp [h]
theorem m_isStanding {g : gT} {lv : Nat} {s : ms_S} {st : Nat} (hT : MT g lv s) (hs : st < 294) : mf_isStanding s (nI st) = some ((bif decide (st % 7 < g.1.2) || decide (st % 7 = 6) then 1 else 0), s) := by
  refine wO_iff.mp ?_
  have hn6 := hT.2.2.2.1
  unfold mf_isStanding
  rw [pu_mod7 (by omega)]
  refine wO_ite (fun c => ?_) (fun c => ?_)
  · have h6 := (nI_eq (b := 6) (by omega) (by omega)).mp c
    refine wO_some ?_
    rw [decide_eq_true h6, Bool.or_true]; rfl
  · have h6 : ¬ st % 7 = 6 := fun e => c (by rw [e]; rfl)
    rw [decide_eq_false h6, Bool.or_false]
    refine wO_agv (k := lv) hT.2.1 (by have := hT.1; omega) (by omega) hT.2.2.2.2.2.1 ?_
    refine wO_ite (fun d => ?_) (fun d => ?_)
    · have h7 := (nI_leI (by omega) (by omega)).mp d
      refine wO_some ?_
      rw [decide_eq_false (by omega)]; rfl
    · have h7 : st % 7 < g.1.2 := by
        rcases Nat.lt_or_ge (st % 7) g.1.2 with q | q
        · exact q
        · exact absurd (nI_le q (by omega)) d
      refine wO_some ?_
      rw [decide_eq_true h7]; rfl
theorem m_who_init {s : ms_S} : wO (mo_loop mf_fillsWho_l4 (0, s)) (fun t => msF [52, 53] s t ∧ ∀ j, j < 294 → t.2.1 52 j = (if j / 14 = 20 then 1 else if j / 14 = 0 then 2 else 0) ∧ t.2.1 53 j = 0) := by
  refine wO_count (fun i q => q.1 = nI i ∧ msF [52, 53] s q.2 ∧ ∀ j, j < i → q.2.2.1 52 j = (if j / 14 = 20 then 1 else if j / 14 = 0 then 2 else 0) ∧ q.2.2.1 53 j = 0) 294 ?_ ?_ _ ⟨rfl, msF.rf, fun j hj => absurd hj (by omega)⟩
  · rintro i ⟨w1, u⟩ hi ⟨e1, hF, hu⟩
    have e1 : w1 = nI i := e1
    subst e1
    unfold mf_fillsWho_l4
    refine wO_neg (show ¬ (294 : Int32) ≤ nI i from nI_ge (b := 294) hi (by omega)) ?_
    rw [show nI i / (14 : Int32) = nI (i / 14) from pu_div (b := 14) (by omega) (by omega)]
    have key : ∀ k0 : Int32, k0 = (if i / 14 = 20 then 1 else if i / 14 = 0 then 2 else 0) → wO (mf_fillsWho_j24 u (nI i) k0 (nI i)) (mo_sum (fun q => q.1 = nI (i + 1) ∧ msF [52, 53] s q.2 ∧ ∀ j, j < i + 1 → q.2.2.1 52 j = (if j / 14 = 20 then 1 else if j / 14 = 0 then 2 else 0) ∧ q.2.2.1 53 j = 0) (fun t => msF [52, 53] s t ∧ ∀ j, j < 294 → t.2.1 52 j = (if j / 14 = 20 then 1 else if j / 14 = 0 then 2 else 0) ∧ t.2.1 53 j = 0)) := by
      intro k0 hk
      unfold mf_fillsWho_j24
      refine wO_in (k := i) rfl (by omega) (by omega) ?_
      refine wO_in (k := i) rfl (by omega) (by omega) ?_
      rw [nI_clamp (by omega)]
      refine wO_some ⟨nI_1 i, hF.tr ((msF.sA (by decide)).tr (msF.sA (by decide))), fun j hj => ?_⟩
      show upd (u.2.1 52) i k0 j = _ ∧ upd (u.2.1 53) i 0 j = _
      by_cases he : j = i
      · subst he
        rw [upd_eq, upd_eq]
        exact ⟨hk, rfl⟩
      · rw [upd_ne he, upd_ne he]
        exact hu j (by omega)
    refine wO_ite (fun c => ?_) (fun c => ?_)
    · have h := (nI_eq (b := 20) (by omega) (by omega)).mp c
      exact key 1 (by rw [if_pos h])
    · have h : ¬ i / 14 = 20 := fun e => c (by rw [e]; rfl)
      refine wO_ite (fun d => ?_) (fun d => ?_)
      · have h0 := (nI_eq (b := 0) (by omega) (by omega)).mp d
        exact key 2 (by rw [if_neg h, if_pos h0])
      · have h0 : ¬ i / 14 = 0 := fun e => d (by rw [e]; rfl)
        exact key 0 (by rw [if_neg h, if_neg h0])
  · rintro ⟨w1, u⟩ ⟨e1, hF, hu⟩
    have e1 : w1 = nI 294 := e1
    subst e1
    unfold mf_fillsWho_l4
    exact wO_pos (Int32.le_refl _) (wO_some ⟨hF, hu⟩)
/-- the rows in the midst of a round -/
def gMid (nx : Nat → Nat → Option Nat) (nw r i : Nat) (A B : Nat → Int32) : Prop := ∀ st, gSt nw st → match gWs nx r st with
  | some p => A st = nI p.1 ∧ B st = nI p.2
  | none => if st < i then A st = nI (gWn (gDc nx (gWs nx r) st (r + 1))) ∧ B st = nI (r + 1) else A st = 0
theorem m_who_round {g : gT} {lv : Nat} {s : ms_S} {nx : Nat → Nat → Option Nat} {r : Nat} (hT : MT g lv s) (hr : r < 1000) (hth : ∀ st, gSt g.1.2 st → ∀ w, w < 7 → s.2.1 51 (7 * st + w) = gE (nx st w)) (hok : ∀ st w u, gSt g.1.2 st → w < 7 → nx st w = some u → gSt g.1.2 u) (hro : gRo g.1.2 (gWs nx r) (s.2.1 52) (s.2.1 53)) : wO (mo_loop (mf_fillsWho_l42 (nI (r + 1))) (0, 14, s)) (fun q => msF [52, 53] s q.2 ∧ gRo g.1.2 (gWs nx (r + 1)) (q.2.2.1 52) (q.2.2.1 53) ∧ ((q.1 = 1 ∧ ∃ st, gSt g.1.2 st ∧ gWs nx r st = none ∧ ∃ p, gWs nx (r + 1) st = some p) ∨ (q.1 = 0 ∧ ∀ st, gSt g.1.2 st → gWs nx (r + 1) st = gWs nx r st))) := by
  have mid : ∀ st, gSt g.1.2 st → gWs nx r st = none → 14 ≤ st ∧ st < 280 := by
    intro st hst hn
    have h0 : gWs nx 0 st = none := by
      have : ∀ r, gWs nx r st = none → gWs nx 0 st = none := by
        intro r
        induction r with
        | zero => exact id
        | succ r ih =>
          intro h
          apply ih
          simp only [gWs] at h
          cases h2 : gWs nx r st with
          | none => rfl
          | some p => rw [h2] at h; cases h
      exact this r hn
    simp only [gWs] at h0
    have := hst.1
    split at h0
    · cases h0
    · split at h0
      · cases h0
      · omega
  have hw : wO (mo_loop (mf_fillsWho_l42 (nI (r + 1))) (0, nI (14 + 0), s)) (fun q => msF [52, 53] s q.2 ∧ gMid nx g.1.2 r 280 (q.2.2.1 52) (q.2.2.1 53) ∧ ((q.1 = 1 ∧ ∃ st, gSt g.1.2 st ∧ gWs nx r st = none ∧ ∃ p, gDc nx (gWs nx r) st (r + 1) = some p) ∨ (q.1 = 0 ∧ ∀ st, gSt g.1.2 st → gWs nx r st = none → st < 280 → gDc nx (gWs nx r) st (r + 1) = none))) := by
    refine wO_count (fun k q => q.2.1 = nI (14 + k) ∧ msF [52, 53] s q.2.2 ∧ gMid nx g.1.2 r (14 + k) (q.2.2.2.1 52) (q.2.2.2.1 53) ∧ ((q.1 = 1 ∧ ∃ st, gSt g.1.2 st ∧ gWs nx r st = none ∧ ∃ p, gDc nx (gWs nx r) st (r + 1) = some p) ∨ (q.1 = 0 ∧ ∀ st, gSt g.1.2 st → gWs nx r st = none → st < 14 + k → gDc nx (gWs nx r) st (r + 1) = none))) 266 ?_ ?_ _ ⟨rfl, msF.rf, ?_, Or.inr ⟨rfl, fun st hst hn hlt => absurd (mid st hst hn).1 (by omega)⟩⟩
    · rintro k ⟨w1, w3, u⟩ hk ⟨e1, hF, hmid, hfl⟩
      have e1 : w3 = nI (14 + k) := e1
      subst e1
      have hF : msF [52, 53] s u := hF
      have hmid : gMid nx g.1.2 r (14 + k) (u.2.1 52) (u.2.1 53) := hmid
      have hTu : MT g lv u := hT.mv hF (by decide)
      unfold mf_fillsWho_l42
      refine wO_neg (show ¬ (280 : Int32) ≤ nI (14 + k) from nI_ge (b := 280) (by omega) (by omega)) ?_
      refine wO_ag (k := 14 + k) rfl (by omega) (by omega) ?_
      -- passed over
      have skip : (gSt g.1.2 (14 + k) → ∃ p, gWs nx r (14 + k) = some p) → wO (mf_fillsWho_j75 u w1 (nI (r + 1)) (nI (14 + k))) (mo_sum (fun q => q.2.1 = nI (14 + (k + 1)) ∧ msF [52, 53] s q.2.2 ∧ gMid nx g.1.2 r (14 + (k + 1)) (q.2.2.2.1 52) (q.2.2.2.1 53) ∧ ((q.1 = 1 ∧ ∃ st, gSt g.1.2 st ∧ gWs nx r st = none ∧ ∃ p, gDc nx (gWs nx r) st (r + 1) = some p) ∨ (q.1 = 0 ∧ ∀ st, gSt g.1.2 st → gWs nx r st = none → st < 14 + (k + 1) → gDc nx (gWs nx r) st (r + 1) = none))) (fun q => msF [52, 53] s q.2 ∧ gMid nx g.1.2 r 280 (q.2.2.1 52) (q.2.2.1 53) ∧ ((q.1 = 1 ∧ ∃ st, gSt g.1.2 st ∧ gWs nx r st = none ∧ ∃ p, gDc nx (gWs nx r) st (r + 1) = some p) ∨ (q.1 = 0 ∧ ∀ st, gSt g.1.2 st → gWs nx r st = none → st < 280 → gDc nx (gWs nx r) st (r + 1) = none)))) := by
        intro hsk
        have hne : ∀ st, gSt g.1.2 st → gWs nx r st = none → ¬ st = 14 + k := by
          rintro st hst hn rfl
          obtain ⟨p, hp⟩ := hsk hst
          rw [hp] at hn; cases hn
        unfold mf_fillsWho_j75
        refine wO_some ⟨nI_1 (14 + k), hF, fun st hst => ?_, ?_⟩
        · have h1 := hmid st hst
          cases h2 : gWs nx r st with
          | some p => rw [h2] at h1; exact h1
          | none =>
            rw [h2] at h1
            simp only at h1 ⊢
            have h3 := hne st hst h2
            by_cases h4 : st < 14 + k
            · rw [if_pos h4] at h1; rw [if_pos (by omega)]; exact h1
            · rw [if_neg h4] at h1; rw [if_neg (by omega)]; exact h1
        · rcases hfl with h1 | ⟨h1, h2⟩
          · exact Or.inl h1
          · refine Or.inr ⟨h1, fun st hst hn hlt => h2 st hst hn ?_⟩
            have h3 := hne st hst hn
            omega
      refine wO_ite (fun c => ?_) (fun c => ?_)
      · refine skip (fun hst => ?_)
        have h1 := hmid _ hst
        cases h2 : gWs nx r (14 + k) with
        | some p => exact ⟨p, rfl⟩
        | none =>
          rw [h2] at h1
          simp only at h1
          rw [if_neg (by omega)] at h1
          rw [h1] at c
          exact absurd c (by decide)
      · refine wO_eq (m_isStanding hTu (by omega)) ?_
        cases hb : (decide ((14 + k) % 7 < g.1.2) || decide ((14 + k) % 7 = 6)) with
        | false =>
          refine wO_pos pu_00 (skip (fun hst => ?_))
          have h1 := hst.2
          rw [Bool.or_eq_false_iff, decide_eq_false_iff_not, decide_eq_false_iff_not] at hb
          exact absurd h1 (by omega)
        | true =>
          have hst : gSt g.1.2 (14 + k) := by
            rw [Bool.or_eq_true, decide_eq_true_eq, decide_eq_true_eq] at hb
            exact ⟨by omega, hb⟩
          have hn : gWs nx r (14 + k) = none := by
            cases h2 : gWs nx r (14 + k) with
            | none => rfl
            | some p =>
              have h1 := hmid _ hst
              rw [h2] at h1
              have h3 := (gWs_ok h2).1
              have h4 := (gWs_ok h2).2.1
              rw [h1.1] at c
              exact absurd (nI_lt (a := 0) (by omega) (by omega)) c
          refine wO_neg pu_10 ?_
          have e51 : u.2.1 51 = s.2.1 51 := hF.a 51 (by decide)
          have hwon := m_wonAt (nx := nx) (f := gWs nx r) (s := u) (st := 14 + k) (R := r + 1) (nw := g.1.2) (by omega) (by omega) (fun w hw => by rw [e51]; exact hth _ hst w hw) (fun w v hw hv => hok _ w v hst hw hv) (fun v hv => by
            have h1 := hmid v hv
            unfold gSn
            cases h2 : gWs nx r v with
            | some p =>
              rw [h2] at h1
              have h3 := gWs_ok h2
              exact ⟨h1.1, h3.1, h3.2.1, h1.2, by omega⟩
            | none =>
              rw [h2] at h1
              simp only at h1 ⊢
              by_cases h4 : v < 14 + k
              · rw [if_pos h4] at h1
                cases h5 : gDc nx (gWs nx r) v (r + 1) with
                | none => rw [h5] at h1; exact Or.inl h1.1
                | some p =>
                  rw [h5] at h1
                  have h6 := gDc_ok h5
                  exact Or.inr ⟨p.1, r + 1, h1.1, h6.1, h6.2.1, h1.2, by omega, by omega⟩
              · rw [if_neg h4] at h1
                exact Or.inl h1)
          refine wO_eq hwon ?_
          refine wO_in (k := 14 + k) rfl (by omega) (by omega) ?_
          refine wO_in (k := 14 + k) rfl (by omega) (by omega) ?_
          rw [nI_clamp (by omega)]
          refine wO_agv (k := 14 + k) rfl (by omega) (by omega) upd_eq ?_
          have hFn : msF [52, 53] s (ms_sA (ms_sA u 52 (upd (u.2.1 52) (14 + k) (nI (gWn (gDc nx (gWs nx r) (14 + k) (r + 1)))))) 53 (upd (u.2.1 53) (14 + k) (nI (r + 1)))) := hF.tr ((msF.sA (by decide)).tr (msF.sA (by decide)))
          have hmid2 : gMid nx g.1.2 r (14 + (k + 1)) (upd (u.2.1 52) (14 + k) (nI (gWn (gDc nx (gWs nx r) (14 + k) (r + 1))))) (upd (u.2.1 53) (14 + k) (nI (r + 1))) := by
            intro st hst2
            by_cases he : st = 14 + k
            · subst he
              rw [hn]
              simp only
              rw [if_pos (by omega), upd_eq, upd_eq]
              exact ⟨rfl, rfl⟩
            · rw [upd_ne he, upd_ne he]
              have h1 := hmid st hst2
              cases h2 : gWs nx r st with
              | some p => rw [h2] at h1; exact h1
              | none =>
                rw [h2] at h1
                simp only at h1 ⊢
                by_cases h4 : st < 14 + k
                · rw [if_pos h4] at h1; rw [if_pos (by omega)]; exact h1
                · rw [if_neg h4] at h1; rw [if_neg (by omega)]; exact h1
          unfold mf_fillsWho_j75
          cases hd : gDc nx (gWs nx r) (14 + k) (r + 1) with
          | none =>
            rw [hd] at hFn hmid2
            refine wO_pos (Int32.le_refl _) (wO_some ⟨nI_1 (14 + k), hFn, hmid2, ?_⟩)
            rcases hfl with h1 | ⟨h1, h2⟩
            · exact Or.inl h1
            · refine Or.inr ⟨h1, fun st hst2 hn2 hlt => ?_⟩
              by_cases he : st = 14 + k
              · subst he; exact hd
              · exact h2 st hst2 hn2 (by omega)
          | some p =>
            rw [hd] at hFn hmid2
            have h6 := gDc_ok hd
            refine wO_neg (show ¬ nI p.1 ≤ 0 from nI_nle (by omega) (by omega)) (wO_some ⟨nI_1 (14 + k), hFn, hmid2, Or.inl ⟨rfl, 14 + k, hst, hn, p, hd⟩⟩)
    · rintro ⟨w1, w3, u⟩ ⟨e1, hF, hmid, hfl⟩
      have e1 : w3 = nI (14 + 266) := e1
      subst e1
      unfold mf_fillsWho_l42
      exact wO_pos (show (280 : Int32) ≤ nI (14 + 266) from Int32.le_refl _) (wO_some ⟨hF, hmid, hfl⟩)
    · intro st hst
      have h1 := hro st hst
      cases h2 : gWs nx r st with
      | some p => rw [h2] at h1; exact h1
      | none =>
        rw [h2] at h1
        simp only at h1 ⊢
        rw [if_neg (by have := (mid st hst h2).1; omega)]
        exact h1
  refine wO_mono hw ?_
  rintro ⟨w1, u⟩ ⟨h1, h2, h3⟩
  refine ⟨h1, fun st hst => ?_, ?_⟩
  · have h4 := h2 st hst
    simp only [gWs]
    cases h5 : gWs nx r st with
    | some p => rw [h5] at h4; exact h4
    | none =>
      rw [h5] at h4
      simp only at h4 ⊢
      rw [if_pos (mid st hst h5).2] at h4
      cases h6 : gDc nx (gWs nx r) st (r + 1) with
      | none => rw [h6] at h4; exact h4.1
      | some p =>
        rw [h6] at h4
        have h7 := gDc_ok h6
        exact ⟨h4.1, by rw [h7.2.2]; exact h4.2⟩
  · rcases h3 with ⟨a, st, b, c, p, d⟩ | ⟨a, b⟩
    · refine Or.inl ⟨a, st, b, c, p, ?_⟩
      simp only [gWs, c]
      exact d
    · refine Or.inr ⟨a, fun st hst => ?_⟩
      simp only [gWs]
      cases h5 : gWs nx r st with
      | some p => rfl
      | none => exact b st hst h5 (mid st hst h5).2
