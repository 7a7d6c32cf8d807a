/-! question: even (the reference) -/
def gLn (u : Nat) : Nat := if 10 ≤ u / 14 then u / 14 - 10 else 10 - u / 14
def gEm (nx : Nat → Nat → Option Nat) (E : Nat → Nat) (x : Nat) : Nat → Nat
  | 0 => 1000
  | k + 1 => match nx x k with
    | none => gEm nx E x k
    | some u => min (gEm nx E x k) (E u)
def gEv (nx : Nat → Nat → Option Nat) : Nat → Nat → Nat
  | 0 => fun u => bif gCm u then gLn u else 1000
  | k + 1 => fun u => max (gLn u) (gEm nx (gEv nx k) u 7)
theorem gEm_1 {nx : Nat → Nat → Option Nat} {E : Nat → Nat} {x k : Nat} (h : nx x k = none) : gEm nx E x (k + 1) = gEm nx E x k := by
  simp only [gEm, h]
theorem gEm_2 {nx : Nat → Nat → Option Nat} {E : Nat → Nat} {x k u : Nat} (h : nx x k = some u) : gEm nx E x (k + 1) = min (gEm nx E x k) (E u) := by
  simp only [gEm, h]
theorem gEm_le {nx : Nat → Nat → Option Nat} {E : Nat → Nat} {x : Nat} : ∀ {k : Nat}, gEm nx E x k ≤ 1000
  | 0 => Nat.le_refl _
  | k + 1 => by
    have ih := @gEm_le nx E x k
    cases h : nx x k with
    | none => rw [gEm_1 h]; exact ih
    | some u => rw [gEm_2 h]; omega
theorem gEm_iff {nx : Nat → Nat → Option Nat} {E : Nat → Nat} {x v : Nat} (hv : v < 1000) : ∀ {k : Nat}, gEm nx E x k ≤ v ↔ ∃ w u, w < k ∧ nx x w = some u ∧ E u ≤ v
  | 0 => ⟨fun h => absurd h (by simp only [gEm]; omega), fun ⟨w, _, h, _⟩ => absurd h (by omega)⟩
  | k + 1 => by
    have ih := @gEm_iff nx E x v hv k
    cases h : nx x k with
    | none =>
      rw [gEm_1 h, ih]
      constructor
      · rintro ⟨w, u, h1, h2⟩
        exact ⟨w, u, by omega, h2⟩
      · rintro ⟨w, u, h1, h2, h3⟩
        by_cases he : w = k
        · subst he; rw [h] at h2; cases h2
        · exact ⟨w, u, by omega, h2, h3⟩
    | some y =>
      have hmin : min (gEm nx E x k) (E y) ≤ v ↔ gEm nx E x k ≤ v ∨ E y ≤ v := by omega
      rw [gEm_2 h, hmin, ih]
      constructor
      · rintro (⟨w, u, h1, h2⟩ | h1)
        · exact ⟨w, u, by omega, h2⟩
        · exact ⟨k, y, by omega, h, h1⟩
      · rintro ⟨w, u, h1, h2, h3⟩
        by_cases he : w = k
        · subst he; rw [h] at h2; cases h2; exact Or.inr h3
        · exact Or.inl ⟨w, u, by omega, h2, h3⟩
theorem gLn_le {u : Nat} (h : u < 294) : gLn u ≤ 10 := by
  unfold gLn
  split <;> omega
theorem gEv_le {nx : Nat → Nat → Option Nat} {k u : Nat} (h : u < 294) : gEv nx k u ≤ 1000 := by
  have := gLn_le h
  cases k with
  | zero =>
    show (bif gCm u then gLn u else 1000) ≤ 1000
    cases gCm u <;> simp <;> omega
  | succ k =>
    have := @gEm_le nx (gEv nx k) u 7
    show max _ _ ≤ 1000
    omega
theorem gEv_10 {nx : Nat → Nat → Option Nat} {nw : Nat} (hok : ∀ st w u, gSt nw st → w < 7 → nx st w = some u → gSt nw u) : ∀ {k u : Nat}, gSt nw u → gEv nx k u ≤ 10 ∨ gEv nx k u = 1000
  | 0, u, h => by
    have := gLn_le h.1
    show (bif gCm u then gLn u else 1000) ≤ 10 ∨ (bif gCm u then gLn u else 1000) = 1000
    cases gCm u
    · exact Or.inr rfl
    · exact Or.inl this
  | k + 1, u, h => by
    have h1 := gLn_le h.1
    have h2 := @gEm_le nx (gEv nx k) u 7
    show max (gLn u) (gEm nx (gEv nx k) u 7) ≤ 10 ∨ max (gLn u) (gEm nx (gEv nx k) u 7) = 1000
    by_cases h3 : gEm nx (gEv nx k) u 7 ≤ 999
    · obtain ⟨w, v, h4, h5, h6⟩ := (gEm_iff (by omega)).mp h3
      rcases gEv_10 hok (k := k) (hok u w v h h4 h5) with e | e
      · have := (gEm_iff (k := 7) (x := u) (nx := nx) (E := gEv nx k) (v := 10) (by omega)).mpr ⟨w, v, h4, h5, e⟩
        exact Or.inl (by omega)
      · omega
    · exact Or.inr (by omega)
theorem gEv_cm {g : gT} {po : Option (Nat × Nat)} {k u v : Nat} (hv : v < 1000) (h : gEv (gNx g po 0) k u ≤ v) : gCm u = true ∧ gLn u ≤ v := by
  cases k with
  | zero =>
    have h : (bif gCm u then gLn u else 1000) ≤ v := h
    cases hc : gCm u with
    | true => rw [hc] at h; exact ⟨rfl, h⟩
    | false =>
      rw [hc] at h
      have h : 1000 ≤ v := h
      omega
  | succ k =>
    have h : max (gLn u) (gEm (gNx g po 0) (gEv (gNx g po 0) k) u 7) ≤ v := h
    obtain ⟨w, x, h4, h5, h6⟩ := (gEm_iff (k := 7) (x := u) (nx := gNx g po 0) (E := gEv (gNx g po 0) k) hv).mp (by omega)
    exact ⟨(gNx_cm h5).1, by omega⟩
theorem m_off {st : Nat} (h : st < 294) : mf_off (nI st / (14 : Int32)) 10 = some (nI (gLn st)) := by
  unfold mf_off gLn
  rw [show nI st / (14 : Int32) = nI (st / 14) from pu_div (b := 14) (by omega) (by omega)]
  by_cases h1 : 10 ≤ st / 14
  · rw [if_pos (show (10 : Int32) ≤ nI (st / 14) from nI_le (a := 10) h1 (by omega)), if_pos h1, show nI (st / 14) - (10 : Int32) = nI (st / 14 - 10) from pu_sub (b := 10) h1]
  · rw [if_neg (show ¬ (10 : Int32) ≤ nI (st / 14) from nI_ge (b := 10) (by omega) (by omega)), if_neg h1, show (10 : Int32) - nI (st / 14) = nI (10 - st / 14) from pu_sub (a := 10) (by omega)]
def gEw (nw : Nat) (E : Nat → Nat) (A : Nat → Int32) : Prop := ∀ u, gSt nw u → A u = nI (E u)
theorem m_even_more {g : gT} {lv : Nat} {s : ms_S} {nx : Nat → Nat → Option Nat} {E : Nat → Nat} {v1 v2 : Int32} (hT : MT g lv s) (hth : ∀ st, gSt g.1.2 st → ∀ w, w < 7 → s.2.1 51 (7 * st + w) = gE (nx st w)) (hok : ∀ st w u, gSt g.1.2 st → w < 7 → nx st w = some u → gSt g.1.2 u) (hE : ∀ u, gSt g.1.2 u → E u ≤ 1000) (hv : gEw g.1.2 E (s.2.1 56)) : wO (mo_loop (mf_evens_l28 v1 v2) (0, s)) (fun t => msF [57] s t ∧ gEw g.1.2 (fun u => max (gLn u) (gEm nx E u 7)) (t.2.1 57)) := by
  refine wO_count (fun (i : Nat) (p : Int32 × ms_S) => p.1 = nI i ∧ msF [57] s p.2 ∧ ∀ u, gSt g.1.2 u → u < i → p.2.2.1 57 u = nI (max (gLn u) (gEm nx E u 7))) 294 ?_ ?_ _ ⟨rfl, msF.rf, fun u _ hu => absurd hu (by omega)⟩
  · rintro i ⟨w3, u⟩ hi ⟨e1, hF, hu⟩
    have e1 : w3 = nI i := e1
    subst e1
    have hF : msF [57] s u := hF
    have hu : ∀ v, gSt g.1.2 v → v < i → u.2.1 57 v = nI (max (gLn v) (gEm nx E v 7)) := hu
    unfold mf_evens_l28
    refine wO_neg (show ¬ (294 : Int32) ≤ nI i from nI_ge (b := 294) hi (by omega)) ?_
    have hTu : MT g lv u := hT.mv hF (by decide)
    refine wO_bd (Q := fun p => p.2 = u ∧ ∃ a, a ≤ 1000 ∧ p.1 = nI a ∧ (gSt g.1.2 i → a = gEm nx E i 7)) ?_ ?_
    · refine wO_count (fun (j : Nat) (p : Int32 × Int32 × ms_S) => p.2.1 = nI j ∧ p.2.2 = u ∧ p.1 = nI (gEm nx E i j)) 7 ?_ ?_ _ ⟨rfl, rfl, rfl⟩
      · rintro j ⟨w4, w5, v⟩ hj ⟨e1, e2, e3⟩
        have e1 : w5 = nI j := e1
        have e2 : v = u := e2
        have e3 : w4 = nI (gEm nx E i j) := e3
        subst e1 e2 e3
        have hle := @gEm_le nx E i j
        unfold mf_evens_l35
        refine wO_neg (show ¬ (7 : Int32) ≤ nI j from nI_ge (b := 7) hj (by omega)) ?_
        refine wO_eq (m_isStanding hTu hi) ?_
        cases hb : (decide (i % 7 < g.1.2) || decide (i % 7 = 6)) with
        | false =>
          have hns : ¬ gSt g.1.2 i := fun h => by
            have h1 := h.2
            rw [Bool.or_eq_false_iff, decide_eq_false_iff_not, decide_eq_false_iff_not] at hb
            omega
          exact wO_pos rfl (wO_some ⟨rfl, _, hle, rfl, fun h => absurd h hns⟩)
        | true =>
          have hst : gSt g.1.2 i := by
            rw [Bool.or_eq_true, decide_eq_true_eq, decide_eq_true_eq] at hb
            exact ⟨hi, hb⟩
          refine wO_neg pu_10 ?_
          have ei : (7 : Int32) * nI i + nI j = nI (7 * i + j) := (congrArg (· + nI j) (pu_mul 7 i)).trans (nI_add _ _)
          have h51 : v.2.1 51 (7 * i + j) = gE (nx i j) := by rw [hF.a 51 (by decide)]; exact hth i hst j hj
          have h56 : v.2.1 56 = s.2.1 56 := hF.a 56 (by decide)
          refine wO_agv (k := 7 * i + j) ei (by omega) (by omega) h51 ?_
          unfold mf_evens_j76
          cases hx : nx i j with
          | none => exact wO_pos (show (-1 : Int32) < 0 by decide) (wO_some ⟨nI_1 j, rfl, by rw [gEm_1 hx]⟩)
          | some y =>
            have hsy := hok i j y hst hj hx
            have hy1 := hsy.1
            have hEy := hE y hsy
            rw [hx] at h51
            show wO (if nI y < (0 : Int32) then _ else _) _
            refine wO_neg (pu_nn (by omega)) ?_
            have h56y : v.2.1 56 y = nI (E y) := by rw [h56]; exact hv y hsy
            refine wO_agv (k := 7 * i + j) (v := nI y) ei (by omega) (by omega) h51 ?_
            refine wO_agv (k := y) rfl (by omega) (by omega) h56y ?_
            by_cases hc : gEm nx E i j ≤ E y
            · refine wO_pos (nI_le hc (by omega)) (wO_some ⟨nI_1 j, rfl, ?_⟩)
              rw [gEm_2 hx]
              exact congrArg nI (by omega)
            · refine wO_neg (nI_ge (by omega) (by omega)) ?_
              refine wO_agv (k := 7 * i + j) (v := nI y) ei (by omega) (by omega) h51 ?_
              refine wO_agv (k := y) rfl (by omega) (by omega) h56y (wO_some ⟨nI_1 j, rfl, ?_⟩)
              rw [gEm_2 hx]
              exact congrArg nI (by omega)
      · rintro ⟨w4, w5, v⟩ ⟨e1, e2, e3⟩
        have e1 : w5 = nI 7 := e1
        have e2 : v = u := e2
        have e3 : w4 = nI (gEm nx E i 7) := e3
        subst e1 e2 e3
        unfold mf_evens_l35
        exact wO_pos (show (7 : Int32) ≤ nI 7 from Int32.le_refl _) (wO_some ⟨rfl, _, gEm_le, rfl, fun _ => rfl⟩)
    · rintro ⟨w, v⟩ ⟨e2, a, ha, e3, ha2⟩
      have e2 : v = u := e2
      have e3 : w = nI a := e3
      subst e2 e3
      have hl := gLn_le hi
      have key : ∀ k0 : Int32, k0 = nI (max (gLn i) a) → wO (mf_evens_j95 v v1 v2 (nI i) k0 (nI i)) (mo_sum (fun p => p.1 = nI (i + 1) ∧ msF [57] s p.2 ∧ ∀ u, gSt g.1.2 u → u < i + 1 → p.2.2.1 57 u = nI (max (gLn u) (gEm nx E u 7))) (fun t => msF [57] s t ∧ gEw g.1.2 (fun u => max (gLn u) (gEm nx E u 7)) (t.2.1 57))) := by
        intro k0 hk
        unfold mf_evens_j95
        refine wO_in (k := i) rfl (by omega) (by omega) ?_
        rw [nI_clamp (by omega)]
        refine wO_some ⟨nI_1 i, hF.tr (msF.sA (by decide)), fun j hj hlt => ?_⟩
        show upd (v.2.1 57) i k0 j = _
        by_cases he : j = i
        · subst he; rw [upd_eq, hk, ha2 hj]
        · rw [upd_ne he]; exact hu j hj (by omega)
      unfold mf_evens_j78
      refine wO_eq (m_off hi) ?_
      by_cases hc : gLn i ≤ a
      · exact wO_pos (nI_le hc (by omega)) (key _ (congrArg nI (by omega)))
      · refine wO_neg (nI_ge (by omega) (by omega)) (wO_eq (m_off hi) (key _ (congrArg nI (by omega))))
  · rintro ⟨w3, u⟩ ⟨e1, hF, hu⟩
    have e1 : w3 = nI 294 := e1
    subst e1
    unfold mf_evens_l28
    exact wO_pos (Int32.le_refl _) (wO_some ⟨hF, fun v hv2 => hu v hv2 hv2.1⟩)
