/-! question: together (the class) -/
def gAm (nx : Nat → Nat → Option Nat) (F : Nat → Option Nat) (x : Nat) : Nat → Option Nat
  | 0 => some 0
  | k + 1 => match gAm nx F x k with
    | none => none
    | some a => match nx x k with
      | none => some a
      | some u => bif gCm u then (match F u with
        | none => none
        | some d => some (max a (d + 1))) else some a
theorem gAm_n {nx : Nat → Nat → Option Nat} {F : Nat → Option Nat} {x k : Nat} (h : gAm nx F x k = none) : gAm nx F x (k + 1) = none := by
  simp only [gAm, h]
theorem gAm_1 {nx : Nat → Nat → Option Nat} {F : Nat → Option Nat} {x k a : Nat} (h : gAm nx F x k = some a) (hu : nx x k = none) : gAm nx F x (k + 1) = some a := by
  simp only [gAm, h, hu]
theorem gAm_2 {nx : Nat → Nat → Option Nat} {F : Nat → Option Nat} {x k a u : Nat} (h : gAm nx F x k = some a) (hu : nx x k = some u) (hc : gCm u = false) : gAm nx F x (k + 1) = some a := by
  simp only [gAm, h, hu, hc, cond_false]
theorem gAm_3 {nx : Nat → Nat → Option Nat} {F : Nat → Option Nat} {x k a u : Nat} (h : gAm nx F x k = some a) (hu : nx x k = some u) (hc : gCm u = true) (hf : F u = none) : gAm nx F x (k + 1) = none := by
  simp only [gAm, h, hu, hc, hf, cond_true]
theorem gAm_4 {nx : Nat → Nat → Option Nat} {F : Nat → Option Nat} {x k a u d : Nat} (h : gAm nx F x k = some a) (hu : nx x k = some u) (hc : gCm u = true) (hf : F u = some d) : gAm nx F x (k + 1) = some (max a (d + 1)) := by
  simp only [gAm, h, hu, hc, hf, cond_true]
theorem gAm_none {nx : Nat → Nat → Option Nat} {F : Nat → Option Nat} {x : Nat} : ∀ {k : Nat}, gAm nx F x k = none → ∃ w u, w < k ∧ nx x w = some u ∧ gCm u = true ∧ F u = none
  | 0, h => by cases h
  | k + 1, h => by
    cases h1 : gAm nx F x k with
    | none =>
      obtain ⟨w, u, h2, h3⟩ := gAm_none h1
      exact ⟨w, u, by omega, h3⟩
    | some a =>
      cases hu : nx x k with
      | none => rw [gAm_1 h1 hu] at h; cases h
      | some u =>
        cases hc : gCm u with
        | false => rw [gAm_2 h1 hu hc] at h; cases h
        | true =>
          cases hf : F u with
          | none => exact ⟨k, u, by omega, hu, hc, hf⟩
          | some d => rw [gAm_4 h1 hu hc hf] at h; cases h
theorem gAm_some {nx : Nat → Nat → Option Nat} {F : Nat → Option Nat} {x : Nat} : ∀ {k a : Nat}, gAm nx F x k = some a → (∀ w u, w < k → nx x w = some u → gCm u = true → ∃ d, F u = some d ∧ d + 1 ≤ a) ∧ (a = 0 ∨ ∃ w u d, w < k ∧ nx x w = some u ∧ gCm u = true ∧ F u = some d ∧ a = d + 1)
  | 0, a, h => by
    cases h
    exact ⟨fun w _ hw => absurd hw (by omega), Or.inl rfl⟩
  | k + 1, a, h => by
    cases h1 : gAm nx F x k with
    | none => rw [gAm_n h1] at h; cases h
    | some b =>
      obtain ⟨i1, i2⟩ := gAm_some h1
      cases hu : nx x k with
      | none =>
        rw [gAm_1 h1 hu] at h
        cases h
        refine ⟨fun w u hw hwu hc => ?_, ?_⟩
        · by_cases he : w = k
          · subst he; rw [hu] at hwu; cases hwu
          · exact i1 w u (by omega) hwu hc
        · rcases i2 with e | ⟨w, u, d, e1, e2⟩
          · exact Or.inl e
          · exact Or.inr ⟨w, u, d, by omega, e2⟩
      | some v =>
        cases hc : gCm v with
        | false =>
          rw [gAm_2 h1 hu hc] at h
          cases h
          refine ⟨fun w u hw hwu hc2 => ?_, ?_⟩
          · by_cases he : w = k
            · subst he; rw [hu] at hwu; cases hwu; rw [hc] at hc2; cases hc2
            · exact i1 w u (by omega) hwu hc2
          · rcases i2 with e | ⟨w, u, d, e1, e2⟩
            · exact Or.inl e
            · exact Or.inr ⟨w, u, d, by omega, e2⟩
        | true =>
          cases hf : F v with
          | none => rw [gAm_3 h1 hu hc hf] at h; cases h
          | some d =>
            rw [gAm_4 h1 hu hc hf] at h
            cases h
            refine ⟨fun w u hw hwu hc2 => ?_, ?_⟩
            · by_cases he : w = k
              · subst he; rw [hu] at hwu; cases hwu; exact ⟨d, hf, by omega⟩
              · obtain ⟨d2, e1, e2⟩ := i1 w u (by omega) hwu hc2
                exact ⟨d2, e1, by omega⟩
            · by_cases hm : b ≤ d + 1
              · exact Or.inr ⟨k, v, d, by omega, hu, hc, hf, by omega⟩
              · rcases i2 with e | ⟨w, u, d2, e1, e2, e3, e4, e5⟩
                · omega
                · exact Or.inr ⟨w, u, d2, by omega, e2, e3, e4, by omega⟩
theorem gTk_cm {g : gT} {po : Option (Nat × Nat)} {wo k u : Nat} (h : gTk (gNx g po wo) k u = true) : gCm u = true := by
  cases k with
  | zero => exact h
  | succ k =>
    rw [gTk_s, gAny_iff] at h
    obtain ⟨w, _, hw⟩ := h
    unfold gTs at hw
    cases hu : gNx g po wo u w with
    | none => rw [hu] at hw; cases hw
    | some v => exact (gNx_cm hu).1
/-- the values told so far are right -/
def gLt (nx : Nat → Nat → Option Nat) (L : List Nat) (F : Nat → Option Nat) (B : Nat) : Prop := ∀ x d, x ∈ L → F x = some d → d ≤ B ∧ (gCm x = true → ∀ k, gTk nx k x = true ↔ k ≤ d)
theorem gLt_new {g : gT} {po : Option (Nat × Nat)} {wo x a B : Nat} {L : List Nat} {F : Nat → Option Nat} (hcl : ∀ x w u, x ∈ L → w < 7 → gNx g po wo x w = some u → u ∈ L) (h : gLt (gNx g po wo) L F B) (hx : x ∈ L) (ha : gAm (gNx g po wo) F x 7 = some a) : a ≤ B + 1 ∧ (gCm x = true → ∀ k, gTk (gNx g po wo) k x = true ↔ k ≤ a) := by
  obtain ⟨h1, h2⟩ := gAm_some ha
  refine ⟨?_, fun hc k => ?_⟩
  · rcases h2 with e | ⟨w, u, d, e1, e2, e3, e4, e5⟩
    · omega
    · have := (h u d (hcl x w u hx e1 e2) e4).1
      omega
  · cases k with
    | zero => exact ⟨fun _ => Nat.zero_le a, fun _ => hc⟩
    | succ k =>
      rw [gTk_s, gAny_iff]
      constructor
      · rintro ⟨w, hw, ht⟩
        unfold gTs at ht
        cases hu : gNx g po wo x w with
        | none => rw [hu] at ht; cases ht
        | some u =>
          rw [hu] at ht
          have hcu := gTk_cm ht
          obtain ⟨d, e1, e2⟩ := h1 w u hw hu hcu
          have := ((h u d (hcl x w u hx hw hu) e1).2 hcu k).mp ht
          omega
      · intro hk
        rcases h2 with e | ⟨w, u, d, e1, e2, e3, e4, e5⟩
        · omega
        · refine ⟨w, e1, ?_⟩
          unfold gTs
          rw [e2]
          exact ((h u d (hcl x w u hx e1 e2) e4).2 e3 k).mpr (by omega)
def gLv (L : List Nat) (F : Nat → Option Nat) (A : Nat → Int32) : Prop := ∀ x, x ∈ L → A (gph x) = gE (F x)
theorem x_asleep {g : gT} {po : Option (Nat × Nat)} {s : xs_S} {x B : Nat} {L : List Nat} {F : Nat → Option Nat} (hn : g.1.2 ≤ 6) (hs : gSt g.1.2 x) (hO : gOp g po (s.2.1 118) (s.2.1 119) x) (hcl : ∀ w u, w < 7 → gNx g po 0 x w = some u → u ∈ L) (hv : gLv L F (s.2.1 130)) (hB : ∀ y d, y ∈ L → F y = some d → d ≤ B) (hB2 : B < 2 ^ 30) : xf_0_asleepTurns s (nI (gph x)) = some (gE (gAm (gNx g po 0) F x 7), s) := by
  refine wO_iff.mp ?_
  unfold xf_0_asleepTurns
  refine wO_bd (Q := fun y => (y = .inl s ∧ gAm (gNx g po 0) F x 7 = none) ∨ (∃ a, y = .inr (nI a, s) ∧ gAm (gNx g po 0) F x 7 = some a)) ?_ ?_
  · refine wO_count (fun (k : Nat) (p : Int32 × Int32 × xs_S) => ∃ a, p = (nI a, nI k, s) ∧ gAm (gNx g po 0) F x k = some a ∧ a ≤ B + 1) 7 ?_ ?_ _ ⟨0, rfl, rfl, by omega⟩
    · rintro k _ hk ⟨a, rfl, ha, hab⟩
      unfold xf_0_asleepTurns_l4
      refine wO_neg (show ¬ (7 : Int32) ≤ nI k from nI_ge (b := 7) hk (by omega)) ?_
      refine wO_eq (x_after (wo := 0) hn hs hO hk (by omega)) ?_
      unfold xf_0_asleepTurns_j37
      cases hu : gNx g po 0 x k with
      | none =>
        refine wO_pos rfl (wO_some ⟨a, ?_, gAm_1 ha hu, hab⟩)
        rw [nI_1]
      | some u =>
        have hsu := gNx_ok hn hs.1 hu
        have hgu := gph_lt hsu.1
        show wO (if nI (gph u) = (-1 : Int32) then _ else _) _
        refine wO_neg (pu_n1 (by omega)) ?_
        refine wO_eq (x_awake hsu.1) ?_
        show wO (if (bif gCm u then (0 : Int32) else 1) = 0 then _ else _) _
        have hul := hcl k u hk hu
        cases hc : gCm u with
        | false =>
          refine wO_neg pu_10 (wO_some ⟨a, ?_, gAm_2 ha hu hc, hab⟩)
          rw [nI_1]
        | true =>
          refine wO_pos rfl ?_
          have hvu := hv u hul
          cases hf : F u with
          | none =>
            rw [hf] at hvu
            refine wO_agv (k := gph u) rfl (by omega) (by omega) hvu ?_
            refine wO_pos rfl (wO_some (Or.inl ⟨rfl, ?_⟩))
            have : ∀ j, gAm (gNx g po 0) F x (k + 1 + j) = none := by
              intro j
              induction j with
              | zero => exact gAm_3 ha hu hc hf
              | succ j ih => exact gAm_n ih
            have h7 := this (7 - (k + 1))
            rw [Nat.add_sub_cancel' (by omega)] at h7
            exact h7
          | some d =>
            rw [hf] at hvu
            have hd := hB u d hul hf
            refine wO_agv (k := gph u) rfl (by omega) (by omega) hvu ?_
            refine wO_neg (show ¬ nI d = -1 from pu_n1 (by omega)) ?_
            refine wO_agv (k := gph u) rfl (by omega) (by omega) hvu ?_
            refine wO_some ⟨max a (d + 1), ?_, gAm_4 ha hu hc hf, by omega⟩
            rw [nI_1, show gE (some d) + (1 : Int32) = nI (d + 1) from nI_1 d, pu_max (by omega) (by omega)]
    · rintro _ ⟨a, rfl, ha, hab⟩
      unfold xf_0_asleepTurns_l4
      exact wO_pos (show (7 : Int32) ≤ nI 7 from Int32.le_refl _) (wO_some (Or.inr ⟨a, rfl, ha⟩))
  · rintro _ (⟨rfl, h⟩ | ⟨a, rfl, h⟩)
    · rw [h]; exact wO_some rfl
    · rw [h]; exact wO_some rfl
