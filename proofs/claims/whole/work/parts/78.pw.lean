/-! who wins, round by round -/
def gAny (p : Nat → Bool) : Nat → Bool
  | 0 => false
  | n + 1 => gAny p n || p n
theorem gAny_iff {p : Nat → Bool} : ∀ {n : Nat}, gAny p n = true ↔ ∃ w, w < n ∧ p w = true
  | 0 => by simp [gAny]
  | n + 1 => by
    simp only [gAny, Bool.or_eq_true, gAny_iff (n := n)]
    constructor
    · rintro (⟨w, h1, h2⟩ | h)
      · exact ⟨w, by omega, h2⟩
      · exact ⟨n, by omega, h⟩
    · rintro ⟨w, h1, h2⟩
      by_cases h : w = n
      · subst h; exact Or.inr h2
      · exact Or.inl ⟨w, by omega, h2⟩
theorem gAny_no {p : Nat → Bool} {n : Nat} : gAny p n = false ↔ ∀ w, w < n → p w = false := by
  constructor
  · intro h w hw
    cases hp : p w with
    | false => rfl
    | true => rw [gAny_iff.mpr ⟨w, hw, hp⟩] at h; cases h
  · intro h
    cases hp : gAny p n with
    | false => rfl
    | true =>
      obtain ⟨w, hw, h2⟩ := gAny_iff.mp hp
      rw [h w hw] at h2; cases h2
def gCt (p : Nat → Bool) : Nat → Nat
  | 0 => 0
  | n + 1 => gCt p n + (bif p n then 1 else 0)
theorem gCt_le (p : Nat → Bool) : ∀ n, gCt p n ≤ n
  | 0 => Nat.le_refl 0
  | n + 1 => by
    have := gCt_le p n
    simp only [gCt]
    cases p n <;> simp <;> omega
theorem gCt_0 {p : Nat → Bool} : ∀ {n : Nat}, gCt p n = 0 ↔ gAny p n = false
  | 0 => by simp [gCt, gAny]
  | n + 1 => by
    have := @gCt_0 p n
    simp only [gCt, gAny]
    cases p n <;> simp [this]
theorem gCt_sub {p q : Nat → Bool} : ∀ {n : Nat}, (∀ w, w < n → q w = true → p w = true) → gCt q n ≤ gCt p n ∧ (gCt q n = gCt p n ↔ ∀ w, w < n → p w = true → q w = true)
  | 0, _ => by simp [gCt]
  | n + 1, h => by
    obtain ⟨h1, h2⟩ := @gCt_sub p q n (fun w hw => h w (by omega))
    have h3 := h n (by omega)
    simp only [gCt]
    cases hp : p n <;> cases hq : q n
    · simp only [cond_false, Nat.add_zero]
      refine ⟨h1, h2.trans ⟨fun a w hw hpw => ?_, fun a w hw => a w (by omega)⟩⟩
      by_cases e : w = n
      · subst e; rw [hp] at hpw; cases hpw
      · exact a w (by omega) hpw
    · rw [h3 hq] at hp; cases hp
    · simp only [cond_false, cond_true]
      refine ⟨by omega, ⟨fun a => by omega, fun a => ?_⟩⟩
      have := a n (by omega) hp
      rw [hq] at this; cases this
    · simp only [cond_true]
      refine ⟨by omega, ⟨fun a w hw hpw => ?_, fun a => ?_⟩⟩
      · by_cases e : w = n
        · subst e; exact hq
        · exact (h2.mp (by omega)) w (by omega) hpw
      · have := h2.mpr (fun w hw => a w (by omega))
        omega
/-- one standing in one round, from what was found ahead of it -/
def gHit (nx : Nat → Nat → Option Nat) (f : Nat → Option (Nat × Nat)) (mv st w : Nat) : Bool := match nx st w with
  | none => false
  | some u => decide ((f u).map (fun p => p.1) = some mv)
def gFnd (nx : Nat → Nat → Option Nat) (f : Nat → Option (Nat × Nat)) (st w : Nat) : Bool := match nx st w with
  | none => false
  | some u => (f u).isSome
def gMv (nx : Nat → Nat → Option Nat) (st w : Nat) : Bool := (nx st w).isSome
def gDc (nx : Nat → Nat → Option Nat) (f : Nat → Option (Nat × Nat)) (st R : Nat) : Option (Nat × Nat) :=
  bif gAny (gHit nx f (1 + st / 7 % 2) st) 7 then some (1 + st / 7 % 2, R)
  else bif gAny (gMv nx st) 7 && decide (gCt (gFnd nx f st) 7 = gCt (gMv nx st) 7) then some (3 - (1 + st / 7 % 2), R) else none
def gWs (nx : Nat → Nat → Option Nat) : Nat → Nat → Option (Nat × Nat)
  | 0 => fun st => if st / 14 = 20 then some (1, 0) else if st / 14 = 0 then some (2, 0) else none
  | r + 1 => fun st => match gWs nx r st with
    | some p => some p
    | none => gDc nx (gWs nx r) st (r + 1)
theorem gDc_ok {nx : Nat → Nat → Option Nat} {f : Nat → Option (Nat × Nat)} {st R : Nat} {p : Nat × Nat} (h : gDc nx f st R = some p) : 1 ≤ p.1 ∧ p.1 ≤ 2 ∧ p.2 = R := by
  unfold gDc at h
  cases h1 : gAny (gHit nx f (1 + st / 7 % 2) st) 7 with
  | true =>
    rw [h1] at h
    have := Option.some.inj h
    subst this
    exact ⟨by omega, by simp only; omega, rfl⟩
  | false =>
    rw [h1] at h
    simp only [cond_false] at h
    cases h2 : (gAny (gMv nx st) 7 && decide (gCt (gFnd nx f st) 7 = gCt (gMv nx st) 7)) with
    | true =>
      rw [h2] at h
      have := Option.some.inj h
      subst this
      exact ⟨by simp only; omega, by simp only; omega, rfl⟩
    | false => rw [h2] at h; cases h
theorem gWs_ok {nx : Nat → Nat → Option Nat} : ∀ {r st : Nat} {p : Nat × Nat}, gWs nx r st = some p → 1 ≤ p.1 ∧ p.1 ≤ 2 ∧ p.2 ≤ r
  | 0, st, p, h => by
    simp only [gWs] at h
    split at h
    · cases h; exact ⟨by omega, by omega, by omega⟩
    · split at h
      · cases h; exact ⟨by omega, by omega, by omega⟩
      · cases h
  | r + 1, st, p, h => by
    simp only [gWs] at h
    cases h1 : gWs nx r st with
    | some q =>
      rw [h1] at h
      cases h
      have := gWs_ok h1
      exact ⟨this.1, this.2.1, by omega⟩
    | none =>
      rw [h1] at h
      have := gDc_ok h
      exact ⟨this.1, this.2.1, by omega⟩
/-- what a pair of rows says of a standing, as found ahead of the round R -/
def gSn (A B : Nat → Int32) (R : Nat) (o : Option (Nat × Nat)) (u : Nat) : Prop := match o with
  | some p => A u = nI p.1 ∧ 1 ≤ p.1 ∧ p.1 ≤ 2 ∧ B u = nI p.2 ∧ p.2 < R
  | none => A u = 0 ∨ (∃ p b, A u = nI p ∧ 1 ≤ p ∧ p ≤ 2 ∧ B u = nI b ∧ R ≤ b ∧ b < 2 ^ 31)
def gWn (o : Option (Nat × Nat)) : Nat := match o with
  | some p => p.1
  | none => 0
theorem m_wonAt {nx : Nat → Nat → Option Nat} {f : Nat → Option (Nat × Nat)} {s : ms_S} {st R nw : Nat} (hs : st < 294) (hR : R < 2 ^ 31) (hnx : ∀ w, w < 7 → s.2.1 51 (7 * st + w) = gE (nx st w)) (hok : ∀ w u, w < 7 → nx st w = some u → gSt nw u) (hf : ∀ u, gSt nw u → gSn (s.2.1 52) (s.2.1 53) R (f u) u) : mf_wonAt s (nI st) (nI R) = some (nI (gWn (gDc nx f st R)), s) := by
  refine wO_iff.mp ?_
  have em : (1 : Int32) + (nI st / (7 : Int32) - nI st / (7 : Int32) / (2 : Int32) * (2 : Int32)) = nI (1 + st / 7 % 2) := by
    rw [show nI st / (7 : Int32) = nI (st / 7) from pu_div (b := 7) (by omega) (by omega), show nI (st / 7) / (2 : Int32) = nI (st / 7 / 2) from pu_div (b := 2) (by omega) (by omega), show nI (st / 7 / 2) * (2 : Int32) = nI (st / 7 / 2 * 2) from pu_mul _ 2, pu_sub (by omega)]
    exact (nI_add 1 _).trans (congrArg nI (by omega))
  unfold mf_wonAt
  rw [em]
  refine wO_bd (Q := fun x => (x = .inl s ∧ gAny (gHit nx f (1 + st / 7 % 2) st) 7 = true) ∨ (x = .inr (nI (gCt (gMv nx st) 7), nI (gCt (gFnd nx f st) 7), s) ∧ gAny (gHit nx f (1 + st / 7 % 2) st) 7 = false)) ?_ ?_
  · refine wO_count (fun i q => q = (nI (gCt (gMv nx st) i), nI (gCt (gFnd nx f st) i), nI i, s) ∧ gAny (gHit nx f (1 + st / 7 % 2) st) i = false) 7 ?_ ?_ _ ⟨rfl, rfl⟩
    · rintro i _ hi ⟨rfl, hno⟩
      unfold mf_wonAt_l14
      refine wO_neg (show ¬ (7 : Int32) ≤ nI i from nI_ge (b := 7) hi (by omega)) ?_
      have ei : (7 : Int32) * nI st + nI i = nI (7 * st + i) := (congrArg (· + nI i) (pu_mul 7 st)).trans (nI_add _ _)
      refine wO_agv (k := 7 * st + i) ei (by omega) (by omega) (hnx i hi) ?_
      have hct := gCt_le (gMv nx st) i
      have hcf := gCt_le (gFnd nx f st) i
      cases hu : nx st i with
      | none =>
        refine wO_neg (show ¬ (0 : Int32) ≤ -1 by decide) ?_
        unfold mf_wonAt_j58
        have m1 : gMv nx st i = false := by unfold gMv; rw [hu]; rfl
        have m2 : gFnd nx f st i = false := by unfold gFnd; rw [hu]
        have m3 : gHit nx f (1 + st / 7 % 2) st i = false := by unfold gHit; rw [hu]
        refine wO_some ⟨?_, ?_⟩
        · simp only [gCt, m1, m2, cond_false, Nat.add_zero, nI_1]
        · simp only [gAny, hno, m3, Bool.or_false]
      | some u =>
        have hgu := hok i u hi hu
        have hul := hgu.1
        refine wO_pos (nI_pos' (by omega)) ?_
        have m1 : gMv nx st i = true := by unfold gMv; rw [hu]; rfl
        have hfu := hf u hgu
        have notf : f u = none → wO (mf_wonAt_j43 s (nI st) (nI R) (nI (1 + st / 7 % 2)) (nI (gCt (gMv nx st) i) + 1) (nI (gCt (gFnd nx f st) i)) (nI i) (nI u)) (mo_sum (fun q => q = (nI (gCt (gMv nx st) (i + 1)), nI (gCt (gFnd nx f st) (i + 1)), nI (i + 1), s) ∧ gAny (gHit nx f (1 + st / 7 % 2) st) (i + 1) = false) (fun x => (x = .inl s ∧ gAny (gHit nx f (1 + st / 7 % 2) st) 7 = true) ∨ (x = .inr (nI (gCt (gMv nx st) 7), nI (gCt (gFnd nx f st) 7), s) ∧ gAny (gHit nx f (1 + st / 7 % 2) st) 7 = false))) := by
          intro hn
          have m2 : gFnd nx f st i = false := by unfold gFnd; rw [hu]; simp [hn]
          have m3 : gHit nx f (1 + st / 7 % 2) st i = false := by unfold gHit; rw [hu]; simp [hn]
          unfold mf_wonAt_j43 mf_wonAt_j44
          refine wO_pos pu_00 ?_
          unfold mf_wonAt_j55
          refine wO_pos pu_00 ?_
          unfold mf_wonAt_j58
          refine wO_some ⟨?_, ?_⟩
          · simp only [gCt, m1, m2, cond_false, cond_true, Nat.add_zero, nI_1]
          · simp only [gAny, hno, m3, Bool.or_false]
        cases hfo : f u with
        | none =>
          rw [hfo] at hfu
          rcases hfu with h0 | ⟨p, b, h1, h2, h3, h4, h5, h6⟩
          · refine wO_agv (k := u) rfl (by omega) (by omega) h0 ?_
            exact wO_pos (Int32.le_refl _) (notf hfo)
          · refine wO_agv (k := u) rfl (by omega) (by omega) h1 ?_
            refine wO_neg (nI_nle (by omega) (by omega)) ?_
            refine wO_agv (k := u) rfl (by omega) (by omega) h4 ?_
            exact wO_pos (nI_le h5 h6) (notf hfo)
        | some p =>
          rw [hfo] at hfu
          obtain ⟨h1, h2, h3, h4, h5⟩ := hfu
          have m2 : gFnd nx f st i = true := by unfold gFnd; rw [hu]; simp [hfo]
          refine wO_agv (k := u) rfl (by omega) (by omega) h1 ?_
          refine wO_neg (nI_nle (by omega) (by omega)) ?_
          refine wO_agv (k := u) rfl (by omega) (by omega) h4 ?_
          refine wO_neg (nI_ge h5 (by omega)) ?_
          unfold mf_wonAt_j44
          refine wO_neg pu_10 ?_
          refine wO_agv (k := u) rfl (by omega) (by omega) h1 ?_
          refine wO_ite (fun c => ?_) (fun c => ?_)
          · have hp : p.1 = 1 + st / 7 % 2 := (nI_eq (by omega) (by omega)).mp c
            refine wO_some (Or.inl ⟨rfl, gAny_iff.mpr ⟨i, hi, ?_⟩⟩)
            unfold gHit
            rw [hu]
            simp [hfo, hp]
          · have hp : ¬ p.1 = 1 + st / 7 % 2 := fun e => c (by rw [e])
            have m3 : gHit nx f (1 + st / 7 % 2) st i = false := by unfold gHit; rw [hu]; simp [hfo, hp]
            unfold mf_wonAt_j55
            refine wO_neg pu_10 ?_
            unfold mf_wonAt_j58
            refine wO_some ⟨?_, ?_⟩
            · simp only [gCt, m1, m2, cond_true, nI_1]
            · simp only [gAny, hno, m3, Bool.or_false]
    · rintro _ ⟨rfl, hno⟩
      unfold mf_wonAt_l14
      exact wO_pos (Int32.le_refl _) (wO_some (Or.inr ⟨rfl, hno⟩))
  · rintro x (⟨rfl, hy⟩ | ⟨rfl, hy⟩)
    · refine wO_some ?_
      unfold gDc
      rw [hy]
      rfl
    · have hct := gCt_le (gMv nx st) 7
      have hcf := gCt_le (gFnd nx f st) 7
      unfold gDc
      rw [hy]
      simp only [cond_false]
      refine wO_ite (fun c => ?_) (fun c => ?_)
      · have h0 : gCt (gMv nx st) 7 = 0 := by
          have := (nI_leI (b := 0) (by omega) (by omega)).mp c
          omega
        refine wO_some ?_
        rw [gCt_0.mp h0]
        rfl
      · have h0 : ¬ gCt (gMv nx st) 7 = 0 := fun e => c (by rw [e]; exact Int32.le_refl _)
        have h1 : gAny (gMv nx st) 7 = true := by
          cases hq : gAny (gMv nx st) 7 with
          | true => rfl
          | false => exact absurd (gCt_0.mpr hq) h0
        rw [h1]
        refine wO_ite (fun d => ?_) (fun d => ?_)
        · have hd := (nI_eq (by omega) (by omega)).mp d
          refine wO_some ?_
          rw [decide_eq_true hd]
          show (_, s) = _
          rw [show (3 : Int32) - nI (1 + st / 7 % 2) = nI (3 - (1 + st / 7 % 2)) from pu_sub (a := 3) (by omega)]
          rfl
        · have hd : ¬ gCt (gFnd nx f st) 7 = gCt (gMv nx st) 7 := fun e => d (by rw [e])
          refine wO_some ?_
          rw [decide_eq_false hd]
          rfl
