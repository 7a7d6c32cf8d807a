/-! couples: sets of speakers as bits; the most couples, and which -/
def gRm (S a : Nat) : Nat := S &&& (31 ^^^ 2 ^ a)
def gLw (S : Nat) : Nat := ((List.range 5).find? (fun i => S.testBit i)).getD 5
theorem gRm_bit : ∀ S, S < 32 → ∀ a, a < 5 → ∀ i, i < 5 → (gRm S a).testBit i = (S.testBit i && !decide (i = a)) := by decide +kernel
theorem gRm_lt : ∀ S, S < 32 → ∀ a, a < 5 → gRm S a < 32 := by decide +kernel
theorem gRm_le : ∀ S, S < 32 → ∀ a, a < 5 → gRm S a ≤ S := by decide +kernel
theorem gRm_ls : ∀ S, S < 32 → ∀ a, a < 5 → S.testBit a = true → gRm S a < S := by decide +kernel
theorem gLw_ok : ∀ S, S < 32 → ¬ S = 0 → gLw S < 5 ∧ S.testBit (gLw S) = true := by decide +kernel
theorem gLw_min : ∀ S, S < 32 → ∀ i, i < 5 → i < gLw S → S.testBit i = false := by decide +kernel
theorem gLw_of {S a : Nat} (hS : S < 32) (ha : a < 5) (h : S.testBit a = true) (hm : ∀ i, i < a → S.testBit i = false) : gLw S = a := by
  have h0 : ¬ S = 0 := fun e => by rw [e, Nat.zero_testBit] at h; cases h
  obtain ⟨h1, h2⟩ := gLw_ok S hS h0
  by_cases h3 : gLw S < a
  · rw [hm _ h3] at h2; cases h2
  · by_cases h4 : a < gLw S
    · rw [gLw_min S hS a ha h4] at h; cases h
    · omega
def gOt (E : Nat → Nat → Bool) (S b : Nat) : Bool := decide (gLw S < b) && (S.testBit b && E (gLw S) b)
def gVl (cb : Nat → Nat) (S b : Nat) : Nat := 1 + cb (gRm (gRm S (gLw S)) b)
def gFm (E : Nat → Nat → Bool) (cb : Nat → Nat) (S : Nat) : Nat → Nat
  | 0 => cb (gRm S (gLw S))
  | k + 1 => if gOt E S k = true ∧ gFm E cb S k < gVl cb S k then gVl cb S k else gFm E cb S k
def gCB (E : Nat → Nat → Bool) : Nat → Nat → Nat
  | 0, _ => 0
  | k + 1, S => if S = 0 then 0 else gFm E (gCB E k) S 5
theorem gOt_ok {E : Nat → Nat → Bool} {S b : Nat} (h : gOt E S b = true) : gLw S < b ∧ S.testBit b = true ∧ E (gLw S) b = true := by
  unfold gOt at h
  rw [Bool.and_eq_true, Bool.and_eq_true, decide_eq_true_eq] at h
  exact h
theorem gFm_cg {E : Nat → Nat → Bool} {f h : Nat → Nat} {S : Nat} (hS : S < 32) (h0 : ¬ S = 0) (e : ∀ x, x < S → f x = h x) : ∀ k, k ≤ 5 → gFm E f S k = gFm E h S k
  | 0, _ => by
    obtain ⟨h1, h2⟩ := gLw_ok S hS h0
    exact e _ (gRm_ls S hS _ h1 h2)
  | k + 1, hk => by
    obtain ⟨h1, h2⟩ := gLw_ok S hS h0
    have l1 := gRm_ls S hS _ h1 h2
    have l2 := gRm_le _ (gRm_lt S hS _ h1) k (by omega)
    have ev : gVl f S k = gVl h S k := by
      unfold gVl
      rw [e _ (by omega)]
    show (if gOt E S k = true ∧ gFm E f S k < gVl f S k then gVl f S k else gFm E f S k) = (if gOt E S k = true ∧ gFm E h S k < gVl h S k then gVl h S k else gFm E h S k)
    rw [gFm_cg hS h0 e k (by omega), ev]
theorem gCB_st {E : Nat → Nat → Bool} : ∀ k S, S ≤ k → S < 32 → gCB E (k + 1) S = gCB E k S
  | 0, S, h, _ => by
    have : S = 0 := by omega
    subst this
    rfl
  | k + 1, S, h, hS => by
    show (if S = 0 then 0 else gFm E (gCB E (k + 1)) S 5) = (if S = 0 then 0 else gFm E (gCB E k) S 5)
    by_cases h0 : S = 0
    · rw [if_pos h0, if_pos h0]
    · rw [if_neg h0, if_neg h0]
      exact gFm_cg hS h0 (fun x hx => gCB_st k x (by omega) (by omega)) 5 (by omega)
/-- how many couples -/
def gCp (E : Nat → Nat → Bool) (S : Nat) : Nat := gCB E 32 S
theorem gCp_0 {E : Nat → Nat → Bool} : gCp E 0 = 0 := rfl
theorem gCp_s {E : Nat → Nat → Bool} {S : Nat} (hS : S < 32) (h0 : ¬ S = 0) : gCp E S = gFm E (gCp E) S 5 := by
  show (if S = 0 then 0 else gFm E (gCB E 31) S 5) = _
  rw [if_neg h0]
  exact gFm_cg hS h0 (fun x hx => (gCB_st 31 x (by omega) (by omega)).symm) 5 (by omega)
theorem gFm_le {E : Nat → Nat → Bool} {cb : Nat → Nat} {S : Nat} (hS : S < 32) (h0 : ¬ S = 0) (h : ∀ x, x < S → cb x ≤ x) : ∀ k, k ≤ 5 → gFm E cb S k ≤ S
  | 0, _ => by
    obtain ⟨h1, h2⟩ := gLw_ok S hS h0
    have l1 := gRm_ls S hS _ h1 h2
    have := h _ l1
    show cb (gRm S (gLw S)) ≤ S
    omega
  | k + 1, hk => by
    have ih := gFm_le (E := E) hS h0 h k (by omega)
    obtain ⟨h1, h2⟩ := gLw_ok S hS h0
    have l1 := gRm_ls S hS _ h1 h2
    have l2 := gRm_le _ (gRm_lt S hS _ h1) k (by omega)
    have l3 := h (gRm (gRm S (gLw S)) k) (by omega)
    show (if gOt E S k = true ∧ gFm E cb S k < gVl cb S k then gVl cb S k else gFm E cb S k) ≤ S
    by_cases c : gOt E S k = true ∧ gFm E cb S k < gVl cb S k
    · rw [if_pos c]
      unfold gVl
      omega
    · rw [if_neg c]
      exact ih
theorem gCp_le {E : Nat → Nat → Bool} : ∀ S, S < 32 → gCp E S ≤ S := by
  intro S
  induction S using Nat.strongRecOn with
  | ind S ih =>
    intro hS
    by_cases h0 : S = 0
    · subst h0
      exact Nat.le_refl _
    · rw [gCp_s hS h0]
      exact gFm_le hS h0 (fun x hx => ih x hx (by omega)) 5 (by omega)
/-- the first of the best -/
def gFo (E : Nat → Nat → Bool) (cb : Nat → Nat) (S : Nat) : Nat → Option Nat
  | 0 => none
  | k + 1 => if gOt E S k = true then (match gFo E cb S k with
    | none => some k
    | some b => if gVl cb S b < gVl cb S k then some k else some b) else gFo E cb S k
theorem gFo_1 {E : Nat → Nat → Bool} {cb : Nat → Nat} {S k : Nat} (h : gOt E S k = false) : gFo E cb S (k + 1) = gFo E cb S k := if_neg (by rw [h]; exact Bool.false_ne_true)
theorem gFo_2 {E : Nat → Nat → Bool} {cb : Nat → Nat} {S k : Nat} (h : gOt E S k = true) (h2 : gFo E cb S k = none) : gFo E cb S (k + 1) = some k := by
  refine (if_pos h).trans ?_
  rw [h2]
theorem gFo_3 {E : Nat → Nat → Bool} {cb : Nat → Nat} {S k b : Nat} (h : gOt E S k = true) (h2 : gFo E cb S k = some b) (h3 : gVl cb S b < gVl cb S k) : gFo E cb S (k + 1) = some k := by
  refine (if_pos h).trans ?_
  rw [h2]
  exact if_pos h3
theorem gFo_4 {E : Nat → Nat → Bool} {cb : Nat → Nat} {S k b : Nat} (h : gOt E S k = true) (h2 : gFo E cb S k = some b) (h3 : ¬ gVl cb S b < gVl cb S k) : gFo E cb S (k + 1) = some b := by
  refine (if_pos h).trans ?_
  rw [h2]
  exact if_neg h3
def gFoP (E : Nat → Nat → Bool) (cb : Nat → Nat) (S k : Nat) : Prop := match gFo E cb S k with
  | none => (∀ b, b < k → gOt E S b = false) ∧ gFm E cb S k = cb (gRm S (gLw S))
  | some b => b < k ∧ gOt E S b = true ∧ (∀ c, c < k → gOt E S c = true → gVl cb S c ≤ gVl cb S b) ∧ (∀ c, c < b → gOt E S c = true → gVl cb S c < gVl cb S b) ∧ gFm E cb S k = max (cb (gRm S (gLw S))) (gVl cb S b)
theorem gFo_ok {E : Nat → Nat → Bool} {cb : Nat → Nat} {S : Nat} : ∀ k, gFoP E cb S k
  | 0 => ⟨fun b hb => absurd hb (by omega), rfl⟩
  | k + 1 => by
    have ih := gFo_ok (E := E) (cb := cb) (S := S) k
    have hm : gFm E cb S (k + 1) = if gOt E S k = true ∧ gFm E cb S k < gVl cb S k then gVl cb S k else gFm E cb S k := rfl
    unfold gFoP at ih ⊢
    cases ho : gOt E S k with
    | false =>
      rw [gFo_1 ho, hm, if_neg (by rw [ho]; exact fun q => Bool.false_ne_true q.1)]
      cases hf : gFo E cb S k with
      | none =>
        rw [hf] at ih
        refine ⟨fun b hb => ?_, ih.2⟩
        by_cases e : b = k
        · subst e; exact ho
        · exact ih.1 b (by omega)
      | some b =>
        rw [hf] at ih
        obtain ⟨i1, i2, i3, i4, i5⟩ := ih
        refine ⟨by omega, i2, fun c hc hoc => ?_, i4, i5⟩
        by_cases e : c = k
        · subst e; rw [ho] at hoc; cases hoc
        · exact i3 c (by omega) hoc
    | true =>
      cases hf : gFo E cb S k with
      | none =>
        rw [hf] at ih
        obtain ⟨i1, i2⟩ := ih
        rw [gFo_2 ho hf, hm, i2]
        refine ⟨by omega, ho, fun c hc hoc => ?_, fun c hc hoc => ?_, ?_⟩
        · by_cases e : c = k
          · subst e; exact Nat.le_refl _
          · rw [i1 c (by omega)] at hoc; cases hoc
        · rw [i1 c (by omega)] at hoc; cases hoc
        · by_cases c : cb (gRm S (gLw S)) < gVl cb S k
          · rw [if_pos ⟨ho, c⟩]; omega
          · rw [if_neg (fun q => c q.2)]; omega
      | some b =>
        rw [hf] at ih
        obtain ⟨i1, i2, i3, i4, i5⟩ := ih
        by_cases hv : gVl cb S b < gVl cb S k
        · rw [gFo_3 ho hf hv, hm, i5]
          refine ⟨by omega, ho, fun c hc hoc => ?_, fun c hc hoc => ?_, ?_⟩
          · by_cases e : c = k
            · subst e; exact Nat.le_refl _
            · have := i3 c (by omega) hoc; omega
          · have := i3 c hc hoc; omega
          · by_cases c : max (cb (gRm S (gLw S))) (gVl cb S b) < gVl cb S k
            · rw [if_pos ⟨ho, c⟩]; omega
            · rw [if_neg (fun q => c q.2)]; omega
        · rw [gFo_4 ho hf hv, hm, i5]
          refine ⟨by omega, i2, fun c hc hoc => ?_, i4, ?_⟩
          · by_cases e : c = k
            · subst e; omega
            · exact i3 c (by omega) hoc
          · rw [if_neg (fun q => by have := q.2; omega)]
/-- with whom the lowest is -/
def gCo (E : Nat → Nat → Bool) (cb : Nat → Nat) (S : Nat) : Nat → Option Nat
  | 0 => none
  | k + 1 => match gCo E cb S k with
    | some b => some b
    | none => if gOt E S k = true ∧ gVl cb S k = cb S then some k else none
theorem gCo_some {E : Nat → Nat → Bool} {cb : Nat → Nat} {S b : Nat} : ∀ {k}, gCo E cb S k = some b → b < k ∧ gOt E S b = true ∧ gVl cb S b = cb S ∧ ∀ c, c < b → ¬ (gOt E S c = true ∧ gVl cb S c = cb S)
  | 0, h => by cases h
  | k + 1, h => by
    cases hk : gCo E cb S k with
    | some d =>
      have : gCo E cb S (k + 1) = some d := by
        show (match gCo E cb S k with
          | some b => some b
          | none => if gOt E S k = true ∧ gVl cb S k = cb S then some k else none) = _
        rw [hk]
      rw [this] at h
      cases h
      obtain ⟨h1, h2, h3, h4⟩ := gCo_some hk
      exact ⟨by omega, h2, h3, h4⟩
    | none =>
      have e : gCo E cb S (k + 1) = if gOt E S k = true ∧ gVl cb S k = cb S then some k else none := by
        show (match gCo E cb S k with
          | some b => some b
          | none => if gOt E S k = true ∧ gVl cb S k = cb S then some k else none) = _
        rw [hk]
      rw [e] at h
      by_cases c : gOt E S k = true ∧ gVl cb S k = cb S
      · rw [if_pos c] at h
        cases h
        refine ⟨by omega, c.1, c.2, fun d hd q => ?_⟩
        exact gCo_none hk d hd q
      · rw [if_neg c] at h
        cases h
where
  gCo_none {E : Nat → Nat → Bool} {cb : Nat → Nat} {S : Nat} : ∀ {k}, gCo E cb S k = none → ∀ c, c < k → ¬ (gOt E S c = true ∧ gVl cb S c = cb S)
  | 0, _, c, hc => absurd hc (by omega)
  | k + 1, h, c, hc => by
    cases hk : gCo E cb S k with
    | some d =>
      have : gCo E cb S (k + 1) = some d := by
        show (match gCo E cb S k with
          | some b => some b
          | none => if gOt E S k = true ∧ gVl cb S k = cb S then some k else none) = _
        rw [hk]
      rw [this] at h
      cases h
    | none =>
      have e : gCo E cb S (k + 1) = if gOt E S k = true ∧ gVl cb S k = cb S then some k else none := by
        show (match gCo E cb S k with
          | some b => some b
          | none => if gOt E S k = true ∧ gVl cb S k = cb S then some k else none) = _
        rw [hk]
      rw [e] at h
      intro q
      by_cases e2 : c = k
      · subst e2
        rw [if_pos q] at h
        cases h
      · exact gCo_none hk c (by omega) q
theorem gCo_none {E : Nat → Nat → Bool} {cb : Nat → Nat} {S k : Nat} (h : gCo E cb S k = none) : ∀ c, c < k → ¬ (gOt E S c = true ∧ gVl cb S c = cb S) := gCo_some.gCo_none h
/-- with whom each is -/
def gWz (E : Nat → Nat → Bool) (cb : Nat → Nat) : Nat → Nat → Nat → Int32
  | 0, _, _ => -2
  | k + 1, S, i => if S = 0 then -2 else match gCo E cb S 5 with
    | some b => if i = gLw S then nI b else if i = b then nI (gLw S) else gWz E cb k (gRm (gRm S (gLw S)) b) i
    | none => if i = gLw S then -2 else gWz E cb k (gRm S (gLw S)) i
theorem gWz_st {E : Nat → Nat → Bool} {cb : Nat → Nat} : ∀ k S, S ≤ k → S < 32 → ∀ i, gWz E cb (k + 1) S i = gWz E cb k S i
  | 0, S, h, _, i => by
    have : S = 0 := by omega
    subst this
    rfl
  | k + 1, S, h, hS, i => by
    unfold gWz
    by_cases h0 : S = 0
    · rw [if_pos h0, if_pos h0]
    · rw [if_neg h0, if_neg h0]
      obtain ⟨h1, h2⟩ := gLw_ok S hS h0
      have l1 := gRm_ls S hS _ h1 h2
      cases hc : gCo E cb S 5 with
      | none =>
        show (if i = gLw S then _ else gWz E cb (k + 1) (gRm S (gLw S)) i) = (if i = gLw S then _ else gWz E cb k (gRm S (gLw S)) i)
        rw [gWz_st k (gRm S (gLw S)) (by omega) (by omega) i]
      | some b =>
        have hb := (gCo_some hc).1
        have l2 := gRm_le _ (gRm_lt S hS _ h1) b hb
        show (if i = gLw S then _ else if i = b then _ else gWz E cb (k + 1) (gRm (gRm S (gLw S)) b) i) = (if i = gLw S then _ else if i = b then _ else gWz E cb k (gRm (gRm S (gLw S)) b) i)
        rw [gWz_st k (gRm (gRm S (gLw S)) b) (by omega) (by omega) i]
def gMa (E : Nat → Nat → Bool) (S i : Nat) : Int32 := gWz E (gCp E) 32 S i
theorem gMa_1 {E : Nat → Nat → Bool} {S i b : Nat} (hS : S < 32) (h0 : ¬ S = 0) (hc : gCo E (gCp E) S 5 = some b) : gMa E S i = if i = gLw S then nI b else if i = b then nI (gLw S) else gMa E (gRm (gRm S (gLw S)) b) i := by
  obtain ⟨h1, h2⟩ := gLw_ok S hS h0
  have l1 := gRm_ls S hS _ h1 h2
  have hb := (gCo_some hc).1
  have l2 := gRm_le _ (gRm_lt S hS _ h1) b hb
  unfold gMa
  rw [gWz_st 31 (gRm (gRm S (gLw S)) b) (by omega) (by omega) i]
  show (if S = 0 then -2 else match gCo E (gCp E) S 5 with
    | some b => if i = gLw S then nI b else if i = b then nI (gLw S) else gWz E (gCp E) 31 (gRm (gRm S (gLw S)) b) i
    | none => if i = gLw S then -2 else gWz E (gCp E) 31 (gRm S (gLw S)) i) = _
  rw [if_neg h0, hc]
theorem gMa_2 {E : Nat → Nat → Bool} {S i : Nat} (hS : S < 32) (h0 : ¬ S = 0) (hc : gCo E (gCp E) S 5 = none) : gMa E S i = if i = gLw S then -2 else gMa E (gRm S (gLw S)) i := by
  obtain ⟨h1, h2⟩ := gLw_ok S hS h0
  have l1 := gRm_ls S hS _ h1 h2
  unfold gMa
  rw [gWz_st 31 (gRm S (gLw S)) (by omega) (by omega) i]
  show (if S = 0 then -2 else match gCo E (gCp E) S 5 with
    | some b => if i = gLw S then nI b else if i = b then nI (gLw S) else gWz E (gCp E) 31 (gRm (gRm S (gLw S)) b) i
    | none => if i = gLw S then -2 else gWz E (gCp E) 31 (gRm S (gLw S)) i) = _
  rw [if_neg h0, hc]
/-- the class's choice is the reference's -/
theorem gFo_co {E : Nat → Nat → Bool} {S : Nat} (hS : S < 32) (h0 : ¬ S = 0) : (∃ b, gFo E (gCp E) S 5 = some b ∧ gCp E (gRm S (gLw S)) ≤ gVl (gCp E) S b ∧ gCo E (gCp E) S 5 = some b ∧ gCp E S = gVl (gCp E) S b) ∨ ((∀ b, gFo E (gCp E) S 5 = some b → gVl (gCp E) S b < gCp E (gRm S (gLw S))) ∧ gCo E (gCp E) S 5 = none ∧ gCp E S = gCp E (gRm S (gLw S))) := by
  have hk := gFo_ok (E := E) (cb := gCp E) (S := S) 5
  have hs := gCp_s (E := E) hS h0
  unfold gFoP at hk
  cases hf : gFo E (gCp E) S 5 with
  | none =>
    rw [hf] at hk
    refine Or.inr ⟨fun b hb => (by cases hb), ?_, hs.trans hk.2⟩
    cases hc : gCo E (gCp E) S 5 with
    | none => rfl
    | some c =>
      have := gCo_some hc
      rw [hk.1 c this.1] at this
      cases this.2.1
  | some b =>
    rw [hf] at hk
    obtain ⟨i1, i2, i3, i4, i5⟩ := hk
    rw [i5] at hs
    by_cases hle : gCp E (gRm S (gLw S)) ≤ gVl (gCp E) S b
    · left
      have e : gCp E S = gVl (gCp E) S b := by omega
      refine ⟨b, rfl, hle, ?_, e⟩
      cases hc : gCo E (gCp E) S 5 with
      | none => exact absurd ⟨i2, e.symm⟩ (gCo_none hc b i1)
      | some c =>
        obtain ⟨c1, c2, c3, c4⟩ := gCo_some hc
        by_cases h6 : b < c
        · exact absurd ⟨i2, e.symm⟩ (c4 b h6)
        · by_cases h7 : c < b
          · have := i4 c h7 c2
            omega
          · rw [show c = b by omega]
    · right
      have e : gCp E S = gCp E (gRm S (gLw S)) := by omega
      refine ⟨fun c hc => (by cases hc; omega), ?_, e⟩
      cases hc : gCo E (gCp E) S 5 with
      | none => rfl
      | some c =>
        obtain ⟨c1, c2, c3, c4⟩ := gCo_some hc
        have := i3 c c1 c2
        omega
