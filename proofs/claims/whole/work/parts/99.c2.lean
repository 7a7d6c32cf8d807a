/-! couples: the reference -/
def gEb (g : gT) (B : Nat → Nat) (a b : Nat) : Bool := (B a).testBit b
theorem pu_rm : ∀ S, S < 32 → ∀ a, a < 5 → (nI S &&& (((1 : Int32) <<< (nI a &&& 31)) ^^^ (-1 : Int32))) = nI (gRm S a) := by decide +kernel
theorem m_lowest {S : Nat} (hS : S < 32) (h0 : ¬ S = 0) : mf_lowestOf (nI S) = some (nI (gLw S)) := by
  obtain ⟨h1, h2⟩ := gLw_ok S hS h0
  refine wO_iff.mp ?_
  unfold mf_lowestOf
  refine wO_bd (Q := fun v => v = nI (gLw S)) ?_ (by rintro _ rfl; exact wO_some rfl)
  refine wO_count (fun (i : Nat) (w : Int32) => w = nI i) (gLw S) ?_ ?_ _ rfl
  · rintro i w hi rfl
    unfold mf_lowestOf_l2
    rw [pu_bit S (by omega) i (by omega), gLw_min S hS i (by omega) hi]
    exact wO_pos rfl (wO_some (nI_1 i))
  · rintro w rfl
    unfold mf_lowestOf_l2
    rw [pu_bit S (by omega) _ (by omega), h2]
    exact wO_neg pu_10 (wO_some rfl)
/-- the calm pairs as rows of bits -/
def gCr (n : Nat) (B : Nat → Nat) (m : ms_S) : Prop := ∀ a, a < n → m.2.1 61 a = nI (B a) ∧ B a < 64
theorem m_isCouple {n S b : Nat} {B : Nat → Nat} {m : ms_S} (hn : n ≤ 5) (h : gCr n B m) (hS : S < 2 ^ n) (h0 : ¬ S = 0) (hb : b < 5) (hab : gLw S < b) : mf_isCouple m (nI (gLw S)) (nI b) (nI S) = some ((bif gOt (fun a b => (B a).testBit b) S b then 1 else 0), m) := by
  have h32 : S < 32 := Nat.lt_of_lt_of_le hS (Nat.pow_le_pow_right (by omega) hn : 2 ^ n ≤ 2 ^ 5)
  obtain ⟨h1, h2⟩ := gLw_ok S h32 h0
  have han : gLw S < n := by
    by_cases q : gLw S < n
    · exact q
    · have := Nat.testBit_lt_two_pow (x := S) (i := gLw S) (Nat.lt_of_lt_of_le hS (Nat.pow_le_pow_right (by omega) (by omega)))
      rw [this] at h2
      cases h2
  refine wO_iff.mp ?_
  unfold mf_isCouple gOt
  rw [pu_bit S (by omega) b (by omega), decide_eq_true hab, Bool.true_and]
  cases hsb : S.testBit b with
  | false => exact wO_neg (show ¬ (0 : Int32) = 1 by decide) (wO_some rfl)
  | true =>
    refine wO_pos rfl (wO_agv (k := gLw S) rfl (by omega) (by omega) (h _ han).1 ?_)
    rw [pu_bit _ (h _ han).2 b (by omega), Bool.true_and]
    show wO _ (fun y => y = ((bif (B (gLw S)).testBit b then 1 else 0), m))
    cases (B (gLw S)).testBit b with
    | false => exact wO_neg (show ¬ (0 : Int32) = 1 by decide) (wO_some rfl)
    | true => exact wO_pos rfl (wO_some rfl)
/-- the table of the most couples, as far as it is told -/
def gCt2 (E : Nat → Nat → Bool) (w : Nat) (m : ms_S) : Prop := ∀ S, S < w → m.2.1 62 S = nI (gCp E S)
theorem m_couplesWith {S b w : Nat} {E : Nat → Nat → Bool} {m : ms_S} (h : gCt2 E w m) (hw : S ≤ w) (hS : S < 32) (h0 : ¬ S = 0) (hb : b < 5) : mf_couplesWith m (nI (gLw S)) (nI b) (nI S) = some (nI (gVl (gCp E) S b), m) := by
  obtain ⟨h1, h2⟩ := gLw_ok S hS h0
  have l1 := gRm_ls S hS _ h1 h2
  have l0 := gRm_lt S hS _ h1
  have l2 := gRm_le _ l0 b hb
  refine wO_iff.mp ?_
  unfold mf_couplesWith
  rw [pu_rm S hS _ h1, pu_rm _ l0 b hb]
  refine wO_agv (k := gRm (gRm S (gLw S)) b) rfl (by omega) (by omega) (h _ (by omega)) (wO_some ?_)
  rw [show (1 : Int32) + nI (gCp E (gRm (gRm S (gLw S)) b)) = nI (1 + gCp E (gRm (gRm S (gLw S)) b)) from nI_add 1 _]
  rfl
theorem gVl_lt {E : Nat → Nat → Bool} {S b : Nat} (hS : S < 32) (h0 : ¬ S = 0) (hb : b < 5) : gVl (gCp E) S b ≤ 32 := by
  obtain ⟨h1, h2⟩ := gLw_ok S hS h0
  have l0 := gRm_lt S hS _ h1
  have l2 := gRm_lt _ l0 b hb
  have := gCp_le (E := E) _ l2
  unfold gVl
  omega
theorem gFm_lt {E : Nat → Nat → Bool} {S k : Nat} (hS : S < 32) (h0 : ¬ S = 0) (hk : k ≤ 5) : gFm E (gCp E) S k ≤ S := gFm_le hS h0 (fun x hx => gCp_le x (by omega)) k hk
theorem gFm_lo {E : Nat → Nat → Bool} {cb : Nat → Nat} {S : Nat} : ∀ k, k ≤ gLw S + 1 → gFm E cb S k = cb (gRm S (gLw S))
  | 0, _ => rfl
  | k + 1, hk => by
    show (if gOt E S k = true ∧ gFm E cb S k < gVl cb S k then gVl cb S k else gFm E cb S k) = _
    rw [if_neg, gFm_lo k (by omega)]
    intro q
    have := (gOt_ok q.1).1
    omega
theorem m_couples_in {n S : Nat} {B : Nat → Nat} {m : ms_S} (hn : n ≤ 5) (h : gCr n B m) (hS : S < 2 ^ n) (h0 : ¬ S = 0) (ht : gCt2 (fun a b => (B a).testBit b) S m) (hv : m.2.1 62 S = nI (gCp (fun a b => (B a).testBit b) (gRm S (gLw S)))) : wO (mo_loop (mf_fillsCouples_l39 (nI S) (nI (gLw S))) (nI (gLw S + 1), m)) (fun t => msF [62] m t ∧ gCt2 (fun a b => (B a).testBit b) (S + 1) t) := by
  have h32 : S < 32 := Nat.lt_of_lt_of_le hS (Nat.pow_le_pow_right (by omega) hn : 2 ^ n ≤ 2 ^ 5)
  obtain ⟨h1, h2⟩ := gLw_ok S h32 h0
  generalize hE : (fun a b => (B a).testBit b) = E at *
  refine wO_count (fun (k : Nat) (q : Int32 × ms_S) => q.1 = nI (gLw S + 1 + k) ∧ msF [62] m q.2 ∧ gCt2 E S q.2 ∧ q.2.2.1 62 S = nI (gFm E (gCp E) S (gLw S + 1 + k))) (5 - (gLw S + 1)) ?_ ?_ _ ⟨rfl, msF.rf, ht, by rw [gFm_lo _ (by omega)]; exact hv⟩
  · rintro k ⟨w3, t⟩ hk ⟨e1, f1, c1, v1⟩
    have e1 : w3 = nI (gLw S + 1 + k) := e1
    have f1 : msF [62] m t := f1
    have c1 : gCt2 E S t := c1
    have v1 : t.2.1 62 S = nI (gFm E (gCp E) S (gLw S + 1 + k)) := v1
    subst e1
    have hr : gCr n B t := fun a ha => by rw [f1.a 61 (by decide)]; exact h a ha
    have hvl := gVl_lt (E := E) (b := gLw S + 1 + k) h32 h0 (by omega)
    have hfl := gFm_lt (E := E) (k := gLw S + 1 + k) h32 h0 (by omega)
    have step : gFm E (gCp E) S (gLw S + 1 + (k + 1)) = if gOt E S (gLw S + 1 + k) = true ∧ gFm E (gCp E) S (gLw S + 1 + k) < gVl (gCp E) S (gLw S + 1 + k) then gVl (gCp E) S (gLw S + 1 + k) else gFm E (gCp E) S (gLw S + 1 + k) := rfl
    have ic := m_isCouple (b := gLw S + 1 + k) hn hr hS h0 (by omega) (by omega)
    rw [hE] at ic
    unfold mf_fillsCouples_l39 mf_fillsCouples_j67
    refine wO_neg (show ¬ (5 : Int32) ≤ nI (gLw S + 1 + k) from nI_ge (b := 5) (by omega) (by omega)) (wO_eq ic ?_)
    cases ho : gOt E S (gLw S + 1 + k) with
    | false =>
      refine wO_pos rfl (wO_some ⟨nI_1 _, f1, c1, ?_⟩)
      show t.2.1 62 S = nI (gFm E (gCp E) S (gLw S + 1 + (k + 1)))
      rw [step, if_neg (by rw [ho]; exact fun q => Bool.false_ne_true q.1)]
      exact v1
    | true =>
      have cw := m_couplesWith (b := gLw S + 1 + k) c1 (Nat.le_refl S) h32 h0 (by omega)
      refine wO_neg pu_10 (wO_eq cw (wO_agv (k := S) rfl h32 (by omega) v1 ?_))
      by_cases hlt : gFm E (gCp E) S (gLw S + 1 + k) < gVl (gCp E) S (gLw S + 1 + k)
      · refine wO_neg (nI_ge hlt (by omega)) (wO_eq cw (wO_in (k := S) rfl h32 (by omega) ?_))
        rw [nI_clamp (by omega)]
        refine wO_some ⟨nI_1 _, f1.tr (msF.sA (by decide)), fun X hX => ?_, ?_⟩
        · show upd (t.2.1 62) S _ X = _
          rw [upd_ne (by omega)]
          exact c1 X hX
        · show upd (t.2.1 62) S _ S = nI (gFm E (gCp E) S (gLw S + 1 + (k + 1)))
          rw [upd_eq, step, if_pos ⟨ho, hlt⟩]
      · refine wO_pos (nI_le (by omega) (by omega)) (wO_some ⟨nI_1 _, f1, c1, ?_⟩)
        show t.2.1 62 S = nI (gFm E (gCp E) S (gLw S + 1 + (k + 1)))
        rw [step, if_neg (fun q => hlt q.2)]
        exact v1
  · rintro ⟨w3, t⟩ ⟨e1, f1, c1, v1⟩
    have e1 : w3 = nI (gLw S + 1 + (5 - (gLw S + 1))) := e1
    have e5 : gLw S + 1 + (5 - (gLw S + 1)) = 5 := by omega
    rw [e5] at e1
    subst e1
    have v1 : t.2.1 62 S = nI (gFm E (gCp E) S (gLw S + 1 + (5 - (gLw S + 1)))) := v1
    have c1 : gCt2 E S t := c1
    rw [e5] at v1
    unfold mf_fillsCouples_l39
    refine wO_pos (Int32.le_refl _) (wO_some ⟨f1, fun X hX => ?_⟩)
    by_cases e : X = S
    · subst e
      rw [gCp_s h32 h0]
      exact v1
    · exact c1 X (by omega)
def mQ4 : List Nat := [44, 45, 46, 48, 49, 50, 51, 52, 53, 56, 57, 58, 59, 60, 61, 62]
theorem pu_sh6 : ∀ n, n < 6 → ((1 : Int32) <<< (nI n &&& 31)) = nI (2 ^ n) := pu_sh
theorem m_fillsCouples {g : gT} {lv ti : Nat} {m : ms_S} {po : Option (Nat × Nat)} {st : Nat} (h : MN g lv m po st) (h29 : m.2.1 29 lv = nI ti) (hti : ti ≤ 20) : wO (mf_fillsCouples m) (fun t => msF mQ4 m t ∧ gCr g.1.1 (fun a => gBs (gCb g ti a) g.1.1) t ∧ gCt2 (fun a b => (gBs (gCb g ti a) g.1.1).testBit b) (2 ^ g.1.1) t) := by
  have hns := h.1.2.2.1
  have hlv := h.1.1
  unfold mf_fillsCouples
  refine wO_bd (m_fillsCalm h h29 hti) ?_
  rintro m1 ⟨f0, r0⟩
  generalize hm2 : ms_sA m1 62 (upd (m1.2.1 62) 0 0) = m2
  have f1 : msF mQ4 m m2 := by
    rw [← hm2]
    exact (f0.wk (by decide)).tr (msF.sA (by decide))
  have r1 : gCr g.1.1 (fun a => gBs (gCb g ti a) g.1.1) m2 := fun a ha => by
    rw [← hm2]
    exact ⟨r0 a ha, gBs_lt64 (by omega)⟩
  have t1 : gCt2 (fun a b => (gBs (gCb g ti a) g.1.1).testBit b) 1 m2 := fun S hS => by
    have : S = 0 := by omega
    subst this
    rw [← hm2]
    show upd (m1.2.1 62) 0 0 0 = _
    rw [upd_eq, gCp_0]
    rfl
  have hp : 1 ≤ 2 ^ g.1.1 := Nat.one_le_two_pow
  have hp5 : 2 ^ g.1.1 ≤ 32 := (Nat.pow_le_pow_right (by omega) hns : 2 ^ g.1.1 ≤ 2 ^ 5)
  refine wO_bd (Q := fun t => msF mQ4 m t ∧ gCr g.1.1 (fun a => gBs (gCb g ti a) g.1.1) t ∧ gCt2 (fun a b => (gBs (gCb g ti a) g.1.1).testBit b) (2 ^ g.1.1) t) ?_ (fun t ht => wO_some ht)
  refine wO_count (fun (k : Nat) (q : Int32 × ms_S) => q.1 = nI (1 + k) ∧ msF mQ4 m q.2 ∧ gCr g.1.1 (fun a => gBs (gCb g ti a) g.1.1) q.2 ∧ gCt2 (fun a b => (gBs (gCb g ti a) g.1.1).testBit b) (1 + k) q.2) (2 ^ g.1.1 - 1) ?_ ?_ _ ⟨rfl, f1, r1, t1⟩
  · rintro k ⟨w1, t⟩ hk ⟨e1, f2, r2, t2⟩
    have e1 : w1 = nI (1 + k) := e1
    have f2 : msF mQ4 m t := f2
    have r2 : gCr g.1.1 (fun a => gBs (gCb g ti a) g.1.1) t := r2
    have t2 : gCt2 (fun a b => (gBs (gCb g ti a) g.1.1).testBit b) (1 + k) t := t2
    subst e1
    have hM : MN g lv t po st := h.mv f2 (by decide) (by decide)
    have hS : 1 + k < 2 ^ g.1.1 := by omega
    have h32 : 1 + k < 32 := by omega
    obtain ⟨l1, l2⟩ := gLw_ok (1 + k) h32 (by omega)
    have l3 := gRm_ls (1 + k) h32 _ l1 l2
    unfold mf_fillsCouples_l9
    refine wO_agv (k := lv) hM.1.2.1 (by omega) (by omega) hM.1.2.2.2.2.1 ?_
    rw [pu_sh6 _ (by omega)]
    refine wO_neg (nI_ge hS (by omega)) (wO_eq (m_lowest h32 (by omega)) ?_)
    rw [pu_rm (1 + k) h32 _ l1]
    refine wO_agv (k := gRm (1 + k) (gLw (1 + k))) rfl (by omega) (by omega) (t2 _ l3) (wO_in (k := 1 + k) rfl h32 (by omega) ?_)
    rw [nI_clamp (by omega), nI_1]
    have fa : ∀ v, msF [62] t (ms_sA t 62 v) := fun v => msF.sA (by decide)
    refine wO_bd (m_couples_in (n := g.1.1) (B := fun a => gBs (gCb g ti a) g.1.1) hns (fun a ha => r2 a ha) hS (by omega) (fun X hX => ?_) ?_) ?_
    · show upd (t.2.1 62) (1 + k) _ X = _
      rw [upd_ne (by omega)]
      exact t2 X hX
    · show upd (t.2.1 62) (1 + k) _ (1 + k) = _
      exact upd_eq
    · rintro t3 ⟨f3, c3⟩
      rw [nI_1]
      have f4 : msF mQ4 t t3 := ((fa _).wk (by decide)).tr (f3.wk (by decide))
      refine wO_some ⟨rfl, f2.tr f4, fun a ha => ?_, c3⟩
      show t3.2.1 61 a = _ ∧ _
      rw [f3.a 61 (by decide)]
      exact r2 a ha
  · rintro ⟨w1, t⟩ ⟨e1, f2, r2, t2⟩
    have e0 : 1 + (2 ^ g.1.1 - 1) = 2 ^ g.1.1 := by omega
    have e1 : w1 = nI (1 + (2 ^ g.1.1 - 1)) := e1
    have f2 : msF mQ4 m t := f2
    have t4 : gCt2 (fun a b => (gBs (gCb g ti a) g.1.1).testBit b) (1 + (2 ^ g.1.1 - 1)) t := t2
    rw [e0] at e1 t4
    subst e1
    have hM : MN g lv t po st := h.mv f2 (by decide) (by decide)
    unfold mf_fillsCouples_l9
    refine wO_agv (k := lv) hM.1.2.1 (by omega) (by omega) hM.1.2.2.2.2.1 ?_
    rw [pu_sh6 _ (by omega)]
    exact wO_pos (Int32.le_refl _) (wO_some ⟨f2, r2, t4⟩)
def gE6 (o : Option Nat) : Int32 := match o with
  | none => -2
  | some b => nI b
theorem m_coupleOf {n S : Nat} {B : Nat → Nat} {m : ms_S} (hn : n ≤ 5) (h : gCr n B m) (hS : S < 2 ^ n) (h0 : ¬ S = 0) (ht : gCt2 (fun a b => (B a).testBit b) (2 ^ n) m) : mf_coupleOf m (nI S) = some (gE6 (gCo (fun a b => (B a).testBit b) (gCp (fun a b => (B a).testBit b)) S 5), m) := by
  have h32 : S < 32 := Nat.lt_of_lt_of_le hS (Nat.pow_le_pow_right (by omega) hn : 2 ^ n ≤ 2 ^ 5)
  obtain ⟨h1, h2⟩ := gLw_ok S h32 h0
  have ic : ∀ b, b < 5 → gLw S < b → mf_isCouple m (nI (gLw S)) (nI b) (nI S) = some ((bif gOt (fun a b => (B a).testBit b) S b then 1 else 0), m) := fun b hb hab => m_isCouple hn h hS h0 hb hab
  generalize (fun a b => (B a).testBit b) = E at *
  have lo : ∀ k, k ≤ gLw S + 1 → gCo E (gCp E) S k = none := fun k hk => by
    cases hc : gCo E (gCp E) S k with
    | none => rfl
    | some b =>
      have := gCo_some hc
      have := (gOt_ok this.2.1).1
      omega
  have s1 : ∀ k, gCo E (gCp E) S k = none → gCo E (gCp E) S (k + 1) = if gOt E S k = true ∧ gVl (gCp E) S k = gCp E S then some k else none := fun k hk => by
    show (match gCo E (gCp E) S k with
      | some b => some b
      | none => if gOt E S k = true ∧ gVl (gCp E) S k = gCp E S then some k else none) = _
    rw [hk]
  have s2 : ∀ (k b j : Nat), gCo E (gCp E) S k = some b → gCo E (gCp E) S (k + j) = some b := fun k b j hk => by
    induction j with
    | zero => exact hk
    | succ j ih =>
      show (match gCo E (gCp E) S (k + j) with
        | some b => some b
        | none => if gOt E S (k + j) = true ∧ gVl (gCp E) S (k + j) = gCp E S then some (k + j) else none) = _
      rw [ih]
  refine wO_iff.mp ?_
  unfold mf_coupleOf
  refine wO_eq (m_lowest h32 h0) ?_
  rw [nI_1]
  refine wO_bd (Q := fun r => (∃ b, r = .inl (nI b, m) ∧ gCo E (gCp E) S 5 = some b) ∨ (r = .inr m ∧ gCo E (gCp E) S 5 = none)) ?_ ?_
  · refine wO_count (fun (k : Nat) (q : Int32 × ms_S) => q.1 = nI (gLw S + 1 + k) ∧ q.2 = m ∧ gCo E (gCp E) S (gLw S + 1 + k) = none) (5 - (gLw S + 1)) ?_ ?_ _ ⟨rfl, rfl, lo _ (by omega)⟩
    · rintro k ⟨w3, t⟩ hk ⟨e1, e2, c1⟩
      have e1 : w3 = nI (gLw S + 1 + k) := e1
      have e2 : t = m := e2
      subst e1 e2
      have hvl := gVl_lt (E := E) (b := gLw S + 1 + k) h32 h0 (by omega)
      have hcl := gCp_le (E := E) S h32
      have st := s1 _ c1
      unfold mf_coupleOf_l7 mf_coupleOf_j28
      refine wO_neg (show ¬ (5 : Int32) ≤ nI (gLw S + 1 + k) from nI_ge (b := 5) (by omega) (by omega)) (wO_eq (ic _ (by omega) (by omega)) ?_)
      cases ho : gOt E S (gLw S + 1 + k) with
      | false =>
        refine wO_pos rfl (wO_some ⟨nI_1 _, rfl, ?_⟩)
        show gCo E (gCp E) S (gLw S + 1 + k + 1) = none
        rw [st, if_neg (by rw [ho]; exact fun q => Bool.false_ne_true q.1)]
      | true =>
        have cw := m_couplesWith (b := gLw S + 1 + k) ht (by omega) h32 h0 (by omega)
        refine wO_neg pu_10 (wO_eq cw (wO_agv (k := S) rfl h32 (by omega) (ht S hS) ?_))
        by_cases he : gVl (gCp E) S (gLw S + 1 + k) = gCp E S
        · refine wO_pos (by rw [he]) (wO_some (Or.inl ⟨gLw S + 1 + k, rfl, ?_⟩))
          have q := s2 (gLw S + 1 + k + 1) (gLw S + 1 + k) (5 - (gLw S + 1 + k + 1)) (by rw [st, if_pos ⟨ho, he⟩])
          rw [show gLw S + 1 + k + 1 + (5 - (gLw S + 1 + k + 1)) = 5 by omega] at q
          exact q
        · refine wO_neg (fun e => he ((nI_eq (by omega) (by omega)).mp e)) (wO_some ⟨nI_1 _, rfl, ?_⟩)
          show gCo E (gCp E) S (gLw S + 1 + k + 1) = none
          rw [st, if_neg (fun q => he q.2)]
    · rintro ⟨w3, t⟩ ⟨e1, e2, c1⟩
      have e5 : gLw S + 1 + (5 - (gLw S + 1)) = 5 := by omega
      have e1 : w3 = nI (gLw S + 1 + (5 - (gLw S + 1))) := e1
      have e2 : t = m := e2
      rw [e5] at e1 c1
      subst e1 e2
      unfold mf_coupleOf_l7
      exact wO_pos (Int32.le_refl _) (wO_some (Or.inr ⟨rfl, c1⟩))
  · rintro r (⟨b, rfl, hc⟩ | ⟨rfl, hc⟩)
    · rw [hc]; exact wO_some rfl
    · rw [hc]; exact wO_some rfl
theorem m_couples_at {n S i : Nat} {B : Nat → Nat} {m : ms_S} (hn : n ≤ 5) (h : gCr n B m) (hi : i < 5) (hS : S < 2 ^ n) (hb : S.testBit i = true) (ht : gCt2 (fun a b => (B a).testBit b) (2 ^ n) m) : wO (mo_loop (mf_couples_l29 (nI i)) (nI S, m)) (fun r => r = .inl (gMa (fun a b => (B a).testBit b) S i, m) ∨ r = .inr (gMa (fun a b => (B a).testBit b) S i, m)) := by
  refine wO_loop (fun (k : Nat) (q : Int32 × ms_S) => ∃ X, q.1 = nI X ∧ q.2 = m ∧ X = k ∧ X < 2 ^ n ∧ X.testBit i = true ∧ gMa (fun a b => (B a).testBit b) X i = gMa (fun a b => (B a).testBit b) S i) ?_ S _ ⟨S, rfl, rfl, rfl, hS, hb, rfl⟩
  rintro k ⟨w2, t⟩ ⟨X, e1, e2, e3, hX, hXb, hM⟩
  have e1 : w2 = nI X := e1
  have e2 : t = m := e2
  subst e1 e2 e3
  have h32 : X < 32 := Nat.lt_of_lt_of_le hX (Nat.pow_le_pow_right (by omega) hn : 2 ^ n ≤ 2 ^ 5)
  have h0 : ¬ X = 0 := fun e => by rw [e, Nat.zero_testBit] at hXb; cases hXb
  obtain ⟨h1, h2⟩ := gLw_ok X h32 h0
  have l1 := gRm_ls X h32 _ h1 h2
  have l0 := gRm_lt X h32 _ h1
  have co := m_coupleOf hn h hX h0 ht
  generalize (fun a b => (B a).testBit b) = E at *
  unfold mf_couples_l29 mf_couples_j64
  refine wO_eq (m_lowest h32 h0) (wO_eq co ?_)
  cases hc : gCo E (gCp E) X 5 with
  | none =>
    have ma := gMa_2 (i := i) h32 h0 hc
    by_cases e : gLw X = i
    · refine wO_pos (by rw [e]) (wO_some (Or.inl ?_))
      rw [← hM, ma, if_pos e.symm]
      rfl
    · refine wO_neg (fun q => e ((nI_eq (by omega) (by omega)).mp q)) (wO_neg (fun q => pu_neg2 (k := i) (by omega) q.symm) (wO_pos (show (-2 : Int32) < 0 by decide) ?_))
      rw [pu_rm X h32 _ h1]
      refine wO_some ⟨gRm X (gLw X), l1, gRm X (gLw X), rfl, rfl, rfl, by omega, ?_, ?_⟩
      · rw [gRm_bit X h32 _ h1 i hi, hXb, decide_eq_false (fun q => e q.symm)]; rfl
      · rw [← hM, ma, if_neg (fun q => e q.symm)]
  | some b =>
    have hbb := (gCo_some hc).1
    have ma := gMa_1 (i := i) h32 h0 hc
    have l2 := gRm_le _ l0 b hbb
    by_cases e : gLw X = i
    · refine wO_pos (by rw [e]) (wO_some (Or.inl ?_))
      rw [← hM, ma, if_pos e.symm]
      rfl
    · refine wO_neg (fun q => e ((nI_eq (by omega) (by omega)).mp q)) ?_
      by_cases e2 : b = i
      · refine wO_pos (show nI b = nI i by rw [e2]) (wO_some (Or.inr ?_))
        rw [← hM, ma, if_neg (fun q => e q.symm), if_pos e2.symm]
      · refine wO_neg (show ¬ nI b = nI i from fun q => e2 ((nI_eq (by omega) (by omega)).mp q)) (wO_neg (show ¬ nI b < 0 from pu_nn (by omega)) ?_)
        rw [pu_rm X h32 _ h1]
        show wO (some (Sum.inl (nI (gRm X (gLw X)) &&& (((1 : Int32) <<< (nI b &&& 31)) ^^^ (-1 : Int32)), t))) _
        rw [pu_rm _ l0 b hbb]
        refine wO_some ⟨gRm (gRm X (gLw X)) b, by omega, gRm (gRm X (gLw X)) b, rfl, rfl, rfl, by omega, ?_, ?_⟩
        · rw [gRm_bit _ l0 b hbb i hi, gRm_bit X h32 _ h1 i hi, hXb, decide_eq_false (fun q => e q.symm), decide_eq_false (fun q => e2 q.symm)]; rfl
        · rw [← hM, ma, if_neg (fun q => e q.symm), if_neg (fun q => e2 q.symm)]
