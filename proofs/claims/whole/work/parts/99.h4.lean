/-! reading: characters, runs of them -/
def gIl (b : Nat) : Bool := decide (97 ≤ b) && decide (b ≤ 122)
def gId (b : Nat) : Bool := decide (48 ≤ b) && decide (b ≤ 57)
def gIb (b : Nat) : Bool := b == 9 || b == 10 || b == 13 || b == 32
def gBi (b : Bool) : Int32 := bif b then 1 else 0
theorem x_lett : ∀ b, b < 256 → xf_8_isLetter (gSb8 b) = some (gBi (gIl b)) := by decide +kernel
theorem x_digi : ∀ b, b < 256 → xf_8_isDigit (gSb8 b) = some (gBi (gId b)) := by decide +kernel
theorem x_blan : ∀ b, b < 256 → xf_8_isBlank (gSb8 b) = some (gBi (gIb b)) := by decide +kernel
theorem m_lett : ∀ b, b < 256 → mf_isLetter (nI b) = some (gBi (gIl b)) := by decide +kernel
theorem m_digi : ∀ b, b < 256 → mf_isDigit (nI b) = some (gBi (gId b)) := by decide +kernel
theorem gSb8_255 : ∀ b, b < 256 → gSb8 b &&& 255 = nI b := by decide +kernel
theorem gSb8_l : ∀ b, b < 256 → gIl b = true → gSb8 b = nI b ∧ (nI b).toInt64 - 97 + 1 = Int64.ofNat (b - 96) ∧ (nI b - 97 + 1).toInt64 = Int64.ofNat (b - 96) ∧ ¬ nI b = 0 := by decide +kernel
theorem gSb8_d : ∀ b, b < 256 → gId b = true → gSb8 b = nI b ∧ (nI b).toInt64 - 48 = Int64.ofNat (b - 48) ∧ nI b - 48 = nI (b - 48) ∧ gIl b = false := by decide +kernel
theorem gIl_n : ∀ b, b < 256 → gIl b = true → gId b = false ∧ gIb b = false := by decide +kernel
theorem gIl_b {b : Nat} (h : gIl b = true) : 97 ≤ b ∧ b ≤ 122 := by
  unfold gIl at h
  simpa using h
theorem gId_b {b : Nat} (h : gId b = true) : 48 ≤ b ∧ b ≤ 57 := by
  unfold gId at h
  simpa using h
/-- the bytes of the tape -/
def gBy (B : Nat → Nat) (z : Nat) (s : xs_S) : Prop := z ≤ 2000 ∧ s.1 17 = nI z ∧ ∀ i, i < z → B i < 256 ∧ s.2.1 2 i = gSb8 (B i)
def gBz (B : Nat → Nat) (z : Nat) (m : ms_S) : Prop := z ≤ 2000 ∧ m.1 4 = nI z ∧ ∀ i, i < z → B i < 256 ∧ m.2.1 3 i = gSb8 (B i)
theorem gBy.mv {B : Nat → Nat} {z : Nat} {s t : xs_S} (h : gBy B z s) (h1 : t.1 17 = s.1 17) (h2 : t.2.1 2 = s.2.1 2) : gBy B z t := by
  unfold gBy
  rw [h1, h2]
  exact h
theorem gBz.mv {B : Nat → Nat} {z : Nat} {s t : ms_S} (h : gBz B z s) (h1 : t.1 4 = s.1 4) (h2 : t.2.1 3 = s.2.1 3) : gBz B z t := by
  unfold gBz
  rw [h1, h2]
  exact h
theorem m_byte {B : Nat → Nat} {z i : Nat} {m : ms_S} (h : gBz B z m) (hi : i < z) : mf_byteAt m (nI i) = some (nI (B i), m) := by
  have hz := h.1
  refine wO_iff.mp ?_
  unfold mf_byteAt
  refine wO_neg (by rw [h.2.1]; exact nI_ge (by omega) (by omega)) (wO_agv (k := i) rfl (by omega) (by omega) (h.2.2 i hi).2 (wO_some ?_))
  rw [gSb8_255 _ (h.2.2 i hi).1]
theorem m_byte0 {B : Nat → Nat} {z i : Nat} {m : ms_S} (h : gBz B z m) (hi : z ≤ i) (hi2 : i ≤ 2001) : mf_byteAt m (nI i) = some (0, m) := by
  refine wO_iff.mp ?_
  unfold mf_byteAt
  exact wO_pos (by rw [h.2.1]; exact nI_le hi (by omega)) (wO_some rfl)
/-- a run of characters -/
def gSk (q : Nat → Bool) (z p e : Nat) : Prop := p ≤ e ∧ e ≤ z ∧ (∀ i, p ≤ i → i < e → q i = true) ∧ (e < z → q e = false)
theorem gSk_ex {q : Nat → Bool} {z : Nat} : ∀ n p, n + p = z → ∃ e, gSk q z p e := by
  intro n
  induction n with
  | zero => exact fun p hp => ⟨p, Nat.le_refl _, by omega, fun i h1 h2 => by omega, fun h => by omega⟩
  | succ n ih =>
    intro p hp
    cases hq : q p with
    | false => exact ⟨p, Nat.le_refl _, by omega, fun i h1 h2 => by omega, fun _ => hq⟩
    | true =>
      obtain ⟨e, e1, e2, e3, e4⟩ := ih (p + 1) (by omega)
      refine ⟨e, by omega, e2, fun i h1 h2 => ?_, e4⟩
      by_cases c : i = p
      · rw [c]; exact hq
      · exact e3 i (by omega) h2
noncomputable def xWl (T : Int32 → Option Int32) : (Int32 × xs_S) → Option ((Int32 × xs_S) ⊕ ((Int32 × xs_S))) := fun (w2, s) =>
(if (s.1 17) ≤ w2 then
some (.inr (w2, s))
else
((mo_ag 2000 (s.2.1 2) w2).bind fun x_2 =>
((T x_2).bind fun v_3 =>
(if v_3 = (0 : Int32) then
some (.inr (w2, s))
else
some (.inl ((w2 + (1 : Int32)), s))))))
theorem x_run {T : Int32 → Option Int32} {q : Nat → Bool} {B : Nat → Nat} {z e : Nat} {s : xs_S} (hT : ∀ b, b < 256 → T (gSb8 b) = some (gBi (q b))) (h : gBy B z s) : ∀ n p, n + p = e → gSk (fun i => q (B i)) z p e → mo_loop (xWl T) (nI p, s) = some (nI e, s) := by
  have hz := h.1
  intro n
  induction n with
  | zero =>
    intro p hp k
    have hp : p = e := by omega
    subst hp
    obtain ⟨k1, k2, k3, k4⟩ := k
    refine mo_loop_inr (wO_iff.mp ?_)
    unfold xWl
    by_cases c : p < z
    · refine wO_neg (by rw [h.2.1]; exact nI_ge (by omega) (by omega)) (wO_agv (k := p) rfl (by omega) (by omega) (h.2.2 p c).2 (wO_eq (hT _ (h.2.2 p c).1) (wO_pos ?_ (wO_some rfl))))
      have := k4 c
      rw [show q (B p) = false from this]
      rfl
    · exact wO_pos (by rw [h.2.1]; exact nI_le (by omega) (by omega)) (wO_some rfl)
  | succ n ih =>
    intro p hp k
    obtain ⟨k1, k2, k3, k4⟩ := k
    have c : p < z := by omega
    have st : xWl T (nI p, s) = some (.inl (nI (p + 1), s)) := by
      refine wO_iff.mp ?_
      unfold xWl
      refine wO_neg (by rw [h.2.1]; exact nI_ge (by omega) (by omega)) (wO_agv (k := p) rfl (by omega) (by omega) (h.2.2 p c).2 (wO_eq (hT _ (h.2.2 p c).1) (wO_neg ?_ (wO_some ?_))))
      · have := k3 p (Nat.le_refl _) (by omega)
        rw [show q (B p) = true from this]
        decide
      · rw [nI_1]
    rw [mo_loop_inl st]
    exact ih (p + 1) (by omega) ⟨by omega, k2, fun i h1 h2 => k3 i (by omega) h2, k4⟩
theorem x_blanks {B : Nat → Nat} {z p e : Nat} {s : xs_S} (h : gBy B z s) (k : gSk (fun i => gIb (B i)) z p e) : xf_8_afterBlanks s (nI p) = some (nI e, s) := by
  have r := x_run x_blan h (e - p) p (by have := k.1; omega) k
  have r : mo_loop xf_8_afterBlanks_l2 (nI p, s) = some (nI e, s) := r
  refine wO_iff.mp ?_
  unfold xf_8_afterBlanks
  exact wO_eq r (wO_some rfl)
/-- the end of a token -/
def gEnd (B : Nat → Nat) (z p e : Nat) : Prop := (gIl (B p) = true ∧ gSk (fun i => gIl (B i)) z (p + 1) e) ∨ (gId (B p) = true ∧ gSk (fun i => gId (B i)) z (p + 1) e) ∨ (gIl (B p) = false ∧ gId (B p) = false ∧ e = p + 1)
theorem gEnd_ex {B : Nat → Nat} {z p : Nat} (hp : p < z) : ∃ e, p < e ∧ e ≤ z ∧ gEnd B z p e := by
  cases h1 : gIl (B p) with
  | true =>
    obtain ⟨e, k⟩ := gSk_ex (q := fun i => gIl (B i)) (z := z) (z - (p + 1)) (p + 1) (by omega)
    exact ⟨e, by have := k.1; omega, k.2.1, Or.inl ⟨h1, k⟩⟩
  | false =>
    cases h2 : gId (B p) with
    | true =>
      obtain ⟨e, k⟩ := gSk_ex (q := fun i => gId (B i)) (z := z) (z - (p + 1)) (p + 1) (by omega)
      exact ⟨e, by have := k.1; omega, k.2.1, Or.inr (Or.inl ⟨h2, k⟩)⟩
    | false => exact ⟨p + 1, by omega, by omega, Or.inr (Or.inr ⟨h1, h2, rfl⟩)⟩
theorem x_endOf {B : Nat → Nat} {z p e : Nat} {s : xs_S} (h : gBy B z s) (hp : p < z) (k : gEnd B z p e) : xf_8_endOf s (nI p) = some (nI e, s) := by
  have hz := h.1
  obtain ⟨b1, b2⟩ := h.2.2 p hp
  refine wO_iff.mp ?_
  unfold xf_8_endOf
  refine wO_agv (k := p) rfl (by omega) (by omega) b2 (wO_eq (x_lett _ b1) ?_)
  have e1 : nI p + (1 : Int32) = nI (p + 1) := nI_1 p
  rcases k with ⟨k1, k2⟩ | ⟨k1, k2⟩ | ⟨k1, k2, k3⟩
  · rw [k1]
    have r : mo_loop xf_8_endOf_l10 (nI (p + 1), s) = some (nI e, s) := x_run x_lett h (e - (p + 1)) (p + 1) (by have := k2.1; omega) k2
    refine wO_neg (by decide) ?_
    rw [e1]
    exact wO_eq r (wO_some rfl)
  · rw [(gSb8_d _ b1 k1).2.2.2]
    have r : mo_loop xf_8_endOf_l28 (nI (p + 1), s) = some (nI e, s) := x_run x_digi h (e - (p + 1)) (p + 1) (by have := k2.1; omega) k2
    refine wO_pos rfl (wO_agv (k := p) rfl (by omega) (by omega) b2 (wO_eq (x_digi _ b1) ?_))
    rw [k1]
    refine wO_neg (by decide) ?_
    rw [e1]
    exact wO_eq r (wO_some rfl)
  · rw [k1]
    refine wO_pos rfl (wO_agv (k := p) rfl (by omega) (by omega) b2 (wO_eq (x_digi _ b1) ?_))
    rw [k2]
    refine wO_pos rfl (wO_some ?_)
    rw [e1, k3]
/-- the number of a name, of digits -/
def gVlt (B : Nat → Nat) (p : Nat) : Nat → Nat
  | 0 => 0
  | j + 1 => 27 * gVlt B p j + (B (p + j) - 96)
def gVdt (B : Nat → Nat) (p : Nat) : Nat → Nat
  | 0 => 0
  | j + 1 => 10 * gVdt B p j + (B (p + j) - 48)
theorem i64_l {v c : Nat} {y : Int64} (h : y - 97 + 1 = Int64.ofNat c) : Int64.ofNat v * 27 + y - 97 + 1 = Int64.ofNat (27 * v + c) := by
  rw [Int64.ofNat_add, Int64.ofNat_mul, ← h]
  have e : Int64.ofNat 27 = 27 := rfl
  rw [e]
  generalize Int64.ofNat v = x
  grind
theorem i64_d {v c : Nat} {y : Int64} (h : y - 48 = Int64.ofNat c) : Int64.ofNat v * 10 + y - 48 = Int64.ofNat (10 * v + c) := by
  rw [Int64.ofNat_add, Int64.ofNat_mul, ← h]
  have e : Int64.ofNat 10 = 10 := rfl
  rw [e]
  generalize Int64.ofNat v = x
  grind
theorem x_valueOf {B : Nat → Nat} {z p e : Nat} {s : xs_S} (h : gBy B z s) (hp : p < e) (he : e ≤ z) : ∃ v, xf_8_valueOf s (nI p) (nI e) = some (v, s) ∧ ((∀ i, p ≤ i → i < e → gIl (B i) = true) → v = Int64.ofNat (gVlt B p (min (e - p) 8))) ∧ ((∀ i, p ≤ i → i < e → gId (B i) = true) → v = Int64.ofNat (gVdt B p (min (e - p) 8))) := by
  have hz := h.1
  have key : ∀ n j w, n + j = min (e - p) 8 → ∃ v, mo_loop (xf_8_valueOf_l4 (nI p) (nI e)) (w, nI (p + j), s) = some (v, s) ∧ ((∀ i, p ≤ i → i < e → gIl (B i) = true) → w = Int64.ofNat (gVlt B p j) → v = Int64.ofNat (gVlt B p (min (e - p) 8))) ∧ ((∀ i, p ≤ i → i < e → gId (B i) = true) → w = Int64.ofNat (gVdt B p j) → v = Int64.ofNat (gVdt B p (min (e - p) 8))) := by
    intro n
    induction n with
    | zero =>
      intro j w hj
      have hj : j = min (e - p) 8 := by omega
      refine ⟨w, mo_loop_inr (wO_iff.mp ?_), fun _ q => by rw [q, hj], fun _ q => by rw [q, hj]⟩
      unfold xf_8_valueOf_l4
      by_cases c : e ≤ p + j
      · exact wO_pos (nI_le c (by omega)) (wO_some rfl)
      · refine wO_neg (nI_ge (by omega) (by omega)) ?_
        have e8 : nI (p + j) - nI p = nI 8 := by rw [pu_sub (by omega)]; congr 1; omega
        rw [e8]
        exact wO_pos (by decide) (wO_some rfl)
    | succ n ih =>
      intro j w hj
      have c1 : p + j < e := by omega
      obtain ⟨b1, b2⟩ := h.2.2 (p + j) (by omega)
      have ej : nI (p + j) - nI p = nI j := by rw [pu_sub (by omega)]; congr 1; omega
      obtain ⟨w2, st, st1, st2⟩ : ∃ w2, xf_8_valueOf_l4 (nI p) (nI e) (w, nI (p + j), s) = some (.inl (w2, nI (p + (j + 1)), s)) ∧ (gIl (B (p + j)) = true → w2 = w * 27 + (nI (B (p + j))).toInt64 - 97 + 1) ∧ (gId (B (p + j)) = true → w2 = w * 10 + (nI (B (p + j))).toInt64 - 48) := by
        have pre : ∀ w2, wO (if gBi (gId (B (p + j))) = 0 then xf_8_valueOf_j43 s (nI p) (nI e) (nI (p + j)) (w * 27 + (gSb8 (B (p + j))).toInt64 - 97 + 1) else xf_8_valueOf_j43 s (nI p) (nI e) (nI (p + j)) (w * 10 + (gSb8 (B (p + j))).toInt64 - 48)) (fun r => r = .inl (w2, nI (p + (j + 1)), s)) → xf_8_valueOf_l4 (nI p) (nI e) (w, nI (p + j), s) = some (.inl (w2, nI (p + (j + 1)), s)) := by
          intro w2 hw
          refine wO_iff.mp ?_
          unfold xf_8_valueOf_l4
          refine wO_neg (nI_ge (by omega) (by omega)) ?_
          rw [ej]
          refine wO_neg (show ¬ nI 8 ≤ nI j from nI_ge (by omega) (by omega)) (wO_agv (k := p + j) rfl (by omega) (by omega) b2 (wO_eq (x_digi _ b1) ?_))
          by_cases c0 : gBi (gId (B (p + j))) = 0
          · rw [if_pos c0] at hw
            exact wO_pos c0 (wO_agv (k := p + j) rfl (by omega) (by omega) b2 hw)
          · rw [if_neg c0] at hw
            exact wO_neg c0 (wO_agv (k := p + j) rfl (by omega) (by omega) b2 hw)
        have j43 : ∀ k0, wO (xf_8_valueOf_j43 s (nI p) (nI e) (nI (p + j)) k0) (fun r => r = .inl (k0, nI (p + (j + 1)), s)) := by
          intro k0
          unfold xf_8_valueOf_j43
          refine wO_some ?_
          rw [show nI (p + j) + (1 : Int32) = nI (p + (j + 1)) from nI_1 (p + j)]
        cases hd : gId (B (p + j)) with
        | false =>
          refine ⟨_, pre _ (by rw [hd]; exact wO_pos rfl (j43 _)), fun hl => ?_, fun q => (by cases q)⟩
          rw [(gSb8_l _ b1 hl).1]
        | true =>
          refine ⟨_, pre _ (by rw [hd]; exact wO_neg (by decide) (j43 _)), fun hl => ?_, fun q => ?_⟩
          · rw [(gSb8_d _ b1 hd).2.2.2] at hl
            cases hl
          · rw [(gSb8_d _ b1 hd).1]
      rw [mo_loop_inl st]
      obtain ⟨v, v1, v2, v3⟩ := ih (j + 1) w2 (by omega)
      refine ⟨v, v1, fun hl hw => v2 hl ?_, fun hd hw => v3 hd ?_⟩
      · have hb := hl (p + j) (by omega) c1
        rw [st1 hb, hw, i64_l (gSb8_l _ b1 hb).2.1]
        rfl
      · have hb := hd (p + j) (by omega) c1
        rw [st2 hb, hw, i64_d (gSb8_d _ b1 hb).2.1]
        rfl
  obtain ⟨v, v1, v2, v3⟩ := key (min (e - p) 8) 0 0 (by omega)
  refine ⟨v, wO_iff.mp ?_, fun q => v2 q rfl, fun q => v3 q rfl⟩
  unfold xf_8_valueOf
  exact wO_eq v1 (wO_some rfl)
/-- the reference's runs -/
theorem m_letters {B : Nat → Nat} {z p e : Nat} {m : ms_S} (h : gBz B z m) (hp : p < e) (hl : gSk (fun i => gIl (B i)) z p e) : mo_loop (mf_cut_l46 (nI p)) ((0 : Int32), (0 : Int64), m) = some (nI (e - p), Int64.ofNat (gVlt B p (min (e - p) 8)), m) := by
  have hz := h.1
  obtain ⟨l1, l2, l3, l4⟩ := hl
  have key : ∀ n j, n + (p + j) = e → mo_loop (mf_cut_l46 (nI p)) (nI j, Int64.ofNat (gVlt B p (min j 8)), m) = some (nI (e - p), Int64.ofNat (gVlt B p (min (e - p) 8)), m) := by
    intro n
    induction n with
    | zero =>
      intro j hj
      have hj : j = e - p := by omega
      refine mo_loop_inr (wO_iff.mp ?_)
      unfold mf_cut_l46
      dsimp only
      rw [nI_add]
      have pj : p + j = e := by omega
      rw [pj]
      by_cases c : e < z
      · refine wO_eq (m_byte h c) (wO_eq (m_lett _ (h.2.2 e c).1) (wO_pos ?_ (wO_some ?_)))
        · rw [show gIl (B e) = false from l4 c]; rfl
        · rw [hj]
      · refine wO_eq (m_byte0 h (by omega) (by omega)) (wO_eq (show mf_isLetter 0 = some 0 from m_lett 0 (by omega)) (wO_pos rfl (wO_some ?_)))
        rw [hj]
    | succ n ih =>
      intro j hj
      have c : p + j < z := by omega
      have hb := l3 (p + j) (by omega) (by omega)
      obtain ⟨b1, b2⟩ := h.2.2 (p + j) c
      have st : mf_cut_l46 (nI p) (nI j, Int64.ofNat (gVlt B p (min j 8)), m) = some (.inl (nI (j + 1), Int64.ofNat (gVlt B p (min (j + 1) 8)), m)) := by
        refine wO_iff.mp ?_
        unfold mf_cut_l46
        dsimp only
        rw [nI_add]
        refine wO_eq (m_byte h c) (wO_eq (m_lett _ b1) (wO_neg (by rw [show gIl (B (p + j)) = true from hb]; decide) ?_))
        by_cases c8 : 8 ≤ j
        · refine wO_pos (show nI 8 ≤ nI j from nI_le c8 (by omega)) ?_
          unfold mf_cut_j64
          refine wO_some ?_
          rw [nI_1, show min (j + 1) 8 = min j 8 by omega]
        · refine wO_neg (show ¬ nI 8 ≤ nI j from nI_ge (by omega) (by omega)) (wO_eq (m_byte h c) (wO_eq (x := Int64.ofNat (gVlt B p (j + 1))) (wO_iff.mp ?_) ?_))
          · unfold mf_appends
            refine wO_neg (gSb8_l _ b1 hb).2.2.2 (wO_some ?_)
            rw [(gSb8_l _ b1 hb).2.2.1, show min j 8 = j by omega]
            show (27 : Int64) * Int64.ofNat (gVlt B p j) + _ = Int64.ofNat (27 * gVlt B p j + (B (p + j) - 96))
            rw [Int64.ofNat_add, Int64.ofNat_mul]
            rfl
          · unfold mf_cut_j64
            refine wO_some ?_
            rw [nI_1, show min (j + 1) 8 = j + 1 by omega]
      rw [mo_loop_inl st]
      exact ih (j + 1) (by omega)
  exact key (e - p) 0 (by omega)
theorem m_digits {B : Nat → Nat} {z p e : Nat} {m : ms_S} (h : gBz B z m) (hp : p < e) (hl : gSk (fun i => gId (B i)) z p e) : mo_loop (mf_cut_l112 (nI p)) ((0 : Int32), (0 : Int32), m) = some (nI (e - p), nI (gVdt B p (min (e - p) 4)), m) := by
  have hz := h.1
  obtain ⟨l1, l2, l3, l4⟩ := hl
  have key : ∀ n j, n + (p + j) = e → mo_loop (mf_cut_l112 (nI p)) (nI j, nI (gVdt B p (min j 4)), m) = some (nI (e - p), nI (gVdt B p (min (e - p) 4)), m) := by
    intro n
    induction n with
    | zero =>
      intro j hj
      have hj : j = e - p := by omega
      refine mo_loop_inr (wO_iff.mp ?_)
      unfold mf_cut_l112
      dsimp only
      rw [nI_add]
      have pj : p + j = e := by omega
      rw [pj]
      by_cases c : e < z
      · refine wO_eq (m_byte h c) (wO_eq (m_digi _ (h.2.2 e c).1) (wO_pos ?_ (wO_some ?_)))
        · rw [show gId (B e) = false from l4 c]; rfl
        · rw [hj]
      · refine wO_eq (m_byte0 h (by omega) (by omega)) (wO_eq (show mf_isDigit 0 = some 0 from m_digi 0 (by omega)) (wO_pos rfl (wO_some ?_)))
        rw [hj]
    | succ n ih =>
      intro j hj
      have c : p + j < z := by omega
      have hb := l3 (p + j) (by omega) (by omega)
      obtain ⟨b1, b2⟩ := h.2.2 (p + j) c
      have st : mf_cut_l112 (nI p) (nI j, nI (gVdt B p (min j 4)), m) = some (.inl (nI (j + 1), nI (gVdt B p (min (j + 1) 4)), m)) := by
        refine wO_iff.mp ?_
        unfold mf_cut_l112
        dsimp only
        rw [nI_add]
        refine wO_eq (m_byte h c) (wO_eq (m_digi _ b1) (wO_neg (by rw [show gId (B (p + j)) = true from hb]; decide) ?_))
        by_cases c8 : 4 ≤ j
        · refine wO_pos (show nI 4 ≤ nI j from nI_le c8 (by omega)) ?_
          unfold mf_cut_j134
          refine wO_some ?_
          rw [nI_1, show min (j + 1) 4 = min j 4 by omega]
        · refine wO_neg (show ¬ nI 4 ≤ nI j from nI_ge (by omega) (by omega)) (wO_eq (m_byte h c) ?_)
          unfold mf_cut_j134
          refine wO_some ?_
          have hx : (10 : Int32) * nI (gVdt B p j) + nI (B (p + j)) - 48 = nI (gVdt B p (j + 1)) := by
            show nI 10 * nI (gVdt B p j) + nI (B (p + j)) - nI 48 = nI (10 * gVdt B p j + (B (p + j) - 48))
            have := gId_b hb
            rw [pu_mul, nI_add, pu_sub (by omega)]
            congr 1
            omega
          rw [nI_1, show min (j + 1) 4 = j + 1 by omega, show min j 4 = j by omega]
          dsimp only
          rw [hx]
      rw [mo_loop_inl st]
      exact ih (j + 1) (by omega)
  exact key (e - p) 0 (by omega)
