/-! minutes: one minute, many -/
theorem wO_step {S X : Type} {step : S → Option (S ⊕ X)} {s : S} {P : X → Prop} (h : wO (step s) (mo_sum (fun s2 => wO (mo_loop step s2) P) P)) : wO (mo_loop step s) P := by
  obtain ⟨r, hr, hQ⟩ := h
  cases r with
  | inr x => exact ⟨x, mo_loop_iff.mpr ⟨1, by simp [mo_it, hr]⟩, hQ⟩
  | inl s2 =>
    obtain ⟨x, hx, hP⟩ := hQ
    obtain ⟨k, hk⟩ := mo_loop_iff.mp hx
    exact ⟨x, mo_loop_iff.mpr ⟨k + 1, by simp [mo_it, hr, hk]⟩, hP⟩
/-- which word it is, with k of the set ahead of it -/
def gPk (B k w : Nat) : Prop := w < 6 ∧ B.testBit w = true ∧ gCt (fun i => B.testBit i) w = k
def gPf (B k : Nat) : Nat := ((List.range 6).find? (fun w => B.testBit w && decide (gCt (fun i => B.testBit i) w = k))).getD 6
theorem gPf_all : ∀ B, B < 64 → ∀ w, w < 6 → B.testBit w = true → gPf B (gCt (fun i => B.testBit i) w) = w := by decide +kernel
theorem gPf_of {B k w : Nat} (hB : B < 64) (h : gPk B k w) : gPf B k = w := by
  obtain ⟨h1, h2, h3⟩ := h
  subst h3
  exact gPf_all B hB w h1 h2
theorem gPf_0 (k : Nat) : gPf 0 k = 6 := by
  unfold gPf
  simp only [Nat.zero_testBit, Bool.false_and]
  rfl
theorem gCt_s {p : Nat → Bool} {n : Nat} : gCt p (n + 1) = gCt p n + (bif p n then 1 else 0) := rfl
/-- the lot -/
def gSti (h v : Int32) : Int32 := ((((h ^^^ v) * (1103515245 : Int32)) + (12345 : Int32)) ^^^ (((((h ^^^ v) * (1103515245 : Int32)) + (12345 : Int32))).toUInt32 >>> (((15 : Int32)).toUInt32 &&& Int32.toUInt32 31)).toInt32)
def gLh (sd wh : Int32) : Int32 := gSti (gSti sd 199) wh
def gLs (sd wh : Int32) : Int32 := ((gLh sd wh).toUInt32 >>> (((1 : Int32)).toUInt32 &&& Int32.toUInt32 31)).toInt32
theorem gLs_nn (sd wh : Int32) : ¬ gLs sd wh < 0 := by
  unfold gLs
  generalize gLh sd wh = x
  have h1 : (x.toUInt32 >>> (((1 : Int32)).toUInt32 &&& Int32.toUInt32 31)).toNat < 2 ^ 31 := by
    have e : (((1 : Int32)).toUInt32 &&& Int32.toUInt32 31) = 1 := by decide
    rw [e, UInt32.toNat_shiftRight]
    have := x.toUInt32.toNat_lt
    simp only [Nat.shiftRight_eq_div_pow]
    have e1 : (1 : UInt32).toNat % 32 = 1 := by decide
    rw [e1]
    omega
  generalize hu : x.toUInt32 >>> (((1 : Int32)).toUInt32 &&& Int32.toUInt32 31) = u at h1
  have h2 : u.toInt32 = nI u.toNat := by
    apply Int32.toBitVec.inj
    apply BitVec.eq_of_toNat_eq
    show u.toBitVec.toNat = (BitVec.ofNat 32 u.toNat).toNat
    rw [BitVec.toNat_ofNat]
    have := u.toNat_lt
    rw [Nat.mod_eq_of_lt (by omega)]
    rfl
  rw [h2]
  exact pu_nn h1
noncomputable def gLk (sd wh : Int32) (n : Nat) : Nat := (gLs sd wh).toNatClampNeg % n
theorem gLs_eq (sd wh : Int32) : ∃ j : Nat, j < 2 ^ 31 ∧ gLs sd wh = nI j ∧ ∀ n, gLk sd wh n = j % n := by
  obtain ⟨j, hj, e⟩ := nI_of (gLs_nn sd wh)
  refine ⟨j, hj, e, fun n => ?_⟩
  unfold gLk
  rw [e, nI_clamp hj]
theorem gLs_rem (sd wh : Int32) {n : Nat} (hn : n < 2 ^ 31) : gLs sd wh - gLs sd wh / nI n * nI n = nI (gLk sd wh n) := by
  obtain ⟨j, hj, e, hk⟩ := gLs_eq sd wh
  rw [hk, e]
  exact pu_modn hj hn
/-- the turn of a minute, and the standing behind it -/
noncomputable def gMo (B : Nat) (sd wh : Int32) : Nat := gPf B (gLk sd wh (gCt (fun i => B.testBit i) 6))
noncomputable def gM1 (g : gT) (po : Option (Nat × Nat)) (sd wh : Int32) (st : Nat) : Nat := (gNx g po 0 st (gMo (gBs (gCan g po 0 (st / 14) (st / 7 % 2) (st % 7)) g.1.2) sd wh)).getD st
noncomputable def gMg (g : gT) (po : Option (Nat × Nat)) (sd mi : Int32) (st : Nat) : Nat → Nat
  | 0 => st
  | i + 1 => gM1 g po sd (mi + nI i) (gMg g po sd mi st i)
theorem gM1_ok {g : gT} {po : Option (Nat × Nat)} {sd wh : Int32} {st : Nat} (hn : g.1.2 ≤ 6) (hs : gSt g.1.2 st) : gSt g.1.2 (gM1 g po sd wh st) := by
  unfold gM1
  cases hu : gNx g po 0 st (gMo (gBs (gCan g po 0 (st / 14) (st / 7 % 2) (st % 7)) g.1.2) sd wh) with
  | none => exact hs
  | some u => exact gNx_ok hn hs.1 hu
theorem gMg_ok {g : gT} {po : Option (Nat × Nat)} {sd mi : Int32} {st : Nat} (hn : g.1.2 ≤ 6) (hs : gSt g.1.2 st) : ∀ i, gSt g.1.2 (gMg g po sd mi st i)
  | 0 => hs
  | i + 1 => gM1_ok hn (gMg_ok hn hs i)
/-- the k-th of a set is there -/
theorem gPk_ex {B k : Nat} : ∀ {n : Nat}, n ≤ 6 → k < gCt (fun i => B.testBit i) n → ∃ w, gPk B k w
  | 0, _, h => absurd h (Nat.not_lt_zero _)
  | n + 1, hn, h => by
    rw [gCt_s] at h
    by_cases h2 : k < gCt (fun i => B.testBit i) n
    · exact gPk_ex (by omega) h2
    · cases hb : B.testBit n with
      | false => rw [hb] at h; exact absurd h (by simpa using h2)
      | true =>
        rw [hb] at h
        exact ⟨n, by omega, hb, by simp at h; omega⟩
theorem gMo_pk {B : Nat} {sd wh : Int32} (hB : B < 64) (h0 : ¬ B = 0) : gPk B (gLk sd wh (gCt (fun i => B.testBit i) 6)) (gMo B sd wh) := by
  have hp : ∀ B, B < 64 → ¬ B = 0 → 0 < gCt (fun i => B.testBit i) 6 := by decide +kernel
  obtain ⟨w, hw⟩ := gPk_ex (B := B) (k := gLk sd wh (gCt (fun i => B.testBit i) 6)) (n := 6) (by omega) (Nat.mod_lt _ (hp B hB h0))
  have : gMo B sd wh = w := gPf_of hB hw
  rw [this]
  exact hw
/-- whoever is there and asleep has a turn -/
theorem gM1_none {g : gT} {po : Option (Nat × Nat)} {sd wh : Int32} {st : Nat} (hn : g.1.2 ≤ 6) (h : gNx g po 0 st (gMo (gBs (gCan g po 0 (st / 14) (st / 7 % 2) (st % 7)) g.1.2) sd wh) = none) : po = none ∨ (decide (0 < st / 14) && decide (st / 14 < 20)) = false := by
  cases po with
  | none => exact Or.inl rfl
  | some p =>
    right
    cases hc : (decide (0 < st / 14) && decide (st / 14 < 20)) with
    | false => rfl
    | true =>
      exfalso
      by_cases hz : gBs (gCan g (some p) 0 (st / 14) (st / 7 % 2) (st % 7)) g.1.2 = 0
      · have e : gMo (gBs (gCan g (some p) 0 (st / 14) (st / 7 % 2) (st % 7)) g.1.2) sd wh = 6 := by
          rw [hz]
          exact gPf_0 _
        rw [e] at h
        unfold gNx at h
        simp only at h
        rw [if_neg (by omega), if_pos trivial, ← Bool.and_assoc, hc, decide_eq_true hz] at h
        cases h
      · obtain ⟨w1, w2, w3⟩ := gMo_pk (sd := sd) (wh := wh) (gBs_lt64 (f := gCan g (some p) 0 (st / 14) (st / 7 % 2) (st % 7)) hn) hz
        rw [gBs_bit, Bool.and_eq_true, decide_eq_true_eq] at w2
        have := gNx_can (po := some p) (wo := 0) (st := st) hn w2.1
        rw [h, w2.2] at this
        cases this
theorem gNx_stop {g : gT} {po : Option (Nat × Nat)} {st w : Nat} (h : po = none ∨ (decide (0 < st / 14) && decide (st / 14 < 20)) = false) : gNx g po 0 st w = none := by
  cases hu : gNx g po 0 st w with
  | none => rfl
  | some u =>
    have := gNx_cm hu
    unfold gCm at this
    rcases h with rfl | h
    · cases this.2
    · rw [h] at this
      cases this.1
theorem gMg_stop {g : gT} {po : Option (Nat × Nat)} {sd mi : Int32} {st i : Nat} (h : po = none ∨ (decide (0 < gMg g po sd mi st i / 14) && decide (gMg g po sd mi st i / 14 < 20)) = false) : ∀ k, gMg g po sd mi st (i + k) = gMg g po sd mi st i
  | 0 => rfl
  | k + 1 => by
    have ih := gMg_stop h k
    show gM1 g po sd (mi + nI (i + k)) (gMg g po sd mi st (i + k)) = _
    rw [ih]
    unfold gM1
    rw [gNx_stop h]
    rfl
theorem x_bitCount : ∀ B, B < 64 → xf_6_bitCount_0f7a4 (nI B) = some (nI (gCt (fun i => B.testBit i) 6)) := by decide +kernel
theorem m_bits {B : Nat} (hB : B < 64) : mf_bits (nI B) = some (nI (gCt (fun i => B.testBit i) 6)) := by
  refine wO_iff.mp ?_
  unfold mf_bits
  refine wO_bd (Q := fun v => v = nI (gCt (fun i => B.testBit i) 6)) ?_ (fun v hv => wO_some hv)
  refine wO_count (fun (i : Nat) (p : Int32 × Int32) => p.1 = nI (gCt (fun i => B.testBit i) i) ∧ p.2 = nI i) 6 ?_ ?_ _ ⟨rfl, rfl⟩
  · rintro i ⟨w1, w2⟩ hi ⟨e1, e2⟩
    have e1 : w1 = nI (gCt (fun i => B.testBit i) i) := e1
    have e2 : w2 = nI i := e2
    subst e1 e2
    unfold mf_bits_l4
    refine wO_neg (show ¬ (6 : Int32) ≤ nI i from nI_ge (b := 6) hi (by omega)) (wO_some ⟨?_, nI_1 i⟩)
    show nI (gCt (fun i => B.testBit i) i) + _ = _
    rw [pu_bit B hB i (by omega), gCt_s]
    cases hb : B.testBit i with
    | false => exact Int32.add_zero _
    | true => exact nI_1 _
  · rintro ⟨w1, w2⟩ ⟨e1, e2⟩
    have e1 : w1 = nI (gCt (fun i => B.testBit i) 6) := e1
    have e2 : w2 = nI 6 := e2
    subst e1 e2
    unfold mf_bits_l4
    exact wO_pos (Int32.le_refl _) (wO_some rfl)
theorem x_lot {n : Nat} {sd wh : Int32} (hn : n ≤ 6) (h0 : 0 < n) : xf_11_lot (nI n) sd wh = some (nI (gLk sd wh n)) := by
  unfold xf_11_lot
  rw [if_pos (show (1 : Int32) ≤ nI n from nI_le (a := 1) (by omega) (by omega))]
  show (if nI n = 0 then none else some (gLs sd wh - gLs sd wh / nI n * nI n)) = _
  rw [if_neg (nI_ne0 h0 (by omega)), gLs_rem sd wh (by omega)]
theorem m_lot {n : Nat} {s : ms_S} {wh : Int32} (hn : n ≤ 6) (h0 : 0 < n) : mf_lotOf s wh (nI n) = some (nI (gLk (s.1 49) wh n), s) := by
  unfold mf_lotOf
  show (if nI n = 0 then none else some (gLs (s.1 49) wh - gLs (s.1 49) wh / nI n * nI n, s)) = _
  rw [if_neg (nI_ne0 h0 (by omega)), gLs_rem (s.1 49) wh (by omega)]
theorem x_byLot {B : Nat} {sd wh : Int32} (hB : B < 64) : xf_1_moveByLot (nI B) sd wh = some (nI (gMo B sd wh)) := by
  refine wO_iff.mp ?_
  unfold xf_1_moveByLot
  refine wO_eq (x_bitCount B hB) ?_
  by_cases h0 : B = 0
  · subst h0
    refine wO_eq (x := 0) (by unfold xf_11_lot; exact if_neg (by decide)) ?_
    refine wO_bd (Q := fun v => v = .inr ()) ?_ ?_
    · refine wO_count (fun (i : Nat) (p : Int32 × Int32) => p.1 = 0 ∧ p.2 = nI i) 6 ?_ ?_ _ ⟨rfl, rfl⟩
      · rintro i ⟨w1, w2⟩ hi ⟨e1, e2⟩
        have e1 : w1 = 0 := e1
        have e2 : w2 = nI i := e2
        subst e1 e2
        unfold xf_1_moveByLot_l8
        refine wO_neg (show ¬ (6 : Int32) ≤ nI i from nI_ge (b := 6) hi (by omega)) ?_
        rw [pu_bit 0 (by omega) i (by omega), Nat.zero_testBit]
        exact wO_neg (show ¬ (0 : Int32) = 1 by decide) (wO_some ⟨rfl, nI_1 i⟩)
      · rintro ⟨w1, w2⟩ ⟨e1, e2⟩
        have e2 : w2 = nI 6 := e2
        subst e2
        unfold xf_1_moveByLot_l8
        exact wO_pos (Int32.le_refl _) (wO_some rfl)
    · rintro x rfl
      exact wO_some (congrArg nI (gPf_0 _)).symm
  · have hp : ∀ B, B < 64 → ¬ B = 0 → 0 < gCt (fun i => B.testBit i) 6 := by decide +kernel
    refine wO_eq (x_lot (gCt_le _ 6) (hp B hB h0)) ?_
    have hk := gMo_pk (sd := sd) (wh := wh) hB h0
    have hkl : gLk sd wh (gCt (fun i => B.testBit i) 6) < gCt (fun i => B.testBit i) 6 := Nat.mod_lt _ (hp B hB h0)
    have h6 := gCt_le (fun i => B.testBit i) 6
    generalize gLk sd wh (gCt (fun i => B.testBit i) 6) = k at hk hkl
    refine wO_bd (Q := fun v => v = .inl (nI (gMo B sd wh))) ?_ ?_
    · refine wO_count (fun (i : Nat) (p : Int32 × Int32) => gCt (fun i => B.testBit i) i ≤ k ∧ p.1 = nI (k - gCt (fun i => B.testBit i) i) ∧ p.2 = nI i) 6 ?_ ?_ _ ⟨Nat.zero_le _, congrArg nI (Nat.sub_zero k).symm, rfl⟩
      · rintro i ⟨w1, w2⟩ hi ⟨hc, e1, e2⟩
        have e1 : w1 = nI (k - gCt (fun i => B.testBit i) i) := e1
        have e2 : w2 = nI i := e2
        subst e1 e2
        unfold xf_1_moveByLot_l8
        refine wO_neg (show ¬ (6 : Int32) ≤ nI i from nI_ge (b := 6) hi (by omega)) ?_
        rw [pu_bit B hB i (by omega)]
        cases hb : B.testBit i with
        | false =>
          have cc : gCt (fun i => B.testBit i) (i + 1) = gCt (fun i => B.testBit i) i := by rw [gCt_s, hb]; rfl
          rw [cc]
          exact wO_neg (show ¬ (0 : Int32) = 1 by decide) (wO_some ⟨hc, rfl, nI_1 i⟩)
        | true =>
          have cc : gCt (fun i => B.testBit i) (i + 1) = gCt (fun i => B.testBit i) i + 1 := by rw [gCt_s, hb]; rfl
          rw [cc]
          refine wO_pos rfl (wO_ite (fun c => ?_) (fun c => ?_))
          · have hz : k - gCt (fun i => B.testBit i) i = 0 := (nI_eq (b := 0) (by omega) (by omega)).mp c
            have : gPk B k i := ⟨hi, hb, by omega⟩
            refine wO_some ?_
            show Sum.inl (nI i) = Sum.inl (nI (gMo B sd wh))
            rw [← gPf_of hB this, ← gPf_of hB hk]
          · have hz : ¬ k - gCt (fun i => B.testBit i) i = 0 := fun e => c (by rw [e]; rfl)
            refine wO_some ⟨by omega, ?_, nI_1 i⟩
            · show nI (k - gCt (fun i => B.testBit i) i) + (-1 : Int32) = nI (k - (gCt (fun i => B.testBit i) i + 1))
              have e : k - gCt (fun i => B.testBit i) i = k - (gCt (fun i => B.testBit i) i + 1) + 1 := by omega
              rw [e, ← nI_1, Int32.add_assoc, show (1 : Int32) + (-1) = 0 by decide, Int32.add_zero]
      · rintro ⟨w1, w2⟩ ⟨hc, -⟩
        exact absurd hc (by omega)
    · rintro x rfl
      exact wO_some rfl
theorem x_afterMin {g : gT} {po : Option (Nat × Nat)} {st0 st n : Nat} {s : xs_S} {sd mi : Int32} (hx : XC g po st0 s) (hs : gSt g.1.2 st) (hn : n ≤ 200) : wO (xf_1_afterMinutes s (nI (gph st)) mi sd (nI n)) (fun p => p.1 = nI (gph (gMg g po sd mi st n)) ∧ xsF xQi xQa s p.2 ∧ XC g po st0 p.2) := by
  have hnw := hx.1.1.2.1
  have hok := gMg_ok (po := po) (sd := sd) (mi := mi) hnw hs
  unfold xf_1_afterMinutes
  refine wO_bd (Q := fun r => ∃ s2, (r = .inl (nI (gph (gMg g po sd mi st n)), s2) ∨ r = .inr (nI (gph (gMg g po sd mi st n)), s2)) ∧ xsF xQi xQa s s2 ∧ XC g po st0 s2) ?_ ?_
  · refine wO_count (fun (i : Nat) (p : Int32 × Int32 × xs_S) => p.1 = nI (gph (gMg g po sd mi st i)) ∧ p.2.1 = nI i ∧ xsF xQi xQa s p.2.2 ∧ XC g po st0 p.2.2) n ?_ ?_ _ ⟨rfl, rfl, xsF.rf, hx⟩
    · rintro i ⟨w5, w6, u⟩ hi ⟨e1, e2, hF, hC⟩
      have e1 : w5 = nI (gph (gMg g po sd mi st i)) := e1
      have e2 : w6 = nI i := e2
      subst e1 e2
      have hF : xsF xQi xQa s u := hF
      have hC : XC g po st0 u := hC
      have hsi := hok i
      have hlt := gph_lt hsi.1
      unfold xf_1_afterMinutes_l4
      refine wO_neg (nI_ge hi (by omega)) (wO_bd (x_opens hC hsi) ?_)
      rintro u2 ⟨f2, c2, o2⟩
      have hBl : gBs (gCan g po 0 (gMg g po sd mi st i / 14) (gMg g po sd mi st i / 7 % 2) (gMg g po sd mi st i % 7)) g.1.2 < 64 := gBs_lt64 hnw
      refine wO_agv (k := gph (gMg g po sd mi st i)) rfl (by omega) (by omega) o2.1 ?_
      refine wO_eq (x_byLot hBl) ?_
      have hmo : gMo (gBs (gCan g po 0 (gMg g po sd mi st i / 14) (gMg g po sd mi st i / 7 % 2) (gMg g po sd mi st i % 7)) g.1.2) sd (mi + nI i) < 7 := by
        by_cases hz : gBs (gCan g po 0 (gMg g po sd mi st i / 14) (gMg g po sd mi st i / 7 % 2) (gMg g po sd mi st i % 7)) g.1.2 = 0
        · rw [hz]
          have : gMo 0 sd (mi + nI i) = 6 := gPf_0 _
          omega
        · have := (gMo_pk (sd := sd) (wh := mi + nI i) hBl hz).1
          omega
      refine wO_eq (x_after (wo := 0) hnw hsi o2 hmo (by omega)) ?_
      cases hu : gNx g po 0 (gMg g po sd mi st i) (gMo (gBs (gCan g po 0 (gMg g po sd mi st i / 14) (gMg g po sd mi st i / 7 % 2) (gMg g po sd mi st i % 7)) g.1.2) sd (mi + nI i)) with
      | none =>
        refine wO_pos rfl (wO_some ⟨u2, Or.inl ?_, hF.tr f2, c2⟩)
        have := gMg_stop (gM1_none hnw hu) (n - i)
        rw [show i + (n - i) = n by omega] at this
        rw [this]
      | some v =>
        have hv := gNx_ok hnw hsi.1 hu
        refine wO_neg (show ¬ nI (gph v) = (-1 : Int32) from pu_n1 (by have := gph_lt hv.1; omega)) (wO_some ⟨?_, nI_1 i, hF.tr f2, c2⟩)
        show nI (gph v) = nI (gph (gM1 g po sd (mi + nI i) (gMg g po sd mi st i)))
        unfold gM1
        rw [hu]
        rfl
    · rintro ⟨w5, w6, u⟩ ⟨e1, e2, hF, hC⟩
      have e1 : w5 = nI (gph (gMg g po sd mi st n)) := e1
      have e2 : w6 = nI n := e2
      subst e1 e2
      unfold xf_1_afterMinutes_l4
      exact wO_pos (Int32.le_refl _) (wO_some ⟨u, Or.inr rfl, hF, hC⟩)
  · rintro r ⟨s2, rfl | rfl, h2, h3⟩
    · exact wO_some ⟨rfl, h2, h3⟩
    · exact wO_some ⟨rfl, h2, h3⟩
/-- the reference: one minute -/
theorem m_minute {g : gT} {lv : Nat} {m : ms_S} {po : Option (Nat × Nat)} {st : Nat} (hst : st < 294) (h : MW g lv m po 0 (st / 14) (st / 7 % 2) (st % 7)) : wO (mf_minuteGoes m) (fun t => msF gKr m t ∧ t.2.1 48 = upd (gRw (m.2.1 48) (gM1 g po (m.1 49) (m.2.1 48 5) st / 14) (gM1 g po (m.1 49) (m.2.1 48 5) st / 7 % 2) (gM1 g po (m.1 49) (m.2.1 48 5) st % 7)) 5 (m.2.1 48 5 + 1)) := by
  have hns := h.1.2.2.1
  have hnw := h.1.2.2.2.1
  have stay : (po = none ∨ (decide (0 < st / 14) && decide (st / 14 < 20)) = false) → m.2.1 48 = gRw (m.2.1 48) (gM1 g po (m.1 49) (m.2.1 48 5) st / 14) (gM1 g po (m.1 49) (m.2.1 48 5) st / 7 % 2) (gM1 g po (m.1 49) (m.2.1 48 5) st % 7) := fun hh => by
    have : gM1 g po (m.1 49) (m.2.1 48 5) st = st := by
      unfold gM1
      rw [gNx_stop hh]
      rfl
    rw [this]
    funext j
    unfold gRw
    by_cases h0 : j = 0
    · rw [if_pos h0, h0]; exact h.2.2.2.2.1
    · rw [if_neg h0]
      by_cases h1 : j = 1
      · rw [if_pos h1, h1]; exact h.2.2.2.2.2.1
      · rw [if_neg h1]
        by_cases h2 : j = 2
        · rw [if_pos h2, h2]; exact h.2.2.2.2.2.2.1
        · rw [if_neg h2]
  unfold mf_minuteGoes
  refine wO_eq (m_areThere h.2.1 hns) ?_
  cases po with
  | none =>
    refine wO_pos rfl (wO_some ⟨msF.sA (by decide), ?_⟩)
    show upd (m.2.1 48) 5 _ = _
    rw [← stay (Or.inl rfl)]
  | some p =>
    refine wO_neg pu_10 (wO_eq (m_isAsleep h.2.2.2.2.1 h.2.2.2.2.2.2.2.1) ?_)
    cases hc : (decide (0 < st / 14) && decide (st / 14 < 20)) with
    | false =>
      refine wO_pos rfl (wO_some ⟨msF.sA (by decide), ?_⟩)
      show upd (m.2.1 48) 5 _ = _
      rw [← stay (Or.inr hc)]
    | true =>
      refine wO_neg pu_10 (wO_bd (m_canBits h) ?_)
      rintro ⟨v, m2⟩ ⟨e1, f1⟩
      have e1 : v = nI (gBs (gCan g (some p) 0 (st / 14) (st / 7 % 2) (st % 7)) g.1.2) := e1
      have f1 : msF gKs m m2 := f1
      subst e1
      have hB : gBs (gCan g (some p) 0 (st / 14) (st / 7 % 2) (st % 7)) g.1.2 < 64 := gBs_lt64 hnw
      have h48 : m2.2.1 48 = m.2.1 48 := f1.a 48 (by decide)
      cases hu : gNx g (some p) 0 st (gMo (gBs (gCan g (some p) 0 (st / 14) (st / 7 % 2) (st % 7)) g.1.2) (m.1 49) (m.2.1 48 5)) with
      | none =>
        rcases gM1_none hnw hu with q | q
        · cases q
        · rw [hc] at q; cases q
      | some u =>
        have eu : gM1 g (some p) (m.1 49) (m.2.1 48 5) st = u := by
          unfold gM1
          rw [hu]
          rfl
        rw [eu]
        by_cases hz : gBs (gCan g (some p) 0 (st / 14) (st / 7 % 2) (st % 7)) g.1.2 = 0
        · have e6 : gMo (gBs (gCan g (some p) 0 (st / 14) (st / 7 % 2) (st % 7)) g.1.2) (m.1 49) (m.2.1 48 5) = 6 := by
            rw [hz]
            exact gPf_0 _
          rw [e6] at hu
          refine wO_pos (by rw [hz]; rfl) (wO_bd (m_passes_u (h.mv f1) hu) ?_)
          rintro m3 ⟨f3, r3⟩
          refine wO_some ⟨(f1.wk (by decide)).tr (f3.tr (msF.sA (by decide))), ?_⟩
          show upd (m3.2.1 48) 5 (m3.2.1 48 5 + 1) = _
          rw [r3, h48, gRw_ge 5 (by omega)]
        · have hk := gMo_pk (sd := m.1 49) (wh := m.2.1 48 5) hB hz
          have hp : ∀ B, B < 64 → ¬ B = 0 → 0 < gCt (fun i => B.testBit i) 6 := by decide +kernel
          generalize hBB : gBs (gCan g (some p) 0 (st / 14) (st / 7 % 2) (st % 7)) g.1.2 = B at *
          refine wO_neg (fun e => hz ((nI_eq (b := 0) (by omega) (by omega)).mp e)) (wO_eq (m_bits hB) ?_)
          refine wO_eq (m_lot (gCt_le _ 6) (hp B hB hz)) ?_
          rw [f1.i 49 (by decide), h48]
          have hkl : gLk (m.1 49) (m.2.1 48 5) (gCt (fun i => B.testBit i) 6) < gCt (fun i => B.testBit i) 6 := Nat.mod_lt _ (hp B hB hz)
          have h6 := gCt_le (fun i => B.testBit i) 6
          generalize gLk (m.1 49) (m.2.1 48 5) (gCt (fun i => B.testBit i) 6) = k at hk hkl
          refine wO_bd (Q := fun q => q = (nI (gMo B (m.1 49) (m.2.1 48 5)), m2)) ?_ ?_
          · refine wO_count (fun (i : Nat) (q : Int32 × Int32 × ms_S) => gCt (fun i => B.testBit i) i ≤ k ∧ q.1 = nI (k - gCt (fun i => B.testBit i) i) ∧ q.2.1 = nI i ∧ q.2.2 = m2) 6 ?_ ?_ _ ⟨Nat.zero_le _, congrArg nI (Nat.sub_zero k).symm, rfl, rfl⟩
            · rintro i ⟨w1, w2, m5⟩ hi ⟨hcc, e1, e2, e3⟩
              have e1 : w1 = nI (k - gCt (fun i => B.testBit i) i) := e1
              have e2 : w2 = nI i := e2
              have e3 : m5 = m2 := e3
              subst e1 e2 e3
              unfold mf_minuteGoes_l25 mf_minuteGoes_j33
              dsimp only
              rw [pu_bit B hB i (by omega)]
              cases hb : B.testBit i with
              | false =>
                have cc : gCt (fun i => B.testBit i) (i + 1) = gCt (fun i => B.testBit i) i := by rw [gCt_s, hb]; rfl
                rw [cc]
                exact wO_pos rfl (wO_some ⟨hcc, Int32.sub_zero _, nI_1 i, rfl⟩)
              | true =>
                have cc : gCt (fun i => B.testBit i) (i + 1) = gCt (fun i => B.testBit i) i + 1 := by rw [gCt_s, hb]; rfl
                rw [cc]
                refine wO_neg pu_10 (wO_ite (fun c => ?_) (fun c => ?_))
                · have hz2 : k - gCt (fun i => B.testBit i) i = 0 := by
                    by_cases h7 : k - gCt (fun i => B.testBit i) i = 0
                    · exact h7
                    · exact absurd c (nI_nle (by omega) (by omega))
                  have : gPk B k i := ⟨hi, hb, by omega⟩
                  refine wO_some ?_
                  show (nI i, m5) = (nI (gMo B (m.1 49) (m.2.1 48 5)), m5)
                  rw [← gPf_of hB this, ← gPf_of hB hk]
                · have hz2 : ¬ k - gCt (fun i => B.testBit i) i = 0 := fun e => c (by rw [e]; exact Int32.le_refl _)
                  refine wO_some ⟨by omega, ?_, nI_1 i, rfl⟩
                  · show nI (k - gCt (fun i => B.testBit i) i) - (1 : Int32) = nI (k - (gCt (fun i => B.testBit i) i + 1))
                    have e := pu_sub (a := k - gCt (fun i => B.testBit i) i) (b := 1) (by omega)
                    rw [show k - (gCt (fun i => B.testBit i) i + 1) = k - gCt (fun i => B.testBit i) i - 1 by omega]
                    exact e
            · rintro ⟨w1, w2, m5⟩ ⟨hcc, -⟩
              exact absurd hcc (by omega)
          · rintro _ rfl
            refine wO_bd (m_says_u (h.mv f1) hk.1 hu) ?_
            rintro m3 ⟨f3, r3⟩
            refine wO_some ⟨(f1.wk (by decide)).tr (f3.tr (msF.sA (by decide))), ?_⟩
            show upd (m3.2.1 48) 5 (m3.2.1 48 5 + 1) = _
            rw [r3, h48, gRw_ge 5 (by omega)]
