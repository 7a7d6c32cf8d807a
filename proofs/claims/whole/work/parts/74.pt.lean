/-! the reference: where each turn leads -/
def gNx (g : gT) (po : Option (Nat × Nat)) (wo st w : Nat) : Option Nat := match po with
  | none => none
  | some (l, r) =>
    if w < 6 then
      (bif decide (w < g.1.2) && gCan g po wo (st / 14) (st / 7 % 2) (st % 7) w then some (14 * gSl g l r (st / 14) (st / 7 % 2) (st % 7) w + 7 * (1 - st / 7 % 2) + w) else none)
    else if w = 6 then
      (bif decide (0 < st / 14) && (decide (st / 14 < 20) && decide (gBs (gCan g po wo (st / 14) (st / 7 % 2) (st % 7)) g.1.2 = 0)) then some (14 * gSr g l r (st / 14) (st / 7 % 2) (st % 7) + 7 * (1 - st / 7 % 2) + 6) else none)
    else none
def gE (o : Option Nat) : Int32 := match o with
  | none => -1
  | some x => nI x
/-- a standing of a text with nw words -/
def gSt (nw st : Nat) : Prop := st < 294 ∧ (st % 7 < nw ∨ st % 7 = 6)
theorem gNx_ok {g : gT} {po : Option (Nat × Nat)} {wo st w x : Nat} (hw6 : g.1.2 ≤ 6) (hs : st < 294) (h : gNx g po wo st w = some x) : gSt g.1.2 x := by
  unfold gNx at h
  cases po with
  | none => cases h
  | some p =>
    obtain ⟨l, r⟩ := p
    simp only at h
    have hsl : st / 14 ≤ 20 := by omega
    by_cases h1 : w < 6
    · rw [if_pos h1] at h
      cases hc : (decide (w < g.1.2) && gCan g (some (l, r)) wo (st / 14) (st / 7 % 2) (st % 7) w) with
      | false => rw [hc] at h; cases h
      | true =>
        rw [hc] at h
        have h2 := Option.some.inj h
        rw [Bool.and_eq_true, decide_eq_true_eq] at hc
        have h3 := gSl_le (g := g) (l := l) (r := r) (tu := st / 7 % 2) (la := st % 7) (w := w) hsl
        subst h2
        constructor
        · omega
        · left; omega
    · rw [if_neg h1] at h
      by_cases h6 : w = 6
      · rw [if_pos h6] at h
        cases hc : (decide (0 < st / 14) && (decide (st / 14 < 20) && decide (gBs (gCan g (some (l, r)) wo (st / 14) (st / 7 % 2) (st % 7)) g.1.2 = 0))) with
        | false => rw [hc] at h; cases h
        | true =>
          rw [hc] at h
          have h2 := Option.some.inj h
          have h3 := gSr_le (g := g) (l := l) (r := r) (tu := st / 7 % 2) (la := st % 7) hsl
          subst h2
          constructor
          · omega
          · right; omega
      · rw [if_neg h6] at h; cases h
theorem m_number {s : ms_S} {sl tu la : Nat} (h0 : s.2.1 48 0 = nI sl) (h1 : s.2.1 48 1 = nI tu) (h2 : s.2.1 48 2 = nI la) : mf_numberNow s = some (nI (14 * sl + 7 * tu + la), s) := by
  unfold mf_numberNow mf_numberOf
  rw [h0, h1, h2, show (14 : Int32) * nI sl = nI (14 * sl) from pu_mul 14 sl, show (7 : Int32) * nI tu = nI (7 * tu) from pu_mul 7 tu, nI_add, nI_add]
  rfl
theorem m_loads {s : ms_S} {st : Nat} (h : st < 294) : mf_loads s (nI st) = some (ms_sA s 48 (gRw (s.2.1 48) (st / 14) (st / 7 % 2) (st % 7))) := by
  unfold mf_loads
  have e1 : nI st / (14 : Int32) = nI (st / 14) := pu_div (b := 14) (by omega) (by omega)
  have e2 : nI st / (7 : Int32) = nI (st / 7) := pu_div (b := 7) (by omega) (by omega)
  have e3 : nI (st / 7) / (2 : Int32) = nI (st / 7 / 2) := pu_div (b := 2) (by omega) (by omega)
  have e4 : nI (st / 7 / 2) * (2 : Int32) = nI (st / 7 / 2 * 2) := pu_mul _ 2
  have e5 : nI (st / 7) * (7 : Int32) = nI (st / 7 * 7) := pu_mul _ 7
  rw [e1, e2, e3, e4, e5, pu_sub (by omega), pu_sub (by omega)]
  have e6 : st / 7 - st / 7 / 2 * 2 = st / 7 % 2 := by omega
  have e7 : st - st / 7 * 7 = st % 7 := by omega
  rw [e6, e7]
  congr 2
  funext i
  unfold upd gRw
  by_cases h2 : i = 2
  · simp [h2]
  · by_cases h1 : i = 1
    · simp [h1]
    · by_cases h0 : i = 0
      · simp [h0]
      · simp [h0, h1, h2]
/-- the pair stands in the row's places 3, 4 -/
theorem gPO.mv {s t : ms_S} {po : Option (Nat × Nat)} {n : Nat} (h : gPO s po n) (h3 : t.2.1 48 3 = s.2.1 48 3) (h4 : t.2.1 48 4 = s.2.1 48 4) : gPO t po n := by
  unfold gPO at h ⊢
  rw [h3, h4]
  exact h
/-- what fillsFrom and fillsThen keep -/
def gKt : List Nat := [44, 45, 46, 48, 51]
def MP (g : gT) (lv : Nat) (s : ms_S) (po : Option (Nat × Nat)) (wo : Nat) : Prop := MT g lv s ∧ gPO s po g.1.1 ∧ s.1 50 = nI wo ∧ wo < 64
theorem MP.mv {g : gT} {lv : Nat} {s t : ms_S} {po : Option (Nat × Nat)} {wo : Nat} (h : MP g lv s po wo) (hF : msF gKt s t) (h3 : ∀ j, 3 ≤ j → t.2.1 48 j = s.2.1 48 j) : MP g lv t po wo :=
  ⟨h.1.mv hF (by decide), h.2.1.mv (h3 3 (by omega)) (h3 4 (by omega)), (hF.i 50 (by decide)).trans h.2.2.1, h.2.2.2⟩
theorem gRw_ge {row : Nat → Int32} {a b c : Nat} : ∀ j, 3 ≤ j → gRw row a b c j = row j := fun j hj => by
  unfold gRw
  rw [if_neg (by omega), if_neg (by omega), if_neg (by omega)]
theorem MP.ld {g : gT} {lv : Nat} {s : ms_S} {po : Option (Nat × Nat)} {wo st : Nat} (h : MP g lv s po wo) (hs : gSt g.1.2 st) : MW g lv (ms_sA s 48 (gRw (s.2.1 48) (st / 14) (st / 7 % 2) (st % 7))) po wo (st / 14) (st / 7 % 2) (st % 7) := by
  have h2 := h.mv (t := ms_sA s 48 (gRw (s.2.1 48) (st / 14) (st / 7 % 2) (st % 7))) (msF.sA (by decide)) gRw_ge
  have := hs.1
  exact ⟨h2.1, h2.2.1, h2.2.2.1, h2.2.2.2, rfl, rfl, rfl, by omega, by omega, hs.2⟩
def fI (g : gT) (po : Option (Nat × Nat)) (wo st : Nat) (s : ms_S) (i : Nat) (q : Int32 × ms_S) : Prop := q.1 = nI i ∧ msF gKt s q.2 ∧ (∀ j, 3 ≤ j → q.2.2.1 48 j = s.2.1 48 j) ∧ (∀ j, q.2.2.1 51 j = if 7 * st ≤ j ∧ j < 7 * st + i then gE (gNx g po wo st (j - 7 * st)) else s.2.1 51 j) ∧ (i ≤ 6 → gBs (gCan g po wo (st / 14) (st / 7 % 2) (st % 7)) g.1.2 = 0 → q.2.2.1 48 0 = nI (st / 14))
def fP (g : gT) (po : Option (Nat × Nat)) (wo st : Nat) (s : ms_S) (t : ms_S) : Prop := msF gKt s t ∧ (∀ j, 3 ≤ j → t.2.1 48 j = s.2.1 48 j) ∧ ∀ j, t.2.1 51 j = if 7 * st ≤ j ∧ j < 7 * st + 7 then gE (gNx g po wo st (j - 7 * st)) else s.2.1 51 j
theorem m_fillsFrom {g : gT} {lv : Nat} {s : ms_S} {po : Option (Nat × Nat)} {wo st : Nat} (h : MP g lv s po wo) (hs : gSt g.1.2 st) : wO (mf_fillsFrom s (nI st)) (fP g po wo st s) := by
  have hst := hs.1
  have hn6 := h.1.2.2.2.1
  unfold mf_fillsFrom
  refine wO_eq (m_loads hst) ?_
  have hW := h.ld hs
  refine wO_bd (m_canBits hW) ?_
  rintro ⟨v, s2⟩ ⟨rfl, hF2⟩
  have hB : gBs (gCan g po wo (st / 14) (st / 7 % 2) (st % 7)) g.1.2 < 64 := by
    have h1 := gBs_lt (gCan g po wo (st / 14) (st / 7 % 2) (st % 7)) g.1.2
    have h2 : 2 ^ g.1.2 ≤ 2 ^ 6 := Nat.pow_le_pow_right (by omega) hn6
    omega
  have hbit := fun w => gBs_bit (gCan g po wo (st / 14) (st / 7 % 2) (st % 7)) w g.1.2
  have hF1 : msF gKt s s2 := (msF.sA (by decide)).tr (hF2.wk (by decide))
  have h48 : ∀ j, 3 ≤ j → s2.2.1 48 j = s.2.1 48 j := fun j hj => by
    rw [hF2.a 48 (by decide)]
    exact gRw_ge j hj
  have h51 : s2.2.1 51 = s.2.1 51 := hF2.a 51 (by decide)
  refine wO_bd (Q := fP g po wo st s) ?_ (fun q hq => wO_some hq)
  refine wO_count (fI g po wo st s) 7 ?_ ?_ _ ⟨rfl, hF1, h48, (fun j => by rw [if_neg (by omega)]; exact congrFun h51 j), fun _ _ => by rw [show s2.2.1 48 = _ from hF2.a 48 (by decide)]; rfl⟩
  · rintro i ⟨w3, u⟩ hi ⟨e1, hFu, hu48, hu51, hu0⟩
    have e1 : w3 = nI i := e1
    subst e1
    have hFu : msF gKt s u := hFu
    have hu48 : ∀ j, 3 ≤ j → u.2.1 48 j = s.2.1 48 j := hu48
    have hu0 : i ≤ 6 → gBs (gCan g po wo (st / 14) (st / 7 % 2) (st % 7)) g.1.2 = 0 → u.2.1 48 0 = nI (st / 14) := hu0
    have hu51 : ∀ j, u.2.1 51 j = if 7 * st ≤ j ∧ j < 7 * st + i then gE (gNx g po wo st (j - 7 * st)) else s.2.1 51 j := hu51
    unfold mf_fillsFrom_l8
    refine wO_neg (show ¬ (7 : Int32) ≤ nI i from nI_ge (b := 7) hi (by omega)) ?_
    have ei : (7 : Int32) * nI st + nI i = nI (7 * st + i) := (congrArg (· + nI i) (pu_mul 7 st)).trans (nI_add _ _)
    refine wO_in (k := 7 * st + i) ei (by omega) (by omega) ?_
    have ec : ((7 : Int32) * nI st + nI i).toNatClampNeg = 7 * st + i := by rw [ei]; exact nI_clamp (by omega)
    rw [ec]
    -- what is left when the turn can't be taken
    have hno : ∀ (x : ms_S), msF gKt s x → (∀ j, 3 ≤ j → x.2.1 48 j = s.2.1 48 j) → x.2.1 51 = upd (u.2.1 51) (7 * st + i) (-1) → gNx g po wo st i = none → x.2.1 48 = u.2.1 48 → wO (mf_fillsFrom_j63 x (nI st) (nI (gBs (gCan g po wo (st / 14) (st / 7 % 2) (st % 7)) g.1.2)) (nI i)) (mo_sum (fI g po wo st s (i + 1)) (fP g po wo st s)) := by
      intro x hx1 hx2 hx3 hn hx4
      unfold mf_fillsFrom_j63
      refine wO_some ⟨nI_1 i, hx1, hx2, fun j => ?_, fun h6 h0 => by rw [show (x.2.1 48) = u.2.1 48 from hx4]; exact hu0 (by omega) h0⟩
      show x.2.1 51 j = _
      rw [hx3]
      unfold upd
      by_cases hj : j = 7 * st + i
      · subst hj
        rw [if_pos rfl, if_pos (by omega), show 7 * st + i - 7 * st = i by omega, hn]
        rfl
      · rw [if_neg hj, hu51]
        by_cases h2 : 7 * st ≤ j ∧ j < 7 * st + i
        · rw [if_pos h2, if_pos (by omega)]
        · rw [if_neg h2, if_neg (by omega)]
    -- the turn is taken
    have hyes : ∀ (x : ms_S), msF gKt s x → (∀ j, 3 ≤ j → x.2.1 48 j = s.2.1 48 j) → x.2.1 51 = upd (u.2.1 51) (7 * st + i) (-1) → (∃ y, gNx g po wo st i = some y) → (i + 1 ≤ 6 → ¬ gBs (gCan g po wo (st / 14) (st / 7 % 2) (st % 7)) g.1.2 = 0) → wO (mf_fillsFrom_j41 x (nI st) (nI (gBs (gCan g po wo (st / 14) (st / 7 % 2) (st % 7)) g.1.2)) (nI i)) (mo_sum (fI g po wo st s (i + 1)) (fP g po wo st s)) := by
      intro x hx1 hx2 hx3 hn hne
      obtain ⟨y, hy⟩ := hn
      have hPx := h.mv hx1 hx2
      unfold mf_fillsFrom_j41
      refine wO_eq (m_loads hst) ?_
      have hWx := hPx.ld hs
      have hend : ∀ (z : ms_S) (sl2 la2 : Nat), msF gKr (ms_sA x 48 (gRw (x.2.1 48) (st / 14) (st / 7 % 2) (st % 7))) z → z.2.1 48 = gRw (gRw (x.2.1 48) (st / 14) (st / 7 % 2) (st % 7)) sl2 (1 - st / 7 % 2) la2 → y = 14 * sl2 + 7 * (1 - st / 7 % 2) + la2 → wO (mf_fillsFrom_j53 z (nI st) (nI (gBs (gCan g po wo (st / 14) (st / 7 % 2) (st % 7)) g.1.2)) (nI i)) (mo_sum (fI g po wo st s (i + 1)) (fP g po wo st s)) := by
        intro z sl2 la2 hz1 hz2 hz3
        unfold mf_fillsFrom_j53
        refine wO_eq (m_number (sl := sl2) (tu := 1 - st / 7 % 2) (la := la2) (by rw [hz2]; rfl) (by rw [hz2]; rfl) (by rw [hz2]; rfl)) ?_
        refine wO_in (k := 7 * st + i) ei (by omega) (by omega) ?_
        unfold mf_fillsFrom_j63
        refine wO_some ⟨nI_1 i, (hx1.tr (msF.sA (by decide))).tr ((hz1.wk (by decide)).tr (msF.sA (by decide))), fun j hj => ?_, fun j => ?_, fun h6 h0 => absurd h0 (hne h6)⟩
        · show z.2.1 48 j = _
          rw [hz2, gRw_ge j hj, gRw_ge j hj]
          exact hx2 j hj
        · show upd (z.2.1 51) _ _ j = _
          rw [ec, ← hz3, hz1.a 51 (by decide)]
          show upd (x.2.1 51) _ _ j = _
          rw [hx3]
          unfold upd
          by_cases hj : j = 7 * st + i
          · subst hj
            rw [if_pos rfl, if_pos (by omega), show 7 * st + i - 7 * st = i by omega, hy]
            rfl
          · rw [if_neg hj, if_neg hj, hu51]
            by_cases h2 : 7 * st ≤ j ∧ j < 7 * st + i
            · rw [if_pos h2, if_pos (by omega)]
            · rw [if_neg h2, if_neg (by omega)]
      cases po with
      | none => cases hy
      | some p =>
        obtain ⟨l, r⟩ := p
        have hy2 := hy
        unfold gNx at hy2
        simp only at hy2
        refine wO_ite (fun c => ?_) (fun c => ?_)
        · have h6 : i = 6 := by
            have := (nI_leI (a := 6) (by omega) (by omega)).mp c
            omega
          rw [if_neg (by omega), if_pos h6] at hy2
          refine wO_bd (m_passes hWx.mc) ?_
          rintro z ⟨hz1, hz2⟩
          refine hend z _ 6 hz1 hz2 ?_
          cases hc : (decide (0 < st / 14) && (decide (st / 14 < 20) && decide (gBs (gCan g (some (l, r)) wo (st / 14) (st / 7 % 2) (st % 7)) g.1.2 = 0))) with
          | false => rw [hc] at hy2; cases hy2
          | true => rw [hc] at hy2; exact (Option.some.inj hy2).symm
        · have h6 : i < 6 := by
            rcases Nat.lt_or_ge i 6 with q | q
            · exact q
            · exact absurd (nI_le (a := 6) q (by omega)) c
          rw [if_pos h6] at hy2
          cases hc : (decide (i < g.1.2) && gCan g (some (l, r)) wo (st / 14) (st / 7 % 2) (st % 7) i) with
          | false => rw [hc] at hy2; cases hy2
          | true =>
            rw [hc] at hy2
            rw [Bool.and_eq_true, decide_eq_true_eq] at hc
            refine wO_bd (m_says hWx.mc hc.1) ?_
            rintro z ⟨hz1, hz2⟩
            exact hend z _ i hz1 hz2 (Option.some.inj hy2).symm
    have hx1 : msF gKt s (ms_sA u 51 (upd (u.2.1 51) (7 * st + i) (-1))) := hFu.tr (msF.sA (by decide))
    have hP2 := h.mv hx1 hu48
    have j29 : i = 6 → wO (mf_fillsFrom_j29 (ms_sA u 51 (upd (u.2.1 51) (7 * st + i) (-1))) (nI st) (nI (gBs (gCan g po wo (st / 14) (st / 7 % 2) (st % 7)) g.1.2)) (nI i)) (mo_sum (fI g po wo st s (i + 1)) (fP g po wo st s)) := by
      intro h6
      subst h6
      unfold mf_fillsFrom_j29
      refine wO_pos (show nI 6 = (6 : Int32) from rfl) ?_
      refine wO_ite (fun c => ?_) (fun c => ?_)
      · have hz : gBs (gCan g po wo (st / 14) (st / 7 % 2) (st % 7)) g.1.2 = 0 := (nI_eq (b := 0) (by omega) (by omega)).mp c
        refine wO_eq (m_areThere hP2.2.1 hP2.1.2.2.1) ?_
        cases po with
        | none => exact wO_pos pu_00 (hno _ hx1 hu48 rfl rfl rfl)
        | some p =>
          obtain ⟨l, r⟩ := p
          refine wO_neg pu_10 ?_
          refine wO_eq (m_isAsleep (sl := st / 14) (hu0 (by omega) hz) (by omega)) ?_
          cases ha : (decide (0 < st / 14) && decide (st / 14 < 20)) with
          | false =>
            refine wO_pos pu_00 (hno _ hx1 hu48 rfl ?_ rfl)
            unfold gNx
            simp only
            rw [if_neg (by omega), if_pos trivial, ← Bool.and_assoc, ha]
            rfl
          | true =>
            refine wO_neg pu_10 (hyes _ hx1 hu48 rfl ⟨14 * gSr g l r (st / 14) (st / 7 % 2) (st % 7) + 7 * (1 - st / 7 % 2) + 6, ?_⟩ (fun h => absurd h (by omega)))
            unfold gNx
            simp only
            rw [if_neg (by omega), if_pos trivial, ← Bool.and_assoc, ha, decide_eq_true hz]
            rfl
      · have hz : ¬ gBs (gCan g po wo (st / 14) (st / 7 % 2) (st % 7)) g.1.2 = 0 := fun e => c (by rw [e]; rfl)
        refine hno _ hx1 hu48 rfl ?_ rfl
        unfold gNx
        cases po with
        | none => rfl
        | some p =>
          simp only
          rw [if_neg (by omega), if_pos trivial, decide_eq_false hz, Bool.and_false, Bool.and_false]
          rfl
    refine wO_ite (fun c => ?_) (fun c => ?_)
    · have h6 : i = 6 := by
        have := (nI_leI (a := 6) (by omega) (by omega)).mp c
        omega
      exact j29 h6
    · have h6 : i < 6 := by
        rcases Nat.lt_or_ge i 6 with q | q
        · exact q
        · exact absurd (nI_le (a := 6) q (by omega)) c
      rw [pu_bit _ hB i (by omega), hbit i]
      cases hc : (decide (i < g.1.2) && gCan g po wo (st / 14) (st / 7 % 2) (st % 7) i) with
      | false =>
        refine wO_pos pu_00 (hno _ hx1 hu48 rfl ?_ rfl)
        unfold gNx
        cases po with
        | none => rfl
        | some p =>
          simp only
          rw [if_pos h6, hc]
          rfl
      | true =>
        refine wO_neg pu_10 ?_
        unfold mf_fillsFrom_j29
        have hi6 : ¬ nI i = (6 : Int32) := fun e => absurd ((nI_eq (b := 6) (by omega) (by omega)).mp e) (by omega)
        refine wO_neg hi6 (hyes _ hx1 hu48 rfl ?_ (fun _ e => ?_))
        · cases po with
          | none => exact absurd hc (by simp [gCan])
          | some p =>
            obtain ⟨l, r⟩ := p
            unfold gNx
            simp only
            rw [if_pos h6, hc]
            exact ⟨_, rfl⟩
        · have h9 := hbit i
          rw [hc, e] at h9
          simp at h9
  · rintro ⟨w3, u⟩ ⟨e1, hFu, hu48, hu51, hu0⟩
    have e1 : w3 = nI 7 := e1
    subst e1
    unfold mf_fillsFrom_l8
    exact wO_pos (Int32.le_refl _) (wO_some ⟨hFu, hu48, hu51⟩)
/-- the rows of turns are those of the game -/
def gTh (g : gT) (po : Option (Nat × Nat)) (wo : Nat) (th : Nat → Int32) : Prop := ∀ st, gSt g.1.2 st → ∀ w, w < 7 → th (7 * st + w) = gE (gNx g po wo st w)
theorem pu_mod7 {k : Nat} (h : k < 2 ^ 31) : nI k - nI k / (7 : Int32) * (7 : Int32) = nI (k % 7) := by
  have e2 : nI k / (7 : Int32) = nI (k / 7) := pu_div (b := 7) h (by omega)
  have e5 : nI (k / 7) * (7 : Int32) = nI (k / 7 * 7) := pu_mul _ 7
  rw [e2, e5, pu_sub (by omega)]
  congr 1
  omega
theorem m_fillsThen {g : gT} {lv : Nat} {s : ms_S} {po : Option (Nat × Nat)} {wo sl tu la : Nat} (h : MW g lv s po wo sl tu la) : wO (mf_fillsThen s) (fun t => msF gKt s t ∧ t.2.1 48 = s.2.1 48 ∧ gTh g po wo (t.2.1 51)) := by
  obtain ⟨h1, h2, h3, h4, h5, h6, h7, h8, h9, h10⟩ := id h
  have hP : MP g lv s po wo := ⟨h1, h2, h3, h4⟩
  have hn6 := h1.2.2.2.1
  have hst : 14 * sl + 7 * tu + la < 294 := by omega
  unfold mf_fillsThen
  refine wO_eq (m_number h5 h6 h7) ?_
  refine wO_bd (Q := fun t => msF gKt s t ∧ (∀ j, 3 ≤ j → t.2.1 48 j = s.2.1 48 j) ∧ gTh g po wo (t.2.1 51)) ?_ ?_
  · refine wO_count (fun i q => q.1 = nI i ∧ msF gKt s q.2 ∧ (∀ j, 3 ≤ j → q.2.2.1 48 j = s.2.1 48 j) ∧ ∀ st, gSt g.1.2 st → st < i → ∀ w, w < 7 → q.2.2.1 51 (7 * st + w) = gE (gNx g po wo st w)) 294 ?_ ?_ _ ⟨rfl, msF.rf, fun _ _ => rfl, fun st _ hs => absurd hs (by omega)⟩
    · rintro i ⟨w2, u⟩ hi ⟨e1, hFu, hu48, hu51⟩
      have e1 : w2 = nI i := e1
      subst e1
      have hFu : msF gKt s u := hFu
      have hu48 : ∀ j, 3 ≤ j → u.2.1 48 j = s.2.1 48 j := hu48
      have hu51 : ∀ st, gSt g.1.2 st → st < i → ∀ w, w < 7 → u.2.1 51 (7 * st + w) = gE (gNx g po wo st w) := hu51
      have hPu := hP.mv hFu hu48
      unfold mf_fillsThen_l5
      refine wO_neg (show ¬ (294 : Int32) ≤ nI i from nI_ge (b := 294) hi (by omega)) ?_
      rw [pu_mod7 (by omega)]
      have hgo : (i % 7 < g.1.2 ∨ i % 7 = 6) → wO (mf_fillsThen_j22 u (nI (14 * sl + 7 * tu + la)) (nI i)) (mo_sum (fun q => q.1 = nI (i + 1) ∧ msF gKt s q.2 ∧ (∀ j, 3 ≤ j → q.2.2.1 48 j = s.2.1 48 j) ∧ ∀ st, gSt g.1.2 st → st < i + 1 → ∀ w, w < 7 → q.2.2.1 51 (7 * st + w) = gE (gNx g po wo st w)) (fun t => msF gKt s t ∧ (∀ j, 3 ≤ j → t.2.1 48 j = s.2.1 48 j) ∧ gTh g po wo (t.2.1 51))) := by
        intro hd
        unfold mf_fillsThen_j22
        refine wO_bd (m_fillsFrom hPu ⟨hi, hd⟩) ?_
        rintro t ⟨t1, t2, t3⟩
        unfold mf_fillsThen_j25
        refine wO_some ⟨nI_1 i, hFu.tr t1, fun j hj => (t2 j hj).trans (hu48 j hj), fun st hs hlt w hw => ?_⟩
        show t.2.1 51 (7 * st + w) = _
        rw [t3]
        by_cases he : st = i
        · subst he
          rw [if_pos (by omega), show 7 * st + w - 7 * st = w by omega]
        · rw [if_neg (by omega)]
          exact hu51 st hs (by omega) w hw
      refine wO_ite (fun c => ?_) (fun c => ?_)
      · exact hgo (Or.inr ((nI_eq (b := 6) (by omega) (by omega)).mp c))
      · have h66 : ¬ i % 7 = 6 := fun e => c (by rw [e]; rfl)
        refine wO_agv (k := lv) hPu.1.2.1 (by have := h1.1; omega) (by omega) hPu.1.2.2.2.2.2.1 ?_
        refine wO_ite (fun c2 => ?_) (fun c2 => ?_)
        · have hge : g.1.2 ≤ i % 7 := (nI_leI (by omega) (by omega)).mp c2
          unfold mf_fillsThen_j25
          refine wO_some ⟨nI_1 i, hFu, hu48, fun st hs hlt w hw => ?_⟩
          by_cases he : st = i
          · subst he
            rcases hs.2 with q | q
            · omega
            · exact absurd q h66
          · exact hu51 st hs (by omega) w hw
        · have hlt : i % 7 < g.1.2 := by
            rcases Nat.lt_or_ge (i % 7) g.1.2 with q | q
            · exact q
            · exact absurd (nI_le q (by omega)) c2
          exact hgo (Or.inl hlt)
    · rintro ⟨w2, u⟩ ⟨e1, hFu, hu48, hu51⟩
      have e1 : w2 = nI 294 := e1
      subst e1
      unfold mf_fillsThen_l5
      exact wO_pos (Int32.le_refl _) (wO_some ⟨hFu, hu48, fun st hs w hw => hu51 st hs hs.1 w hw⟩)
  · rintro t ⟨t1, t2, t3⟩
    refine wO_eq (m_loads hst) (wO_some ⟨t1.tr (msF.sA (by decide)), ?_, t3⟩)
    show gRw (t.2.1 48) _ _ _ = _
    funext j
    unfold gRw
    by_cases j0 : j = 0
    · rw [if_pos j0, j0, h5]; congr 1; omega
    · rw [if_neg j0]
      by_cases j1 : j = 1
      · rw [if_pos j1, j1, h6]; congr 1; omega
      · rw [if_neg j1]
        by_cases j2 : j = 2
        · rw [if_pos j2, j2, h7]; congr 1; omega
        · rw [if_neg j2]
          exact t2 j (by omega)
