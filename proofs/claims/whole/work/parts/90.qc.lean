/-! question: best -/
def gWo (mv : Nat) (o : Option (Nat × Nat)) : Nat := match o with
  | none => 50000
  | some p => if p.1 = mv then 100000 - p.2 else p.2
def gWc (mv : Nat) (o : Option (Nat × Nat)) : Int := match o with
  | none => 0
  | some p => if p.1 = mv then 295 - (p.2 : Int) else (p.2 : Int) - 295
def gWk (o : Option (Nat × Nat)) : Prop := ∀ p, o = some p → 1 ≤ p.1 ∧ p.1 ≤ 2 ∧ p.2 ≤ 294
theorem gWo_iff {mv : Nat} {o v : Option (Nat × Nat)} (ho : gWk o) (hv : gWk v) : gWc mv o ≤ gWc mv v ↔ gWo mv o ≤ gWo mv v := by
  cases o with
  | none =>
    cases v with
    | none => exact ⟨fun _ => Nat.le_refl _, fun _ => Int.le_refl _⟩
    | some p =>
      have := hv p rfl
      simp only [gWc, gWo]
      split <;> omega
  | some q =>
    have h1 := ho q rfl
    cases v with
    | none =>
      simp only [gWc, gWo]
      split <;> omega
    | some p =>
      have := hv p rfl
      simp only [gWc, gWo]
      split <;> split <;> omega
theorem pu_ngn {k : Nat} (h : k < 2 ^ 31) : (-(nI k) : Int32).toInt = -(k : Int) := by
  rw [Int32.toInt_neg, nI_toInt h]
  exact Int.bmod_eq_of_le (by omega) (by omega)
/-- the standing of the best turn so far -/
def gBt (nx : Nat → Nat → Option Nat) (f : Nat → Option (Nat × Nat)) (st mv : Nat) : Nat → Option (Nat × Nat)
  | 0 => none
  | k + 1 => match nx st k with
    | none => gBt nx f st mv k
    | some u => match gBt nx f st mv k with
      | none => some (k, u)
      | some p => if gWo mv (f p.2) < gWo mv (f u) then some (k, u) else some p
def gB2 (o : Option (Nat × Nat)) : Int32 := match o with
  | none => -2
  | some p => nI p.1
theorem gBt_lt {nx : Nat → Nat → Option Nat} {f : Nat → Option (Nat × Nat)} {st mv : Nat} : ∀ {k : Nat} {p : Nat × Nat}, gBt nx f st mv k = some p → p.1 < k ∧ nx st p.1 = some p.2
  | 0, p, h => by cases h
  | k + 1, p, h => by
    simp only [gBt] at h
    cases h1 : nx st k with
    | none =>
      rw [h1] at h
      have := gBt_lt h
      exact ⟨by omega, this.2⟩
    | some u =>
      rw [h1] at h
      simp only at h
      cases h2 : gBt nx f st mv k with
      | none => rw [h2] at h; cases h; exact ⟨by omega, h1⟩
      | some p2 =>
        rw [h2] at h
        simp only at h
        split at h
        · cases h; exact ⟨by omega, h1⟩
        · cases h
          have := gBt_lt h2
          exact ⟨by omega, this.2⟩
theorem gBt_s1 {nx : Nat → Nat → Option Nat} {f : Nat → Option (Nat × Nat)} {st mv k : Nat} (h : nx st k = none) : gBt nx f st mv (k + 1) = gBt nx f st mv k := by
  simp only [gBt, h]
theorem gBt_s2 {nx : Nat → Nat → Option Nat} {f : Nat → Option (Nat × Nat)} {st mv k u : Nat} (h : nx st k = some u) (hb : gBt nx f st mv k = none) : gBt nx f st mv (k + 1) = some (k, u) := by
  simp only [gBt, h, hb]
theorem gBt_s3 {nx : Nat → Nat → Option Nat} {f : Nat → Option (Nat × Nat)} {st mv k u : Nat} {p : Nat × Nat} (h : nx st k = some u) (hb : gBt nx f st mv k = some p) (hc : gWo mv (f p.2) < gWo mv (f u)) : gBt nx f st mv (k + 1) = some (k, u) := by
  simp only [gBt, h, hb]
  rw [if_pos hc]
theorem gBt_s4 {nx : Nat → Nat → Option Nat} {f : Nat → Option (Nat × Nat)} {st mv k u : Nat} {p : Nat × Nat} (h : nx st k = some u) (hb : gBt nx f st mv k = some p) (hc : ¬ gWo mv (f p.2) < gWo mv (f u)) : gBt nx f st mv (k + 1) = some p := by
  simp only [gBt, h, hb]
  rw [if_neg hc]
theorem x_worth {g : gT} {po : Option (Nat × Nat)} {wo st mv : Nat} {s : xs_S} {q : List Nat × (Nat → Nat)} (k : gFc g po wo s q) (hm : st ∈ q.1) (hmv : mv ≤ 2) : wO (xf_0_worthOf s (nI (gph st)) (nI mv)) (fun p => p.2 = s ∧ p.1.toInt = gWc mv (gWf (gNx g po wo) st)) := by
  have hst := (k.2.2.1.2 st hm).1
  have hgl := gph_lt hst.1
  have hw := gFc_win k hm
  unfold xf_0_worthOf
  refine wO_agv (k := gph st) rfl (by omega) (by omega) hw ?_
  cases hp : gWf (gNx g po wo) st with
  | none => exact wO_pos rfl (wO_some ⟨rfl, rfl⟩)
  | some p =>
    rw [hp] at hw
    have hk := gWf_ok hp
    refine wO_neg (show ¬ nI p.1 = 0 from fun e => absurd ((nI_eq (b := 0) (by omega) (by omega)).mp e) (by omega)) ?_
    refine wO_agv (k := gph st) rfl (by omega) (by omega) (gFc_soon k hm hp) ?_
    refine wO_agv (k := gph st) rfl (by omega) (by omega) hw ?_
    have e1 : (295 : Int32) - nI p.2 = nI (295 - p.2) := pu_sub (a := 295) (by omega)
    show wO (if nI p.1 = nI mv then _ else _) _
    by_cases he : p.1 = mv
    · refine wO_pos (by rw [he]) (wO_some ⟨rfl, ?_⟩)
      show ((295 : Int32) - nI p.2).toInt = _
      rw [e1, nI_toInt (by omega)]
      simp only [gWc]
      rw [if_pos he]
      omega
    · refine wO_neg (fun e => he ((nI_eq (by omega) (by omega)).mp e)) (wO_some ⟨rfl, ?_⟩)
      show (-((295 : Int32) - nI p.2)).toInt = _
      rw [e1, pu_ngn (by omega)]
      simp only [gWc]
      rw [if_neg he]
      omega
theorem m_worth {g : gT} {lv wo st st2 : Nat} {m : ms_S} {po : Option (Nat × Nat)} {f : Nat → Option (Nat × Nat)} (w : MW g lv m po wo (st / 14) (st / 7 % 2) (st % 7)) (ro : gRo g.1.2 f (m.2.1 52) (m.2.1 53)) (hst : gSt g.1.2 st2) (hk : gWk (f st2)) : mf_worthOf m (nI st2) = some (nI (gWo (1 + st / 7 % 2) (f st2)), m) := by
  have h1 := hst.1
  have hw := gRo_win ro hst
  have e1 : (1 : Int32) + m.2.1 48 1 = nI (1 + st / 7 % 2) := by
    rw [w.2.2.2.2.2.1]
    exact nI_add 1 _
  refine wO_iff.mp ?_
  unfold mf_worthOf
  rw [e1]
  refine wO_agv (k := st2) rfl (by omega) (by omega) hw ?_
  cases hp : f st2 with
  | none =>
    rw [hp] at hw
    refine wO_neg (show ¬ nI 0 = nI (1 + st / 7 % 2) from fun e => absurd ((nI_eq (by omega) (by omega)).mp e) (by omega)) ?_
    refine wO_agv (k := st2) rfl (by omega) (by omega) hw ?_
    exact wO_pos rfl (wO_some rfl)
  | some p =>
    rw [hp] at hw
    have hk := hk p hp
    have hs := gRo_soon ro hst hp
    show wO (if nI p.1 = nI (1 + st / 7 % 2) then _ else _) _
    by_cases he : p.1 = 1 + st / 7 % 2
    · refine wO_pos (by rw [he]) ?_
      refine wO_agv (k := st2) rfl (by omega) (by omega) hs (wO_some ?_)
      rw [show (100000 : Int32) - nI p.2 = nI (100000 - p.2) from pu_sub (a := 100000) (by omega)]
      simp only [gWo]
      rw [if_pos he]
    · refine wO_neg (fun e => he ((nI_eq (by omega) (by omega)).mp e)) ?_
      refine wO_agv (k := st2) rfl (by omega) (by omega) hw ?_
      refine wO_neg (show ¬ nI p.1 = 0 from fun e => absurd ((nI_eq (b := 0) (by omega) (by omega)).mp e) (by omega)) ?_
      refine wO_agv (k := st2) rfl (by omega) (by omega) hs (wO_some ?_)
      simp only [gWo]
      rw [if_neg he]
theorem gWo_lt {mv : Nat} {o : Option (Nat × Nat)} (h : gWk o) : gWo mv o ≤ 100000 := by
  cases o with
  | none => simp only [gWo]; omega
  | some p =>
    have := h p rfl
    simp only [gWo]
    split <;> omega
theorem q_best {g : gT} {lv : Nat} {s : xs_S} {m : ms_S} {po : Option (Nat × Nat)} {st : Nat} (hx : XC g po st s) (hm : MN g lv m po st) : gQ g po st s m (xf_11_best s) (mf_best m) := by
  have hst := hx.2.2.2
  have hst1 := hst.1
  have hgl := gph_lt hst1
  have hn := hx.1.1.2.1
  have hok : ∀ st w u, gSt g.1.2 st → w < 7 → gNx g po 0 st w = some u → gSt g.1.2 u := fun st w u hst _ hu => gNx_ok hn hst.1 hu
  have hwk : ∀ u, gWk (gWf (gNx g po 0) u) := fun u p hp => gWf_ok hp
  refine gQ_of (P := fun a => a = gB2 (gBt (gNx g po 0) (gWf (gNx g po 0)) st (1 + st / 7 % 2) 7)) (fun a b h k => h.trans k.symm) ?_ ?_
  · unfold xf_11_best xf_0_bestMove
    rw [hx.2.2.1]
    refine wO_bd (Q := fun p => p.1 = gB2 (gBt (gNx g po 0) (gWf (gNx g po 0)) st (1 + st / 7 % 2) 7) ∧ xsF xQi xQa s p.2 ∧ XC g po st p.2) ?_ (fun p hp => wO_some hp)
    refine wO_eq (x_turn hst1) ?_
    have main : ∀ mv : Nat, mv = 1 + st / 7 % 2 → wO (xf_0_bestMove_j6 s (nI (gph st)) (nI mv)) (fun p => p.1 = gB2 (gBt (gNx g po 0) (gWf (gNx g po 0)) st (1 + st / 7 % 2) 7) ∧ xsF xQi xQa s p.2 ∧ XC g po st p.2) := by
      intro mv hmv
      rw [← hmv]
      unfold xf_0_bestMove_j6
      refine wO_bd (x_fore (wo := 0) hx hst (by omega)) ?_
      rintro ⟨a, t⟩ ⟨h1, h2, h3, q, h4, h5⟩
      refine wO_bd (Q := fun p => p = (gB2 (gBt (gNx g po 0) (gWf (gNx g po 0)) st mv 7), t)) ?_ (fun p hp => by subst hp; exact wO_some ⟨rfl, h1, h2⟩)
      refine wO_count (fun (k : Nat) (p : Int32 × Int32 × Int32 × xs_S) => p.1 = gB2 (gBt (gNx g po 0) (gWf (gNx g po 0)) st mv k) ∧ (∀ b, gBt (gNx g po 0) (gWf (gNx g po 0)) st mv k = some b → p.2.1.toInt = gWc mv (gWf (gNx g po 0) b.2)) ∧ p.2.2.1 = nI k ∧ p.2.2.2 = t) 7 ?_ ?_ _ ⟨rfl, fun b hb => (by cases hb), rfl, rfl⟩
      · rintro k ⟨w3, w4, w5, u⟩ hk ⟨e3, e4, e5, e6⟩
        have e3 : w3 = gB2 (gBt (gNx g po 0) (gWf (gNx g po 0)) st mv k) := e3
        have e5 : w5 = nI k := e5
        have e6 : u = t := e6
        subst e5 e6
        have e4 : ∀ b, gBt (gNx g po 0) (gWf (gNx g po 0)) st mv k = some b → w4.toInt = gWc mv (gWf (gNx g po 0) b.2) := e4
        unfold xf_0_bestMove_l18
        refine wO_neg (show ¬ (7 : Int32) ≤ nI k from nI_ge (b := 7) hk (by omega)) ?_
        refine wO_eq (x_after (wo := 0) hn hst (h4.2.2.2.2.2.1 st h5) hk (by omega)) ?_
        unfold xf_0_bestMove_j42 xf_0_bestMove_j46
        cases hu : gNx g po 0 st k with
        | none =>
          exact wO_pos rfl (wO_some ⟨by rw [gBt_s1 hu]; exact e3, by rw [gBt_s1 hu]; exact e4, nI_1 k, rfl⟩)
        | some v =>
          have hsv := hok st k v hst hk hu
          have hgv := gph_lt hsv.1
          show wO (if nI (gph v) = (-1 : Int32) then _ else _) _
          refine wO_neg (pu_n1 (by omega)) ?_
          have hvm : v ∈ q.1 := h4.2.2.2.1 st k v h5 hk hu
          refine wO_bd (x_worth (mv := mv) h4 hvm (by omega)) ?_
          rintro ⟨c, u2⟩ ⟨k1, k2⟩
          have k1 : u2 = u := k1
          subst k1
          have k2 : c.toInt = gWc mv (gWf (gNx g po 0) v) := k2
          cases hb : gBt (gNx g po 0) (gWf (gNx g po 0)) st mv k with
          | none =>
            rw [hb] at e3
            refine wO_pos e3 (wO_some ⟨?_, ?_, nI_1 k, rfl⟩)
            · rw [gBt_s2 hu hb]; rfl
            · rw [gBt_s2 hu hb]
              intro b hb2
              cases hb2
              exact k2
          | some b =>
            rw [hb] at e3
            have e3 : w3 = gB2 (some b) := e3
            have hbl := (gBt_lt hb).1
            have e4 : w4.toInt = gWc mv (gWf (gNx g po 0) b.2) := e4 b hb
            refine wO_neg (show ¬ w3 = -2 by
              rw [e3]
              intro e
              have h9 : ¬ nI b.1 < (0 : Int32) := pu_nn (by omega)
              have h10 : nI b.1 = (-2 : Int32) := e
              rw [h10] at h9
              exact h9 (by decide)) ?_
            have hle : c ≤ w4 ↔ ¬ gWo mv (gWf (gNx g po 0) b.2) < gWo mv (gWf (gNx g po 0) v) := by
              rw [Int32.le_iff_toInt_le, k2, e4, gWo_iff (hwk v) (hwk b.2)]
              omega
            by_cases hc : gWo mv (gWf (gNx g po 0) b.2) < gWo mv (gWf (gNx g po 0) v)
            · refine wO_neg (fun e => (hle.mp e) hc) (wO_some ⟨?_, ?_, nI_1 k, rfl⟩)
              · rw [gBt_s3 hu hb hc]
                rfl
              · rw [gBt_s3 hu hb hc]
                intro b2 hb2
                cases hb2
                exact k2
            · refine wO_pos (hle.mpr hc) (wO_some ⟨?_, ?_, nI_1 k, rfl⟩)
              · rw [gBt_s4 hu hb hc]
                exact e3
              · rw [gBt_s4 hu hb hc]
                intro b2 hb2
                cases hb2
                exact e4
      · rintro ⟨w3, w4, w5, u⟩ ⟨e3, e4, e5, e6⟩
        have e3 : w3 = gB2 (gBt (gNx g po 0) (gWf (gNx g po 0)) st mv 7) := e3
        have e5 : w5 = nI 7 := e5
        have e6 : u = t := e6
        subst e5 e6 e3
        unfold xf_0_bestMove_l18
        exact wO_pos (show (7 : Int32) ≤ nI 7 from Int32.le_refl _) (wO_some rfl)
    by_cases ht : st / 7 % 2 = 0
    · rw [ht]
      rw [ht] at main
      exact wO_pos rfl (main 1 rfl)
    · have ht : st / 7 % 2 = 1 := by omega
      rw [ht]
      rw [ht] at main
      exact wO_neg pu_10 (main 2 rfl)
  · unfold mf_best
    obtain ⟨m1, m2, e1, e2, f, w, th, ro⟩ := m_who_now hm
    refine wO_eq e1 (wO_eq e2 ?_)
    generalize hmv : 1 + st / 7 % 2 = mv
    refine wO_bd (Q := fun p => p = (gB2 (gBt (gNx g po 0) (gWf (gNx g po 0)) st mv 7), m2)) ?_ (fun p hp => by subst hp; exact wO_some ⟨rfl, f⟩)
    refine wO_count (fun (k : Nat) (p : Int32 × Int32 × Int32 × ms_S) => p = (gB2 (gBt (gNx g po 0) (gWf (gNx g po 0)) st mv k), (match gBt (gNx g po 0) (gWf (gNx g po 0)) st mv k with
      | none => -1
      | some b => nI (gWo mv (gWf (gNx g po 0) b.2))), nI k, m2)) 7 ?_ ?_ _ rfl
    · rintro k _ hk rfl
      unfold mf_best_l10
      refine wO_neg (show ¬ (7 : Int32) ≤ nI k from nI_ge (b := 7) hk (by omega)) ?_
      refine wO_eq (m_num w) ?_
      have ei : (7 : Int32) * nI st + nI k = nI (7 * st + k) := (congrArg (· + nI k) (pu_mul 7 st)).trans (nI_add _ _)
      refine wO_agv (k := 7 * st + k) (v := gE (gNx g po 0 st k)) ei (by omega) (by omega) (th st hst k hk) ?_
      unfold mf_best_j37
      cases hu : gNx g po 0 st k with
      | none =>
        refine wO_pos (show (-1 : Int32) < 0 by decide) (wO_some ?_)
        rw [gBt_s1 hu, ← nI_1 k]
        rfl
      | some v =>
        have hsv := hok st k v hst hk hu
        have hv1 := hsv.1
        show wO (if nI v < (0 : Int32) then _ else _) _
        refine wO_neg (pu_nn (by omega)) ?_
        have hwv := m_worth w ro hsv (hwk v)
        rw [hmv] at hwv
        refine wO_eq hwv ?_
        have l1 := gWo_lt (mv := mv) (hwk v)
        cases hb : gBt (gNx g po 0) (gWf (gNx g po 0)) st mv k with
        | none =>
          refine wO_pos (show (-1 : Int32) < nI _ from ?_) (wO_eq hwv (wO_some ?_))
          · rw [Int32.lt_iff_toInt_lt, nI_toInt (by omega)]
            show (-1 : Int) < _
            omega
          · rw [gBt_s2 hu hb, ← nI_1 k]
            rfl
        | some b =>
          have l2 := gWo_lt (mv := mv) (hwk b.2)
          by_cases hc : gWo mv (gWf (gNx g po 0) b.2) < gWo mv (gWf (gNx g po 0) v)
          · refine wO_pos (nI_lt hc (by omega)) (wO_eq hwv (wO_some ?_))
            rw [gBt_s3 hu hb hc, ← nI_1 k]
            rfl
          · refine wO_neg (nI_nlt (by omega) (by omega)) (wO_some ?_)
            rw [gBt_s4 hu hb hc, ← nI_1 k]
            rfl
    · rintro _ rfl
      unfold mf_best_l10
      exact wO_pos (show (7 : Int32) ≤ nI 7 from Int32.le_refl _) (wO_some rfl)
