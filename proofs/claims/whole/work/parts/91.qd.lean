/-! questions: hangs, scale -/
theorem pu_sh : ∀ i, i < 6 → ((1 : Int32) <<< (nI i &&& 31)) = nI (2 ^ i) := by decide +kernel
theorem pu_2p : ∀ i, i < 6 → 2 ^ i < 64 := by decide
noncomputable def gHg (g : gT) (po : Option (Nat × Nat)) (st w : Nat) : Bool := decide (¬ gWn (gWf (gNx g po (2 ^ w)) st) = gWn (gWf (gNx g po 0) st))
theorem gWn_lt {o : Option (Nat × Nat)} (h : gWk o) : gWn o ≤ 2 := by
  cases o with
  | none => exact Nat.zero_le 2
  | some p => exact (h p rfl).2.1
theorem gWf_k {nx : Nat → Nat → Option Nat} {st : Nat} : gWk (gWf nx st) := fun _ hp => gWf_ok hp
theorem gHg_step {B : Nat → Bool} {i : Nat} (hi : i < 6) : (B i = true → nI (gBs B i) ||| ((1 : Int32) <<< (nI i &&& 31)) = nI (gBs B (i + 1))) ∧ (B i = false → nI (gBs B i) = nI (gBs B (i + 1))) := by
  refine ⟨fun h => ?_, fun h => ?_⟩
  · rw [pu_or i hi _ (gBs_lt B i)]
    simp only [gBs, h, cond_true]
  · simp only [gBs, h, cond_false, Nat.add_zero]
theorem MW.wo {g : gT} {lv : Nat} {m : ms_S} {po : Option (Nat × Nat)} {wo sl tu la wo2 : Nat} (h : MW g lv m po wo sl tu la) (hw : wo2 < 64) : MW g lv (ms_sI m 50 (nI wo2)) po wo2 sl tu la := by
  obtain ⟨a1, a2, a3, a4, a5, a6, a7, a8⟩ := h
  exact ⟨a1.mv (K := [50]) (msF.sI (by decide)) (by decide), a2.mv rfl rfl, rfl, hw, a5, a6, a7, a8⟩
theorem m_who_wo {g : gT} {lv : Nat} {m : ms_S} {po : Option (Nat × Nat)} {st wo wo2 : Nat} (h : MW g lv m po wo (st / 14) (st / 7 % 2) (st % 7)) (hw : wo2 < 64) : ∃ m2, mf_fillsWho (ms_sI m 50 (nI wo2)) = some m2 ∧ msF mQ m m2 ∧ MW g lv m2 po wo2 (st / 14) (st / 7 % 2) (st % 7) ∧ gTh g po wo2 (m2.2.1 51) ∧ gRo g.1.2 (gWf (gNx g po wo2)) (m2.2.1 52) (m2.2.1 53) := by
  have w1 := h.wo hw
  obtain ⟨m2, e2, f2, r2, th, ro⟩ := m_fillsWho w1
  obtain ⟨a1, a2, a3, a4, a5, a6, a7, a8⟩ := w1
  exact ⟨m2, e2, (msF.sI (by decide)).tr (f2.wk (by decide)), ⟨a1.mv f2 (by decide), a2.mv (by rw [r2]) (by rw [r2]), (f2.i 50 (by decide)).trans a3, a4, by rw [r2]; exact a5, by rw [r2]; exact a6, by rw [r2]; exact a7, a8⟩, th, ro⟩
theorem q_hangs {g : gT} {lv : Nat} {s : xs_S} {m : ms_S} {po : Option (Nat × Nat)} {st : Nat} (hx : XC g po st s) (hm : MN g lv m po st) : gQ g po st s m (xf_11_hangs s) (mf_hangs m) := by
  have hst := hx.2.2.2
  have hst1 := hst.1
  have hn := hx.1.1.2.1
  refine gQ_of (P := fun a => a = nI (gBs (gHg g po st) g.1.2)) (fun a b h k => h.trans k.symm) ?_ ?_
  · unfold xf_11_hangs
    rw [hx.2.2.1]
    refine wO_bd (x_fore (wo := 0) hx hst (by omega)) ?_
    rintro ⟨a, t⟩ ⟨h1, h2, h3, q, h4, h5⟩
    have h3 : a = _ := h3
    subst h3
    refine wO_bd (Q := fun p => p.1 = nI (gBs (gHg g po st) g.1.2) ∧ xsF xQi xQa s p.2 ∧ XC g po st p.2) ?_ (fun p hp => wO_some hp)
    refine wO_count (fun (i : Nat) (p : Int32 × Int32 × xs_S) => p.1 = nI (gBs (gHg g po st) i) ∧ p.2.1 = nI i ∧ xsF xQi xQa s p.2.2 ∧ XC g po st p.2.2) g.1.2 ?_ ?_ _ ⟨rfl, rfl, h1, h2⟩
    · rintro i ⟨w2, w3, u⟩ hi ⟨e2, e3, hF, hC⟩
      have e2 : w2 = nI (gBs (gHg g po st) i) := e2
      have e3 : w3 = nI i := e3
      subst e2 e3
      have hC : XC g po st u := hC
      unfold xf_11_hangs_l12
      refine wO_neg (show ¬ u.1 148 ≤ nI i by rw [hC.1.1.2.2.2.1]; exact nI_ge hi (by omega)) ?_
      rw [hC.2.2.1]
      have hcall := x_fore (wo := 2 ^ i) hC hst (pu_2p i (by omega))
      rw [← pu_sh i (by omega)] at hcall
      refine wO_bd hcall ?_
      rintro ⟨b, v⟩ ⟨k1, k2, k3, k4⟩
      have k3 : b = _ := k3
      subst k3
      have l1 := gWn_lt (gWf_k (nx := gNx g po (2 ^ i)) (st := st))
      have l2 := gWn_lt (gWf_k (nx := gNx g po 0) (st := st))
      obtain ⟨st1, st2⟩ := gHg_step (B := gHg g po st) (i := i) (by omega)
      unfold xf_11_hangs_j34
      by_cases he : gWn (gWf (gNx g po (2 ^ i)) st) = gWn (gWf (gNx g po 0) st)
      · refine wO_pos (by rw [he]) (wO_some ⟨st2 ?_, nI_1 i, hF.tr k1, k2⟩)
        exact decide_eq_false (fun c => c he)
      · refine wO_neg (fun e => he ((nI_eq (by omega) (by omega)).mp e)) (wO_some ⟨st1 ?_, nI_1 i, hF.tr k1, k2⟩)
        exact decide_eq_true he
    · rintro ⟨w2, w3, u⟩ ⟨e2, e3, hF, hC⟩
      have e3 : w3 = nI g.1.2 := e3
      subst e3
      have hC : XC g po st u := hC
      unfold xf_11_hangs_l12
      exact wO_pos (by rw [hC.1.1.2.2.2.1]; exact Int32.le_refl _) (wO_some ⟨e2, hF, hC⟩)
  · unfold mf_hangs
    obtain ⟨m1, m2, e1, e2, f, w, th, ro⟩ := m_who_now hm
    refine wO_eq e1 (wO_eq e2 (wO_eq (m_num w) ?_))
    refine wO_agv (k := st) rfl hst.1 (by omega) (gRo_win ro hst) ?_
    refine wO_bd (Q := fun p => p.1 = nI (gBs (gHg g po st) g.1.2) ∧ msF mQ m p.2) ?_ (fun p hp => wO_some hp)
    have hlv := hm.1.1
    refine wO_count (fun (i : Nat) (p : Int32 × Int32 × ms_S) => p.1 = nI (gBs (gHg g po st) i) ∧ p.2.1 = nI i ∧ msF mQ m p.2.2 ∧ ∃ wo, MW g lv p.2.2 po wo (st / 14) (st / 7 % 2) (st % 7)) g.1.2 ?_ ?_ _ ⟨rfl, rfl, f, 0, w⟩
    · rintro i ⟨w2, w3, u⟩ hi ⟨e2, e3, hF, wo, hW⟩
      have e2 : w2 = nI (gBs (gHg g po st) i) := e2
      have e3 : w3 = nI i := e3
      subst e2 e3
      have hW : MW g lv u po wo (st / 14) (st / 7 % 2) (st % 7) := hW
      unfold mf_hangs_l14
      refine wO_agv (k := lv) hW.1.2.1 (by omega) (by omega) hW.1.2.2.2.2.2.1 ?_
      refine wO_neg (nI_ge hi (by omega)) ?_
      obtain ⟨v, k1, k2, k3, k4, k5⟩ := m_who_wo hW (pu_2p i (by omega))
      rw [← pu_sh i (by omega)] at k1
      refine wO_eq k1 ?_
      refine wO_eq (m_num k3) ?_
      refine wO_agv (k := st) rfl hst.1 (by omega) (gRo_win k5 hst) ?_
      have l1 := gWn_lt (gWf_k (nx := gNx g po (2 ^ i)) (st := st))
      have l2 := gWn_lt (gWf_k (nx := gNx g po 0) (st := st))
      obtain ⟨st1, st2⟩ := gHg_step (B := gHg g po st) (i := i) (by omega)
      unfold mf_hangs_j41
      by_cases he : gWn (gWf (gNx g po (2 ^ i)) st) = gWn (gWf (gNx g po 0) st)
      · refine wO_pos (by rw [he]) (wO_some ⟨st2 ?_, nI_1 i, hF.tr k2, _, k3⟩)
        exact decide_eq_false (fun c => c he)
      · refine wO_neg (fun e => he ((nI_eq (by omega) (by omega)).mp e)) (wO_some ⟨st1 ?_, nI_1 i, hF.tr k2, _, k3⟩)
        exact decide_eq_true he
    · rintro ⟨w2, w3, u⟩ ⟨e2, e3, hF, wo, hW⟩
      have e3 : w3 = nI g.1.2 := e3
      subst e3
      have hW : MW g lv u po wo (st / 14) (st / 7 % 2) (st % 7) := hW
      unfold mf_hangs_l14
      refine wO_agv (k := lv) hW.1.2.1 (by omega) (by omega) hW.1.2.2.2.2.2.1 ?_
      exact wO_pos (Int32.le_refl _) (wO_some ⟨e2, hF⟩)
/-- an Int32 is a small number or none -/
theorem pu_small (a : Int32) (n : Nat) (hn : n ≤ 64) : (∃ k, k < n ∧ a = nI k) ∨ (a < 0 ∨ nI n ≤ a) := by
  by_cases h : a < 0
  · exact Or.inr (Or.inl h)
  · by_cases h2 : nI n ≤ a
    · exact Or.inr (Or.inr h2)
    · rw [Int32.lt_iff_toInt_lt] at h
      have h0 : (0 : Int32).toInt = 0 := rfl
      rw [h0] at h
      rw [Int32.le_iff_toInt_le, nI_toInt (by omega)] at h2
      refine Or.inl ⟨a.toInt.toNat, ?_, ?_⟩
      · omega
      · apply Int32.toInt.inj
        rw [nI_toInt (by omega)]
        omega
theorem x_hasWord_no {s : xs_S} {n : Nat} {a : Int32} (h : s.1 148 = nI n) (ha : a < 0 ∨ nI n ≤ a) : xf_7_hasWord_9 s a = some (0, s) := by
  unfold xf_7_hasWord_9
  rcases ha with k | k
  · rw [if_pos k]
  · by_cases h2 : a < 0
    · rw [if_pos h2]
    · rw [if_neg h2, h, if_pos k]
theorem x_hasSpeaker_no {s : xs_S} {n : Nat} {a : Int32} (h : s.1 147 = nI n) (ha : a < 0 ∨ nI n ≤ a) : xf_7_hasSpeaker_9 s a = some (0, s) := by
  unfold xf_7_hasSpeaker_9
  rcases ha with k | k
  · rw [if_pos k]
  · by_cases h2 : a < 0
    · rw [if_pos h2]
    · rw [if_neg h2, h, if_pos k]
theorem m_in_yes {k n : Nat} (h : k < n) (hn : n ≤ 64) : mf_in (nI k) 0 (nI n - 1) = some 1 := by
  unfold mf_in
  rw [if_neg (pu_nn (by omega)), show nI n - (1 : Int32) = nI (n - 1) from pu_sub (b := 1) (by omega), if_neg (nI_nlt (by omega) (by omega))]
theorem m_in_no {n : Nat} {a : Int32} (hn : n ≤ 64) (ha : a < 0 ∨ nI n ≤ a) : mf_in a 0 (nI n - 1) = some 0 := by
  unfold mf_in
  rcases ha with k | k
  · rw [if_pos k]
  · by_cases h2 : a < 0
    · rw [if_pos h2]
    · rw [if_neg h2, if_pos]
      have hs : (nI n - (1 : Int32)).toInt = (n : Int) - 1 := by
        rw [Int32.toInt_sub, nI_toInt (by omega)]
        show ((n : Int) - 1).bmod _ = _
        exact Int.bmod_eq_of_le (by omega) (by omega)
      rw [Int32.lt_iff_toInt_lt, hs]
      rw [Int32.le_iff_toInt_le, nI_toInt (by omega)] at k
      omega
theorem m_isWord_yes {g : gT} {lv k : Nat} {m : ms_S} (h : MT g lv m) (hk : k < g.1.2) : mf_isWord m (nI k) = some (1, m) := by
  have hlv := h.1
  have hn := h.2.2.2.1
  refine wO_iff.mp ?_
  unfold mf_isWord
  refine wO_agv (k := lv) h.2.1 (by omega) (by omega) h.2.2.2.2.2.1 ?_
  refine wO_eq (m_in_yes hk (by omega)) ?_
  exact wO_pos (by decide) (wO_some rfl)
theorem m_isWord_no {g : gT} {lv : Nat} {m : ms_S} {a : Int32} (h : MT g lv m) (ha : a < 0 ∨ nI g.1.2 ≤ a) : mf_isWord m a = some (0, m) := by
  have hlv := h.1
  have hn := h.2.2.2.1
  refine wO_iff.mp ?_
  unfold mf_isWord
  refine wO_agv (k := lv) h.2.1 (by omega) (by omega) h.2.2.2.2.2.1 ?_
  refine wO_eq (m_in_no (by omega) ha) ?_
  exact wO_pos (by decide) (wO_some rfl)
theorem m_isSpeaker_yes {g : gT} {lv k : Nat} {m : ms_S} (h : MT g lv m) (hk : k < g.1.1) : mf_isSpeaker m (nI k) = some (1, m) := by
  have hlv := h.1
  have hn := h.2.2.1
  refine wO_iff.mp ?_
  unfold mf_isSpeaker
  refine wO_agv (k := lv) h.2.1 (by omega) (by omega) h.2.2.2.2.1 ?_
  refine wO_eq (m_in_yes hk (by omega)) ?_
  exact wO_pos (by decide) (wO_some rfl)
theorem m_isSpeaker_no {g : gT} {lv : Nat} {m : ms_S} {a : Int32} (h : MT g lv m) (ha : a < 0 ∨ nI g.1.1 ≤ a) : mf_isSpeaker m a = some (0, m) := by
  have hlv := h.1
  have hn := h.2.2.1
  refine wO_iff.mp ?_
  unfold mf_isSpeaker
  refine wO_agv (k := lv) h.2.1 (by omega) (by omega) h.2.2.2.2.1 ?_
  refine wO_eq (m_in_no (by omega) ha) ?_
  exact wO_pos (by decide) (wO_some rfl)
theorem gNx_can {g : gT} {po : Option (Nat × Nat)} {wo st w : Nat} (hn : g.1.2 ≤ 6) (hw : w < g.1.2) : (gNx g po wo st w).isSome = gCan g po wo (st / 14) (st / 7 % 2) (st % 7) w := by
  unfold gNx
  cases po with
  | none => rfl
  | some p =>
    simp only
    rw [if_pos (by omega), decide_eq_true hw, Bool.true_and]
    cases gCan g (some p) wo (st / 14) (st / 7 % 2) (st % 7) w <;> rfl
theorem x_opens {g : gT} {po : Option (Nat × Nat)} {s : xs_S} {st st2 : Nat} (h : XC g po st s) (hs : gSt g.1.2 st2) : wO (xf_1_open s (nI (gph st2))) (fun t => xsF xQi xQa s t ∧ XC g po st t ∧ gOp g po (t.2.1 118) (t.2.1 119) st2) := by
  have hn := h.1.1.2.1
  refine wO_mono (x_open h.1 hs) ?_
  rintro t ⟨f, c, o, mo⟩
  have f2 : xsF xQi xQa s t := f.wk (by decide) (by decide)
  refine ⟨f2, ⟨h.1.mv f (by decide) (by decide) c, ?_, (f2.1 400 (by decide)).trans h.2.2.1, h.2.2.2⟩, o⟩
  unfold gFs gLy
  rw [f.1 2024 (by decide), f.1 2023 (by decide), f.1 1875 (by decide)]
  refine ⟨h.2.1.1, ?_⟩
  rcases h.2.1.2 with k | k | ⟨wo, q, k1, k2, k3, k4, k5, k6, k7⟩
  · exact Or.inl k
  · exact Or.inr (Or.inl k)
  · refine Or.inr (Or.inr ⟨wo, q, k1, (f.1 2022 (by decide)).trans k2, k3, k4, ?_, fun x hx => ?_, ?_⟩)
    · rw [f.2.1 127 (by decide), f.2.1 128 (by decide), f.1 2018 (by decide)]; exact k5
    · rcases c x (k3.2 x hx).1 with e | e
      · exact absurd e (mo _ (gOp_n1 hn (k6 x hx)))
      · exact e
    · rw [f.2.1 129 (by decide), f.2.1 130 (by decide)]; exact k7
theorem q_scale {g : gT} {lv : Nat} {s : xs_S} {m : ms_S} {po : Option (Nat × Nat)} {st : Nat} (a : Int32) (hx : XC g po st s) (hm : MN g lv m po st) : gQ g po st s m (xf_11_scale s a) (mf_scale m a) := by
  have hst := hx.2.2.2
  have hst1 := hst.1
  have hn := hx.1.1.2.1
  have h148 := hx.1.1.2.2.2.1
  rcases pu_small a g.1.2 (by omega) with ⟨w, hw, rfl⟩ | hno
  · refine gQ_of (P := fun a => a = match gNx g po 0 st w with
      | none => -2
      | some u => nI (gWn (gWf (gNx g po 0) u))) (fun a b h k => h.trans k.symm) ?_ ?_
    · unfold xf_11_scale
      refine wO_eq (x_hasWord h148 hn (by omega)) ?_
      rw [decide_eq_true hw]
      refine wO_neg pu_10 ?_
      rw [hx.2.2.1]
      refine wO_bd (x_opens hx hst) ?_
      rintro t ⟨f1, c1, o1⟩
      rw [c1.2.2.1]
      refine wO_eq (x_after (wo := 0) hn hst o1 (by omega) (by omega)) ?_
      cases hu : gNx g po 0 st w with
      | none => exact wO_pos rfl (wO_some ⟨rfl, f1, c1⟩)
      | some u =>
        have hsu := gNx_ok hn hst1 hu
        have hgu := gph_lt hsu.1
        refine wO_neg (show ¬ nI (gph u) = -1 from pu_n1 (by omega)) ?_
        refine wO_bd (x_fore (wo := 0) c1 hsu (by omega)) ?_
        rintro ⟨b, v⟩ ⟨k1, k2, k3, k4⟩
        exact wO_some ⟨k3, f1.tr k1, k2⟩
    · unfold mf_scale
      refine wO_eq (m_isWord_yes hm.1 hw) ?_
      refine wO_neg pu_10 ?_
      refine wO_bd (m_copies hm) ?_
      rintro m1 ⟨f1, r1, l1, w1⟩
      refine wO_bd (m_canSay w1 hw) ?_
      rintro ⟨b, m2⟩ ⟨k1, k2⟩
      have k1 : b = _ := k1
      subst k1
      have hcan := gNx_can (po := po) (wo := 0) (st := st) hn hw
      have f12 : msF mQ m m2 := (f1.wk (by decide)).tr (k2.wk (by decide))
      cases hu : gNx g po 0 st w with
      | none =>
        rw [hu] at hcan
        rw [← hcan]
        exact wO_pos rfl (wO_some ⟨rfl, f12⟩)
      | some u =>
        rw [hu] at hcan
        rw [← hcan]
        refine wO_neg pu_10 ?_
        have w2 := w1.mv k2
        obtain ⟨m3, e3, f3, r3, th, ro⟩ := m_fillsWho w2
        refine wO_eq e3 ?_
        have num : mf_numberNow m3 = some (nI st, m3) := by
          rw [m_number (sl := st / 14) (tu := st / 7 % 2) (la := st % 7) (by rw [r3]; exact w2.2.2.2.2.1) (by rw [r3]; exact w2.2.2.2.2.2.1) (by rw [r3]; exact w2.2.2.2.2.2.2.1)]
          congr 3
          omega
        refine wO_eq num ?_
        have hsu := gNx_ok hn hst1 hu
        have ei : (7 : Int32) * nI st + nI w = nI (7 * st + w) := (congrArg (· + nI w) (pu_mul 7 st)).trans (nI_add _ _)
        refine wO_agv (k := 7 * st + w) (v := nI u) ei (by omega) (by omega) (by rw [th st hst w (by omega), hu]; rfl) ?_
        refine wO_agv (k := u) rfl hsu.1 (by omega) (gRo_win ro hsu) ?_
        exact wO_some ⟨rfl, f12.tr (f3.wk (by decide))⟩
  · refine gQ_of (P := fun a => a = -1) (fun a b h k => h.trans k.symm) ?_ ?_
    · unfold xf_11_scale
      refine wO_eq (x_hasWord_no h148 hno) ?_
      exact wO_pos rfl (wO_some ⟨rfl, xsF.rf, hx⟩)
    · unfold mf_scale
      refine wO_eq (m_isWord_no hm.1 hno) ?_
      exact wO_pos rfl (wO_some ⟨rfl, msF.rf⟩)
