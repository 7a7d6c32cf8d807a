/-! laying another pair -/
def gAp (po : Option (Nat × Nat)) (n : Nat) (a b : Int32) : Prop := match po with
  | none => a = -1 ∧ b = -1
  | some (l, r) => a = nI l ∧ b = nI r ∧ l < n ∧ r < n
theorem gAp_u {po po2 : Option (Nat × Nat)} {n : Nat} {a b : Int32} (hn : n ≤ 5) (h : gAp po n a b) (k : gAp po2 n a b) : po = po2 := by
  cases po with
  | none =>
    cases po2 with
    | none => rfl
    | some p => exact absurd (k.1.symm.trans h.1) (pu_n1 (by have := k.2.2.1; omega))
  | some p =>
    cases po2 with
    | none => exact absurd (h.1.symm.trans k.1) (pu_n1 (by have := h.2.2.1; omega))
    | some q =>
      obtain ⟨h1, h2, h3, h4⟩ := h
      obtain ⟨k1, k2, k3, k4⟩ := k
      have e1 : p.1 = q.1 := (nI_eq (by omega) (by omega)).mp (h1.symm.trans k1)
      have e2 : p.2 = q.2 := (nI_eq (by omega) (by omega)).mp (h2.symm.trans k2)
      have : p = q := Prod.ext e1 e2
      rw [this]
theorem gPX_ap {s : xs_S} {po : Option (Nat × Nat)} {n : Nat} : gPX s po n ↔ gAp po n (s.1 1873) (s.1 1874) := by
  cases po with
  | none => exact Iff.rfl
  | some p => exact Iff.rfl
theorem x_fill118 {s : xs_S} {v : Int32} : wO (xf_7_fill_53178_118 s v) (fun t => xsF [] [118] s t ∧ ∀ j, j < 294 → t.2.1 118 j = v) := by
  unfold xf_7_fill_53178_118
  refine wO_bd (Q := fun t => xsF [] [118] s t ∧ ∀ j, j < 294 → t.2.1 118 j = v) ?_ (fun t ht => wO_some ht)
  refine wO_count (fun (i : Nat) (q : Int32 × xs_S) => q.1 = nI i ∧ xsF [] [118] s q.2 ∧ ∀ j, j < i → q.2.2.1 118 j = v) 294 ?_ ?_ _ ⟨rfl, xsF.rf, fun j hj => absurd hj (by omega)⟩
  · rintro i ⟨w, u⟩ hi ⟨e, hF, hu⟩
    have e : w = nI i := e
    subst e
    unfold xf_7_fill_53178_118_l5
    refine wO_neg (show ¬ nI 294 ≤ nI i from nI_ge (b := 294) hi (by omega)) ?_
    refine wO_in (k := i) rfl (by omega) (by omega) ?_
    rw [nI_clamp (by omega)]
    refine wO_some ⟨nI_1 i, hF.tr (xsF.sA (by decide)), fun j hj => ?_⟩
    show upd (u.2.1 118) i v j = v
    by_cases he : j = i
    · subst he; exact upd_eq
    · rw [upd_ne he]; exact hu j (by omega)
  · rintro ⟨w, u⟩ ⟨e, hF, hu⟩
    have e : w = nI 294 := e
    subst e
    unfold xf_7_fill_53178_118_l5
    exact wO_pos (Int32.le_refl _) (wO_some ⟨hF, hu⟩)
def xKl : List Nat := [1873, 1874, 1875]
theorem x_lay_new {g : gT} {s : xs_S} {po2 : Option (Nat × Nat)} {a1 a2 : Int32} {b : Nat} (hT : XT g s) (hy : gLy s) (hb : s.1 1875 = nI b) (hb2 : b + 1 < 2 ^ 30) (ha : gAp po2 g.1.1 a1 a2) : wO (xf_1_lay_9_j12 s a1 a2) (fun t => xsF xKl [118] s t ∧ XG g t po2 ∧ gFs g po2 t ∧ ∃ b2, b2 ≤ b + 1 ∧ t.1 1875 = nI b2) := by
  unfold xf_1_lay_9_j12
  generalize hs0 : xs_sI (xs_sI (xs_sI s 1873 a1) 1874 a2) 1875 (s.1 1875 + 1) = s0
  have f0 : xsF xKl [118] s s0 := by
    rw [← hs0]
    exact (xsF.sI (by decide)).tr ((xsF.sI (by decide)).tr (xsF.sI (by decide)))
  have i0 : s0.1 1873 = a1 ∧ s0.1 1874 = a2 ∧ s0.1 1875 = nI (b + 1) := by
    rw [← hs0]
    refine ⟨rfl, rfl, ?_⟩
    show s.1 1875 + 1 = nI (b + 1)
    rw [hb]
    exact nI_1 b
  refine wO_bd x_fill118 ?_
  rintro t ⟨f1, d1⟩
  have ft : xsF xKl [118] s t := f0.tr (f1.wk (by decide) (by decide))
  have e75 : t.1 1875 = nI (b + 1) := (f1.1 1875 (by decide)).trans i0.2.2
  have e23 : t.1 2023 = s.1 2023 := ft.1 2023 (by decide)
  obtain ⟨x, y, y1, y2, y3, y4⟩ := hy
  have hxy : y = b := (nI_eq (by omega) (by omega)).mp (y2.symm.trans hb)
  refine wO_some ⟨ft, ⟨hT.mv ft (by decide) (by decide), ?_, fun st hst => Or.inl (d1 _ (gph_lt hst.1))⟩, ⟨⟨x, b + 1, e23.trans y1, e75, by omega, hb2⟩, Or.inr (Or.inl (fun e => ?_))⟩, b + 1, Nat.le_refl _, e75⟩
  · rw [gPX_ap, f1.1 1873 (by decide), f1.1 1874 (by decide), i0.1, i0.2.1]
    exact ha
  · rw [e23, y1, e75] at e
    exact absurd ((nI_eq (by omega) (by omega)).mp e) (by omega)
theorem x_lay {g : gT} {s : xs_S} {po po2 : Option (Nat × Nat)} {a1 a2 : Int32} {b : Nat} (h : XG g s po) (hf : gFs g po s) (hb : s.1 1875 = nI b) (hb2 : b + 1 < 2 ^ 30) (ha : gAp po2 g.1.1 a1 a2) : wO (xf_1_lay_9 s a1 a2) (fun t => xsF xKl [118] s t ∧ XG g t po2 ∧ gFs g po2 t ∧ ∃ b2, b2 ≤ b + 1 ∧ t.1 1875 = nI b2) := by
  have anew := x_lay_new h.1 hf.1 hb hb2 ha
  unfold xf_1_lay_9
  refine wO_ite (fun c => ?_) (fun c => anew)
  refine wO_ite (fun d => ?_) (fun d => anew)
  have hp := gPX_ap.mp h.2.1
  rw [c, d] at hp
  have e := gAp_u h.1.1 hp ha
  subst e
  exact wO_some ⟨xsF.rf, h, hf, b, by omega, hb⟩
/-! the reference: the pair set at the start -/
theorem m_calmOf {g : gT} {lv ti l r : Nat} {m : ms_S} {po : Option (Nat × Nat)} {st : Nat} (h : MN g lv m po st) (h29 : m.2.1 29 lv = nI ti) (hti : ti ≤ 20) (hl : l < g.1.1) (hr : r < g.1.1) : wO (mf_calmOf m (nI l) (nI r)) (fun p => p.1 = nI (gWn (gWf (gNx g (some (l, r)) 0) (14 * ti + 6))) ∧ msF mQ m p.2) := by
  have hlv := h.1.1
  unfold mf_calmOf
  refine wO_bd (m_copies h) ?_
  rintro m1 ⟨f1, r1, l1, w1⟩
  refine wO_bd (Q := fun t => msF [48] m1 t ∧ MW g lv t (some (l, r)) 0 ti 0 6) ?_ ?_
  · unfold mf_setsRow
    refine wO_agv (k := lv) (v := nI ti) w1.1.2.1 (by omega) (by omega) ?_ ?_
    · show m1.2.1 29 lv = nI ti
      rw [f1.a 29 (by decide)]
      exact h29
    · rw [ms_sA_sA]
      have hF : ∀ v, msF [48] m1 (ms_sA m1 48 v) := fun v => msF.sA (by decide)
      refine wO_some ⟨hF _, w1.1.mv (hF _) (by decide), ?_, w1.2.2.1, by omega, ?_, ?_, ?_, hti, by omega, Or.inr rfl⟩
      · exact ⟨rfl, rfl, hl, hr⟩
      · rfl
      · rfl
      · rfl
  · rintro m2 ⟨f2, w2⟩
    obtain ⟨m3, e3, f3, r3, th, ro⟩ := m_fillsWho w2
    refine wO_eq e3 ?_
    have num : mf_numberNow m3 = some (nI (14 * ti + 6), m3) := m_number (sl := ti) (tu := 0) (la := 6) (by rw [r3]; exact w2.2.2.2.2.1) (by rw [r3]; exact w2.2.2.2.2.2.1) (by rw [r3]; exact w2.2.2.2.2.2.2.1)
    refine wO_eq num ?_
    have hs0 : gSt g.1.2 (14 * ti + 6) := ⟨by omega, Or.inr (by omega)⟩
    exact wO_agv (k := 14 * ti + 6) rfl (by omega) (by omega) (gRo_win ro hs0) (wO_some ⟨rfl, (f1.wk (by decide)).tr ((f2.wk (by decide)).tr (f3.wk (by decide)))⟩)
