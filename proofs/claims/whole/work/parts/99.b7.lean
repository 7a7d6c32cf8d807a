/-! minutes, slopeIn, year -/
theorem m_goesN {g : gT} {lv : Nat} {m : ms_S} {po : Option (Nat × Nat)} {st n : Nat} (hs : gSt g.1.2 st) (h : MW g lv m po 0 (st / 14) (st / 7 % 2) (st % 7)) (hn : n ≤ 200) : wO (mf_goes m (nI n)) (fun t => msF gKr m t ∧ t.2.1 48 0 = nI (gMg g po (m.1 49) (m.2.1 48 5) st n / 14) ∧ t.2.1 48 1 = nI (gMg g po (m.1 49) (m.2.1 48 5) st n / 7 % 2) ∧ t.2.1 48 2 = nI (gMg g po (m.1 49) (m.2.1 48 5) st n % 7) ∧ t.2.1 48 5 = m.2.1 48 5 + nI n ∧ ∀ j, 3 ≤ j → ¬ j = 5 → t.2.1 48 j = m.2.1 48 j) := by
  have hnw := h.1.2.2.2.1
  have hok := gMg_ok (po := po) (sd := m.1 49) (mi := m.2.1 48 5) hnw hs
  unfold mf_goes
  refine wO_bd (Q := fun t => msF gKr m t ∧ t.2.1 48 0 = nI (gMg g po (m.1 49) (m.2.1 48 5) st n / 14) ∧ t.2.1 48 1 = nI (gMg g po (m.1 49) (m.2.1 48 5) st n / 7 % 2) ∧ t.2.1 48 2 = nI (gMg g po (m.1 49) (m.2.1 48 5) st n % 7) ∧ t.2.1 48 5 = m.2.1 48 5 + nI n ∧ ∀ j, 3 ≤ j → ¬ j = 5 → t.2.1 48 j = m.2.1 48 j) ?_ (fun t ht => wO_some ht)
  refine wO_count (fun (i : Nat) (p : Int32 × ms_S) => p.1 = nI i ∧ msF gKr m p.2 ∧ p.2.2.1 48 0 = nI (gMg g po (m.1 49) (m.2.1 48 5) st i / 14) ∧ p.2.2.1 48 1 = nI (gMg g po (m.1 49) (m.2.1 48 5) st i / 7 % 2) ∧ p.2.2.1 48 2 = nI (gMg g po (m.1 49) (m.2.1 48 5) st i % 7) ∧ p.2.2.1 48 5 = m.2.1 48 5 + nI i ∧ ∀ j, 3 ≤ j → ¬ j = 5 → p.2.2.1 48 j = m.2.1 48 j) n ?_ ?_ _ ⟨rfl, msF.rf, h.2.2.2.2.1, h.2.2.2.2.2.1, h.2.2.2.2.2.2.1, (Int32.add_zero _).symm, fun _ _ _ => rfl⟩
  · rintro i ⟨w, u⟩ hi ⟨e, hF, h0, h1, h2, h5, h3⟩
    have e : w = nI i := e
    subst e
    have hF : msF gKr m u := hF
    have h0 : u.2.1 48 0 = nI (gMg g po (m.1 49) (m.2.1 48 5) st i / 14) := h0
    have h1 : u.2.1 48 1 = nI (gMg g po (m.1 49) (m.2.1 48 5) st i / 7 % 2) := h1
    have h2 : u.2.1 48 2 = nI (gMg g po (m.1 49) (m.2.1 48 5) st i % 7) := h2
    have h5 : u.2.1 48 5 = m.2.1 48 5 + nI i := h5
    have h3 : ∀ j, 3 ≤ j → ¬ j = 5 → u.2.1 48 j = m.2.1 48 j := h3
    have hsi := hok i
    have hsl := hsi.1
    have hW : MW g lv u po 0 (gMg g po (m.1 49) (m.2.1 48 5) st i / 14) (gMg g po (m.1 49) (m.2.1 48 5) st i / 7 % 2) (gMg g po (m.1 49) (m.2.1 48 5) st i % 7) := by
      refine ⟨h.1.mv hF (by decide), h.2.1.mv (h3 3 (by omega) (by omega)) (h3 4 (by omega) (by omega)), (hF.i 50 (by decide)).trans h.2.2.1, by omega, h0, h1, h2, by omega, by omega, ?_⟩
      exact hsi.2
    unfold mf_goes_l2
    refine wO_neg (nI_ge hi (by omega)) (wO_bd (m_minute hsl hW) ?_)
    rintro t ⟨f, r⟩
    rw [hF.i 49 (by decide), h5] at r
    refine wO_some ⟨nI_1 i, hF.tr f, ?_, ?_, ?_, ?_, fun j h6 h7 => ?_⟩
    · show t.2.1 48 0 = _
      rw [r]; rfl
    · show t.2.1 48 1 = _
      rw [r]; rfl
    · show t.2.1 48 2 = _
      rw [r]; rfl
    · show t.2.1 48 5 = _
      rw [r, upd_eq, Int32.add_assoc, nI_1]
    · show t.2.1 48 j = _
      rw [r, upd_ne h7, gRw_ge j h6]
      exact h3 j h6 h7
  · rintro ⟨w, u⟩ ⟨e, hr⟩
    have e : w = nI n := e
    subst e
    unfold mf_goes_l2
    exact wO_pos (Int32.le_refl _) (wO_some hr)
theorem pu_range (a : Int32) (n : Nat) (hn : n < 2 ^ 31) : (∃ k, k ≤ n ∧ a = nI k) ∨ a < 0 ∨ (¬ a < 0 ∧ nI n < a) := by
  by_cases h : a < 0
  · exact Or.inr (Or.inl h)
  · obtain ⟨k, hk, rfl⟩ := nI_of h
    by_cases h2 : k ≤ n
    · exact Or.inl ⟨k, h2, rfl⟩
    · exact Or.inr (Or.inr ⟨h, nI_lt (by omega) hk⟩)
theorem m_long_yes {k : Nat} (h : k ≤ 200) : mf_isLong (nI k) = some 1 := by
  unfold mf_isLong mf_in
  rw [if_neg (pu_nn (by omega)), if_neg (show ¬ (200 : Int32) < nI k from nI_nlt (a := 200) h (by omega))]
  rfl
theorem m_long_no {a : Int32} (h : a < 0 ∨ (¬ a < 0 ∧ nI 200 < a)) : mf_isLong a = some 0 := by
  unfold mf_isLong mf_in
  rcases h with h | ⟨h, h2⟩
  · rw [if_pos h]; rfl
  · rw [if_neg h, if_pos (show (200 : Int32) < a from h2)]; rfl
theorem R_s10 : lw_s10 RR := fun n s m a h hn => by
  obtain ⟨g, lv, po, st, ti, h1, h2, h3⟩ := id h
  have hnw := h1.1.1.2.1
  have hs := h1.2.2.2
  have hG := h3.2.2.2.2.1
  obtain ⟨g1, g2, g3, g4, g5, g6, g7, g8, g9, g10⟩ := id hG
  have g8 : s.1 403 = m.2.1 47 5 := g8
  rcases pu_range a 200 (by omega) with ⟨k, hk, rfl⟩ | ha
  · have xhead : ∀ P, (k = 0 → wO (some (s.1 403, s)) P) → (¬ k = 0 → wO ((xf_5_keep_25 s).bind fun s_4 => ((xf_1_afterMinutes s_4 (s_4.1 400) (s_4.1 403) (s_4.1 152) (nI k)).bind fun (v_5, s_5) => some ((s_5.1 403 + nI k), (xs_sI (xs_sI s_5 400 v_5) 403 (s_5.1 403 + nI k))))) P) → wO (xf_11_minutes s (nI k)) P := fun P hy hno => by
      unfold xf_11_minutes
      refine wO_neg (pu_nn (by omega)) (wO_pos (show nI k ≤ (200 : Int32) from nI_le (b := 200) hk (by omega)) ?_)
      by_cases h0 : k = 0
      · exact wO_pos (by rw [h0]; exact Int32.le_refl _) (hy h0)
      · exact wO_neg (nI_nle (by omega) (by omega)) (hno h0)
    by_cases h0 : k = 0
    · refine ⟨s.1 403, s, m, wO_iff.mp (xhead _ (fun _ => wO_some rfl) (fun q => absurd h0 q)), wO_iff.mp ?_, R_up h⟩
      unfold mf_minutes
      refine wO_eq (m_long_yes hk) (wO_neg pu_10 (wO_pos (by rw [h0]; rfl) (wO_some ?_)))
      rw [g8]
    · obtain ⟨s1, e1, i1, a1, l1, k1⟩ := x_keep h3.2.2.2.2.2.1 hG
      have nI2 : ∀ j, j ∈ [147, 148, 193, 1873, 1874, 2018, 2022, 2023, 2024, 1875] → ¬ (433 ≤ j ∧ j < 1760) := by decide
      have nA2 : ∀ j, j ∈ [10, 11, 13, 14, 118, 119, 127, 128, 129, 130] → ¬ (30 ≤ j ∧ j < 111) := by decide
      obtain ⟨y1, y2⟩ := XC.pt (t := s1) h1 (fun j hj => i1 j (nI2 j hj)) (fun j hj => a1 j (nA2 j hj))
      have c1 : XC g po st s1 := ⟨y1, y2, (i1 400 (by omega)).trans h1.2.2.1, hs⟩
      obtain ⟨⟨v, s2⟩, e2, v2, f2, c2⟩ := x_afterMin (n := k) (sd := s1.1 152) (mi := s1.1 403) c1 hs hk
      have v2 : v = nI (gph (gMg g po (s1.1 152) (s1.1 403) st k)) := v2
      have f2 : xsF xQi xQa s1 s2 := f2
      have c2 : XC g po st s2 := c2
      have esd : s1.1 152 = m.2.1 30 lv := (i1 152 (by omega)).trans h3.2.2.1
      have emi : s1.1 403 = m.2.1 47 5 := (i1 403 (by omega)).trans g8
      rw [esd, emi] at v2
      have hu := gMg_ok (po := po) (sd := m.2.1 30 lv) (mi := m.2.1 47 5) hnw hs k
      generalize huu : gMg g po (m.2.1 30 lv) (m.2.1 47 5) st k = u at v2 hu
      subst v2
      obtain ⟨m1, em, fm, rm, lm, wm⟩ := m_copies h3.mn
      have fm2 : msF mqA m m1 := fm.wk (by decide)
      obtain ⟨m2, e3, f3, r0, r1, r2, r5, r3⟩ := m_goesN (n := k) hs wm hk
      rw [lm, rm 5 (by omega), huu] at r0 r1 r2
      rw [rm 5 (by omega)] at r5
      have ft : msF mqA m m2 := fm2.tr (f3.wk (by decide))
      obtain ⟨n1, e4, f4, d4, p4⟩ := k1 m2 (ft.i 54 (by decide)) (ft.a 55 (by decide)) (ft.a 47 (by decide))
      have f5 : msF mdA m n1 := (ft.wk (by decide)).tr (f4.wk (by decide))
      have e403 : s2.1 403 = m.2.1 47 5 := (f2.1 403 (by decide)).trans emi
      generalize ht : xs_sI (xs_sI s2 400 (nI (gph u))) 403 (s2.1 403 + nI k) = t
      have tI : ∀ j, ¬ j = 400 → ¬ j = 403 → t.1 j = s2.1 j := fun j h4 h5 => by rw [← ht]; exact (mm_up_ne h5).trans (mm_up_ne h4)
      have tA : ∀ j, t.2.1 j = s2.2.1 j := fun j => by rw [← ht]; rfl
      have t0 : t.1 400 = nI (gph u) := by rw [← ht]; rfl
      have t3 : t.1 403 = m.2.1 47 5 + nI k := by
        rw [← ht]
        show s2.1 403 + nI k = _
        rw [e403]
      have ti1 : ∀ j, ¬ j = 400 → ¬ j = 403 → ¬ (433 ≤ j ∧ j < 1760) → ¬ j ∈ xQi → t.1 j = s.1 j := fun j h4 h5 h6 h7 => (tI j h4 h5).trans ((f2.1 j h7).trans (i1 j h6))
      have ta1 : ∀ j, ¬ (30 ≤ j ∧ j < 111) → ¬ j ∈ xQa → t.2.1 j = s.2.1 j := fun j h4 h5 => (tA j).trans ((f2.2.1 j h5).trans (a1 j h4))
      have hGt : RG g po u t n1 := by
        refine ⟨hu, t0, ?_, (d4 0 (by omega)).trans r0, (d4 1 (by omega)).trans r1, (d4 2 (by omega)).trans r2, ?_, ?_, ?_, fun j hj => ?_⟩
        · show gAp po g.1.1 (t.1 401) (t.1 402)
          rw [ti1 401 (by omega) (by omega) (by omega) (by decide), ti1 402 (by omega) (by omega) (by omega) (by decide)]
          exact g3
        · rw [d4 3 (by omega), d4 4 (by omega), r3 3 (by omega) (by omega), r3 4 (by omega) (by omega), rm 3 (by omega), rm 4 (by omega)]
          exact g7
        · exact t3.trans ((d4 5 (by omega)).trans r5).symm
        · refine (ti1 404 (by omega) (by omega) (by omega) (by decide)).trans (Eq.trans g9 ?_)
          rw [d4 6 (by omega), r3 6 (by omega) (by omega), rm 6 (by omega)]
        · rw [ta1 26 (by omega) (by decide), d4 (7 + j) (by omega), r3 (7 + j) (by omega) (by omega), rm (7 + j) (by omega)]
          exact g10 j hj
      have hPt : RP g t n1 := p4.mv (fun j h4 h5 => (tI j (by omega) (by omega)).trans (f2.1 j (fun hq => by have := xQi_hi j hq; omega))) (fun j h4 h5 => (tA j).trans (f2.2.1 j (fun hq => by have := xQa_out j hq; omega))) rfl rfl
      have nI3 : ∀ j, j ∈ [147, 148, 193, 1873, 1874, 2018, 2022, 2023, 2024, 1875] → ¬ j = 400 ∧ ¬ j = 403 := by decide
      obtain ⟨z1, z2⟩ := XC.pt (t := t) c2 (fun j hj => tI j (nI3 j hj).1 (nI3 j hj).2) (fun j _ => tA j)
      refine ⟨m.2.1 47 5 + nI k, t, n1, wO_iff.mp (xhead _ (fun q => absurd q h0) (fun _ => ?_)), wO_iff.mp ?_, g, lv, po, u, ti, ⟨z1, z2, t0, hu⟩, (h2.fr (ti1 151 (by omega) (by omega) (by omega) (by decide)) (ti1 401 (by omega) (by omega) (by omega) (by decide)) (ti1 402 (by omega) (by omega) (by omega) (by decide)) (ta1 138 (by omega) (by decide)) (ti1 1875 (by omega) (by omega) (by omega) (by decide))).up (by omega), ?_⟩
      · refine wO_eq e1 ?_
        rw [c1.2.2.1]
        refine wO_eq e2 (wO_some ?_)
        rw [ht, e403]
      · unfold mf_minutes
        refine wO_eq (m_long_yes hk) (wO_neg pu_10 (wO_neg (fun e => h0 ((nI_eq (b := 0) (by omega) (by omega)).mp e)) (wO_eq em (wO_eq e3 (wO_eq e4 (wO_some ?_))))))
        rw [d4 5 (by omega), r5]
      · have nI4 : ∀ j, j ∈ [4, 17, 152, 1924] → ¬ j = 400 ∧ ¬ j = 403 ∧ ¬ (433 ≤ j ∧ j < 1760) ∧ ¬ j ∈ xQi := by decide
        have nA4 : ∀ j, j ∈ [2, 121, 122, 123] → ¬ (30 ≤ j ∧ j < 111) ∧ ¬ j ∈ xQa := by decide
        exact h3.dn (fun j hj => ti1 j (nI4 j hj).1 (nI4 j hj).2.1 (nI4 j hj).2.2.1 (nI4 j hj).2.2.2) (fun j h4 h5 => ti1 j (by omega) (by omega) (by omega) (fun hq => by have := xQi_hi j hq; omega)) (fun j hj => ta1 j (nA4 j hj).1 (nA4 j hj).2) (fun j h4 h5 => ta1 j (by omega) (fun hq => by have := xQa_out j hq; omega)) f5 hGt hPt
  · refine ⟨-1, s, m, wO_iff.mp ?_, wO_iff.mp ?_, R_up h⟩
    · unfold xf_11_minutes
      rcases ha with ha | ⟨ha, hb⟩
      · exact wO_pos ha (wO_some rfl)
      · exact wO_neg ha (wO_neg (Int32.not_le.mpr hb) (wO_some rfl))
    · unfold mf_minutes
      exact wO_eq (m_long_no ha) (wO_pos rfl (wO_some rfl))
theorem R_s27 : lw_s27 RR := fun n s m a h hn => by
  obtain ⟨g, lv, po, st, ti, h1, h2, h3⟩ := id h
  have hnw := h1.1.1.2.1
  have hs := h1.2.2.2
  have g8 : s.1 403 = m.2.1 47 5 := h3.2.2.2.2.1.2.2.2.2.2.2.2.1
  rcases pu_range a 200 (by omega) with ⟨k, hk, rfl⟩ | ha
  · obtain ⟨⟨v, s2⟩, e2, v2, f2, c2⟩ := x_afterMin (n := k) (sd := s.1 152) (mi := s.1 403) h1 hs hk
    have v2 : v = nI (gph (gMg g po (s.1 152) (s.1 403) st k)) := v2
    rw [h3.2.2.1, g8] at v2
    have hu := gMg_ok (po := po) (sd := m.2.1 30 lv) (mi := m.2.1 47 5) hnw hs k
    obtain ⟨m1, em, fm, rm, lm, wm⟩ := m_copies h3.mn
    have fm2 : msF mqA m m1 := fm.wk (by decide)
    obtain ⟨m2, e3, f3, r0, -⟩ := m_goesN (n := k) hs wm hk
    rw [lm, rm 5 (by omega)] at r0
    subst v2
    refine ⟨nI (gMg g po (m.2.1 30 lv) (m.2.1 47 5) st k / 14), s2, m2, wO_iff.mp ?_, wO_iff.mp ?_, RR_st h2 h3 c2 f2 (fm2.tr (f3.wk (by decide)))⟩
    · unfold xf_11_slopeIn
      refine wO_neg (pu_nn (by omega)) (wO_pos (show nI k ≤ (200 : Int32) from nI_le (b := 200) hk (by omega)) ?_)
      rw [h1.2.2.1]
      exact wO_eq e2 (wO_eq (x_slope hu.1) (wO_some rfl))
    · unfold mf_slopeIn
      refine wO_eq (m_long_yes hk) (wO_neg pu_10 (wO_eq em (wO_eq e3 (wO_some ?_))))
      rw [r0]
  · refine ⟨-1, s, m, wO_iff.mp ?_, wO_iff.mp ?_, R_up h⟩
    · unfold xf_11_slopeIn
      rcases ha with ha | ⟨ha, hb⟩
      · exact wO_pos ha (wO_some rfl)
      · exact wO_neg ha (wO_neg (Int32.not_le.mpr hb) (wO_some rfl))
    · unfold mf_slopeIn
      exact wO_eq (m_long_no ha) (wO_pos rfl (wO_some rfl))
noncomputable def gYr (g : gT) (po : Option (Nat × Nat)) (sd mi : Int32) (st n : Nat) : Nat → Nat
  | 0 => 0
  | i + 1 => gYr g po sd mi st n i + (bif decide (0 < gMg g po (sd + nI i) mi st n / 14) && decide (gMg g po (sd + nI i) mi st n / 14 < 20) then 0 else 1)
theorem R_s28 : lw_s28 RR := fun n s m a c h hn => by
  obtain ⟨g, lv, po, st, ti, h1, h2, h3⟩ := id h
  have hnw := h1.1.1.2.1
  have hs := h1.2.2.2
  have g8 : s.1 403 = m.2.1 47 5 := h3.2.2.2.2.1.2.2.2.2.2.2.2.1
  rcases pu_range a 200 (by omega) with ⟨k, hk, rfl⟩ | ha
  · have xh : ∀ P, wO (if c < (1 : Int32) then some ((-1 : Int32), s) else (if c ≤ (20 : Int32) then ((mo_loop (xf_11_year_l17 (nI k) c) ((0 : Int32), (0 : Int32), s)).bind fun (e3_9, s_9) => some (e3_9, s_9)) else some ((-1 : Int32), s))) P → wO (xf_11_year s (nI k) c) P := fun P hP => by
      unfold xf_11_year
      exact wO_neg (pu_nn (by omega)) (wO_neg (show ¬ (200 : Int32) < nI k from nI_nlt (a := 200) hk (by omega)) hP)
    have no : (c < 1 ∨ (¬ c < 1 ∧ (20 : Int32) < c)) → gAns n (xf_11_year s (nI k) c) (mf_year m (nI k) c) := fun hc => by
      refine ⟨-1, s, m, wO_iff.mp (xh _ ?_), wO_iff.mp ?_, R_up h⟩
      · rcases hc with hc | ⟨hc, hd⟩
        · exact wO_pos hc (wO_some rfl)
        · exact wO_neg hc (wO_neg (Int32.not_le.mpr hd) (wO_some rfl))
      · unfold mf_year
        refine wO_eq (m_long_yes hk) (wO_neg pu_10 (wO_eq (x := 0) ?_ (wO_pos rfl (wO_some rfl))))
        unfold mf_in
        rcases hc with hc | ⟨hc, hd⟩
        · rw [if_pos hc]
        · rw [if_neg hc, if_pos hd]
    by_cases c1 : c < 1
    · exact no (Or.inl c1)
    · by_cases c2 : (20 : Int32) < c
      · exact no (Or.inr ⟨c1, c2⟩)
      · obtain ⟨q, hq, rfl⟩ := nI_of (x := c) (fun e => c1 (Int32.lt_of_lt_of_le e (by decide)))
        have hq20 : q ≤ 20 := by
          by_cases h7 : q ≤ 20
          · exact h7
          · exact absurd (nI_lt (a := 20) (by omega) hq) c2
        have hx : wO (mo_loop (xf_11_year_l17 (nI k) (nI q)) ((0 : Int32), (0 : Int32), s)) (fun p => p.1 = nI (gYr g po (m.2.1 30 lv) (m.2.1 47 5) st k q) ∧ xsF xQi xQa s p.2 ∧ XC g po st p.2) := by
          refine wO_count (fun (i : Nat) (p : Int32 × Int32 × xs_S) => p.1 = nI (gYr g po (m.2.1 30 lv) (m.2.1 47 5) st k i) ∧ p.2.1 = nI i ∧ xsF xQi xQa s p.2.2 ∧ XC g po st p.2.2) q ?_ ?_ _ ⟨rfl, rfl, xsF.rf, h1⟩
          · rintro i ⟨w3, w4, u⟩ hi ⟨e1, e2, hF, hC⟩
            have e1 : w3 = nI (gYr g po (m.2.1 30 lv) (m.2.1 47 5) st k i) := e1
            have e2 : w4 = nI i := e2
            subst e1 e2
            have hF : xsF xQi xQa s u := hF
            have hC : XC g po st u := hC
            have q1 : u.1 403 = m.2.1 47 5 := (hF.1 403 (by decide)).trans g8
            have q2 : u.1 152 = m.2.1 30 lv := (hF.1 152 (by decide)).trans h3.2.2.1
            unfold xf_11_year_l17 xf_11_year_j38
            refine wO_neg (nI_ge hi (by omega)) ?_
            rw [hC.2.2.1, q1, q2]
            refine wO_bd (x_afterMin hC hs hk) ?_
            rintro ⟨v, u2⟩ ⟨e3, f3, c3⟩
            have e3 : v = nI (gph (gMg g po (m.2.1 30 lv + nI i) (m.2.1 47 5) st k)) := e3
            have f3 : xsF xQi xQa u u2 := f3
            have c3 : XC g po st u2 := c3
            subst e3
            have hu := gMg_ok (po := po) (sd := m.2.1 30 lv + nI i) (mi := m.2.1 47 5) hnw hs k
            refine wO_eq (x_awake hu.1) ?_
            cases hb : (decide (0 < gMg g po (m.2.1 30 lv + nI i) (m.2.1 47 5) st k / 14) && decide (gMg g po (m.2.1 30 lv + nI i) (m.2.1 47 5) st k / 14 < 20)) with
            | true =>
              refine wO_pos rfl (wO_some ⟨?_, nI_1 i, hF.tr f3, c3⟩)
              show _ = nI (gYr g po (m.2.1 30 lv) (m.2.1 47 5) st k i + _)
              rw [hb]; rfl
            | false =>
              refine wO_neg pu_10 (wO_some ⟨?_, nI_1 i, hF.tr f3, c3⟩)
              show _ = nI (gYr g po (m.2.1 30 lv) (m.2.1 47 5) st k i + _)
              rw [hb]
              exact nI_1 _
          · rintro ⟨w3, w4, u⟩ ⟨e1, e2, hF, hC⟩
            have e2 : w4 = nI q := e2
            subst e2
            unfold xf_11_year_l17
            exact wO_pos (Int32.le_refl _) (wO_some ⟨e1, hF, hC⟩)
        have hm : wO (mo_loop (mf_year_l14 (nI k) (nI q)) ((0 : Int32), (0 : Int32), m)) (fun p => p.1 = nI (gYr g po (m.2.1 30 lv) (m.2.1 47 5) st k q) ∧ msF mqA m p.2) := by
          refine wO_count (fun (i : Nat) (p : Int32 × Int32 × ms_S) => p.1 = nI (gYr g po (m.2.1 30 lv) (m.2.1 47 5) st k i) ∧ p.2.1 = nI i ∧ msF mqA m p.2.2) q ?_ ?_ _ ⟨rfl, rfl, msF.rf⟩
          · rintro i ⟨w3, w4, u⟩ hi ⟨e1, e2, hF⟩
            have e1 : w3 = nI (gYr g po (m.2.1 30 lv) (m.2.1 47 5) st k i) := e1
            have e2 : w4 = nI i := e2
            subst e1 e2
            have hF : msF mqA m u := hF
            have hMN : MN g lv u po st := h3.mn.mv hF (by decide) (by decide)
            unfold mf_year_l14 mf_year_j32
            refine wO_neg (nI_ge hi (by omega)) (wO_bd (m_copies hMN) ?_)
            rintro u1 ⟨f1, r1, l1, w1⟩
            have f2 : msF [49] u1 (ms_sI u1 49 (u1.1 49 + nI i)) := msF.sI (by decide)
            have w2 : MW g lv (ms_sI u1 49 (u1.1 49 + nI i)) po 0 (st / 14) (st / 7 % 2) (st % 7) := by
              obtain ⟨x1, x2, x3, x4, x5⟩ := w1
              exact ⟨x1.mv f2 (by decide), x2, x3, x4, x5⟩
            refine wO_bd (m_goesN hs w2 hk) ?_
            rintro u2 ⟨f3, r0, -⟩
            have el : (ms_sI u1 49 (u1.1 49 + nI i)).1 49 = m.2.1 30 lv + nI i := by
              show u1.1 49 + nI i = _
              rw [l1, hF.a 30 (by decide)]
            have er : (ms_sI u1 49 (u1.1 49 + nI i)).2.1 48 5 = m.2.1 47 5 := by
              show u1.2.1 48 5 = _
              rw [r1 5 (by omega), hF.a 47 (by decide)]
            rw [el, er] at r0
            have hu := gMg_ok (po := po) (sd := m.2.1 30 lv + nI i) (mi := m.2.1 47 5) hnw hs k
            have hsl := hu.1
            refine wO_eq (m_isAsleep r0 (by omega)) ?_
            have ft : msF mqA m u2 := hF.tr ((f1.wk (by decide)).tr ((f2.wk (by decide)).tr (f3.wk (by decide))))
            cases hb : (decide (0 < gMg g po (m.2.1 30 lv + nI i) (m.2.1 47 5) st k / 14) && decide (gMg g po (m.2.1 30 lv + nI i) (m.2.1 47 5) st k / 14 < 20)) with
            | true =>
              refine wO_neg pu_10 (wO_some ⟨?_, nI_1 i, ft⟩)
              show _ = nI (gYr g po (m.2.1 30 lv) (m.2.1 47 5) st k i + _)
              rw [hb]; rfl
            | false =>
              refine wO_pos rfl (wO_some ⟨?_, nI_1 i, ft⟩)
              show _ = nI (gYr g po (m.2.1 30 lv) (m.2.1 47 5) st k i + _)
              rw [hb]
              exact nI_1 _
          · rintro ⟨w3, w4, u⟩ ⟨e1, e2, hF⟩
            have e2 : w4 = nI q := e2
            subst e2
            unfold mf_year_l14
            exact wO_pos (Int32.le_refl _) (wO_some ⟨e1, hF⟩)
        obtain ⟨⟨v, s2⟩, e2, v2, f2, c3⟩ := hx
        have v2 : v = nI (gYr g po (m.2.1 30 lv) (m.2.1 47 5) st k q) := v2
        subst v2
        obtain ⟨⟨v, m2⟩, e4, v4, f4⟩ := hm
        have v4 : v = nI (gYr g po (m.2.1 30 lv) (m.2.1 47 5) st k q) := v4
        subst v4
        refine ⟨nI (gYr g po (m.2.1 30 lv) (m.2.1 47 5) st k q), s2, m2, wO_iff.mp (xh _ ?_), wO_iff.mp ?_, RR_st h2 h3 c3 f2 f4⟩
        · exact wO_neg c1 (wO_pos (Int32.not_lt.mp c2) (wO_eq e2 (wO_some rfl)))
        · unfold mf_year
          refine wO_eq (m_long_yes hk) (wO_neg pu_10 (wO_eq (x := 1) ?_ (wO_neg pu_10 (wO_eq e4 (wO_some rfl)))))
          unfold mf_in
          rw [if_neg c1, if_neg c2]
  · refine ⟨-1, s, m, wO_iff.mp ?_, wO_iff.mp ?_, R_up h⟩
    · unfold xf_11_year
      rcases ha with ha | ⟨ha, hb⟩
      · exact wO_pos ha (wO_some rfl)
      · exact wO_neg ha (wO_pos hb (wO_some rfl))
    · unfold mf_year
      exact wO_eq (m_long_no ha) (wO_pos rfl (wO_some rfl))
