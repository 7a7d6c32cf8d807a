/-! question: even, both -/
def gEa (n : Nat) : Int32 := if n ≤ 98 then nI n else -2
theorem m_even {g : gT} {lv k : Nat} {m : ms_S} {po : Option (Nat × Nat)} {st : Nat} (hm : MN g lv m po st) (hk : k < 41) : wO (mf_even m (nI k)) (fun p => p.1 = gEa (gEv (gNx g po 0) k st) ∧ msF mQ m p.2) := by
  have hn := hm.1.2.2.2.1
  have hst := hm.2.1
  have hst1 := hst.1
  have hok : ∀ st w u, gSt g.1.2 st → w < 7 → gNx g po 0 st w = some u → gSt g.1.2 u := fun st w u hst _ hu => gNx_ok hn hst.1 hu
  unfold mf_even
  refine wO_eq (show mf_in (nI k) 0 40 = some 1 from m_in_yes (n := 41) hk (by omega)) ?_
  refine wO_neg pu_10 ?_
  refine wO_bd (m_copies hm) ?_
  rintro m1 ⟨f1, r1, l1, w1⟩
  refine wO_bd (m_fillsThen w1) ?_
  rintro m2 ⟨f2, r2, th⟩
  have w2 : MW g lv m2 po 0 (st / 14) (st / 7 % 2) (st % 7) := by
    obtain ⟨a1, a2, a3, a4, a5, a6, a7, a8⟩ := w1
    exact ⟨a1.mv f2 (by decide), a2.mv (by rw [r2]) (by rw [r2]), (f2.i 50 (by decide)).trans a3, a4, by rw [r2]; exact a5, by rw [r2]; exact a6, by rw [r2]; exact a7, a8⟩
  have f12 : msF mQ m m2 := (f1.wk (by decide)).tr (f2.wk (by decide))
  refine wO_bd (Q := fun t => msF [56, 57] m2 t ∧ gEw g.1.2 (gEv (gNx g po 0) k) (t.2.1 56)) ?_ ?_
  · unfold mf_evens
    refine wO_bd (Q := fun t => msF [56] m2 t ∧ gEw g.1.2 (gEv (gNx g po 0) 0) (t.2.1 56)) ?_ ?_
    · refine wO_count (fun (i : Nat) (p : Int32 × ms_S) => p.1 = nI i ∧ msF [56] m2 p.2 ∧ ∀ j, j < i → p.2.2.1 56 j = nI (gEv (gNx g po 0) 0 j)) 294 ?_ ?_ _ ⟨rfl, msF.rf, fun j hj => absurd hj (by omega)⟩
      · rintro i ⟨w, u⟩ hi ⟨e, hF, hu⟩
        have e : w = nI i := e
        subst e
        unfold mf_evens_l2
        refine wO_neg (show ¬ (294 : Int32) ≤ nI i from nI_ge (b := 294) hi (by omega)) ?_
        refine wO_eq (m_isCalm hi) ?_
        have key : ∀ k0 : Int32, k0 = nI (gEv (gNx g po 0) 0 i) → wO (mf_evens_j18 u (nI k) (nI i) k0 (nI i)) (mo_sum (fun p => p.1 = nI (i + 1) ∧ msF [56] m2 p.2 ∧ ∀ j, j < i + 1 → p.2.2.1 56 j = nI (gEv (gNx g po 0) 0 j)) (fun t => msF [56] m2 t ∧ gEw g.1.2 (gEv (gNx g po 0) 0) (t.2.1 56))) := by
          intro k0 hk
          unfold mf_evens_j18
          refine wO_in (k := i) rfl (by omega) (by omega) ?_
          rw [nI_clamp (by omega)]
          refine wO_some ⟨nI_1 i, hF.tr (msF.sA (by decide)), fun j hj => ?_⟩
          show upd (u.2.1 56) i k0 j = _
          by_cases he : j = i
          · subst he; rw [upd_eq]; exact hk
          · rw [upd_ne he]; exact hu j (by omega)
        cases hc : gCm i with
        | false => exact wO_pos rfl (key 1000 (by simp only [gEv, hc, cond_false]; rfl))
        | true => exact wO_neg pu_10 (wO_eq (m_off hi) (key _ (by simp only [gEv, hc, cond_true])))
      · rintro ⟨w, u⟩ ⟨e, hF, hu⟩
        have e : w = nI 294 := e
        subst e
        unfold mf_evens_l2
        exact wO_pos (Int32.le_refl _) (wO_some ⟨hF, fun v hv => hu v hv.1⟩)
    · rintro m3 ⟨f3, v3⟩
      have hT3 : MT g lv m3 := w2.1.mv f3 (by decide)
      have th3 : ∀ st, gSt g.1.2 st → ∀ w, w < 7 → m3.2.1 51 (7 * st + w) = gE (gNx g po 0 st w) := fun st hs w hw => by rw [f3.a 51 (by decide)]; exact th st hs w hw
      refine wO_bd (Q := fun t => msF [56, 57] m3 t ∧ gEw g.1.2 (gEv (gNx g po 0) k) (t.2.1 56)) ?_ (fun t ht => wO_some ⟨(f3.wk (by decide)).tr ht.1, ht.2⟩)
      refine wO_count (fun (i : Nat) (p : Int32 × ms_S) => p.1 = nI i ∧ msF [56, 57] m3 p.2 ∧ gEw g.1.2 (gEv (gNx g po 0) i) (p.2.2.1 56)) k ?_ ?_ _ ⟨rfl, msF.rf, v3⟩
      · rintro i ⟨w, u⟩ hi ⟨e, hF, hv⟩
        have e : w = nI i := e
        subst e
        have hF : msF [56, 57] m3 u := hF
        unfold mf_evens_l23
        refine wO_neg (nI_ge hi (by omega)) ?_
        refine wO_bd (m_even_more (E := gEv (gNx g po 0) i) (s := u) (hT3.mv hF (by decide)) (fun st hs w hw => by rw [hF.a 51 (by decide)]; exact th3 st hs w hw) hok (fun u hu => gEv_le hu.1) hv) ?_
        rintro t ⟨t1, t2⟩
        refine wO_bd m_keepsMore ?_
        rintro t5 ⟨t3, t4⟩
        exact wO_some ⟨nI_1 i, hF.tr ((t1.wk (by decide)).tr (t3.wk (by decide))), fun v hv2 => (t4 v hv2.1).trans (t2 v hv2)⟩
      · rintro ⟨w, u⟩ ⟨e, hF, hv⟩
        have e : w = nI k := e
        subst e
        unfold mf_evens_l23
        exact wO_pos (Int32.le_refl _) (wO_some ⟨hF, hv⟩)
  · rintro t ⟨t1, t2⟩
    have e48 : t.2.1 48 = m2.2.1 48 := t1.a 48 (by decide)
    have num : mf_numberNow t = some (nI st, t) := by
      rw [m_number (sl := st / 14) (tu := st / 7 % 2) (la := st % 7) (by rw [e48]; exact w2.2.2.2.2.1) (by rw [e48]; exact w2.2.2.2.2.2.1) (by rw [e48]; exact w2.2.2.2.2.2.2.1)]
      congr 3
      omega
    have hfr : msF mQ m t := f12.tr (t1.wk (by decide))
    refine wO_eq num ?_
    refine wO_agv (k := st) rfl (by omega) (by omega) (t2 st hst) ?_
    rcases gEv_10 hok (k := k) hst with e | e
    · have e1 : gEa (gEv (gNx g po 0) k st) = nI (gEv (gNx g po 0) k st) := by
        unfold gEa
        exact if_pos (by omega)
      rw [e1]
      refine wO_neg (show ¬ nI (gEv (gNx g po 0) k st) = nI 1000 from fun c => absurd ((nI_eq (by omega) (by omega)).mp c) (by omega)) ?_
      exact wO_eq num (wO_agv (k := st) rfl (by omega) (by omega) (t2 st hst) (wO_some ⟨rfl, hfr⟩))
    · have e1 : gEa (gEv (gNx g po 0) k st) = -2 := by
        unfold gEa
        exact if_neg (by omega)
      rw [e1, e]
      exact wO_pos rfl (wO_some ⟨rfl, hfr⟩)
theorem pu_abs : ∀ a, a < 21 → mm_abs (nI a - 10) = nI (if 10 ≤ a then a - 10 else 10 - a) := by decide +kernel
theorem x_lean {st : Nat} (h : st < 294) : xf_11_leanOf (nI (gph st)) = some (nI (gLn st)) := by
  refine wO_iff.mp ?_
  unfold xf_11_leanOf
  refine wO_eq (x_slope h) (wO_some ?_)
  exact pu_abs _ (by omega)
/-- the row of the walk: how far off, at the least -/
def gEr (nw : Nat) (A : Nat → Int32) (h : Nat → Nat) : Prop := ∀ i, i < 294 → A i = nI (h i) ∧ h i ≤ 99 ∧ (h i < 99 → ∃ u, gSt nw u ∧ gph u = i ∧ gCm u = true ∧ gLn u ≤ h i)
theorem x_lean_in {g : gT} {po : Option (Nat × Nat)} {s : xs_S} {x b : Nat} {h h0 : Nat → Nat} (hn : g.1.2 ≤ 6) (hs : gSt g.1.2 x) (hO : gOp g po (s.2.1 118) (s.2.1 119) x) (h132 : gEr g.1.2 (s.2.1 132) h) (h133 : gEr g.1.2 (s.2.1 133) h0) (hb : b ≤ 99) (hbv : ∀ v, v < 99 → (b ≤ v ↔ ∃ i, i < 294 ∧ h0 i ≤ v)) : wO (mo_loop (xf_10_leanOn_l24 (nI (gph x))) (nI b, 0, s)) (fun p => xsF [] [133] s p.2 ∧ ∃ b2 h2, b2 ≤ 99 ∧ p.1 = nI b2 ∧ gEr g.1.2 (p.2.2.1 133) h2 ∧ (∀ v, v < 99 → (b2 ≤ v ↔ ∃ i, i < 294 ∧ h2 i ≤ v)) ∧ ∀ v u, v < 99 → gSt g.1.2 u → (h2 (gph u) ≤ v ↔ h0 (gph u) ≤ v ∨ (gCm u = true ∧ gLn u ≤ v ∧ h (gph x) ≤ v ∧ ∃ w, w < 7 ∧ gNx g po 0 x w = some u))) := by
  have hgx := gph_lt hs.1
  refine wO_count (fun (k : Nat) (p : Int32 × Int32 × xs_S) => p.2.1 = nI k ∧ xsF [] [133] s p.2.2 ∧ ∃ b2 h2, b2 ≤ 99 ∧ p.1 = nI b2 ∧ gEr g.1.2 (p.2.2.2.1 133) h2 ∧ (∀ v, v < 99 → (b2 ≤ v ↔ ∃ i, i < 294 ∧ h2 i ≤ v)) ∧ ∀ v u, v < 99 → gSt g.1.2 u → (h2 (gph u) ≤ v ↔ h0 (gph u) ≤ v ∨ (gCm u = true ∧ gLn u ≤ v ∧ h (gph x) ≤ v ∧ ∃ w, w < k ∧ gNx g po 0 x w = some u))) 7 ?_ ?_ _ ⟨rfl, xsF.rf, b, h0, hb, rfl, h133, hbv, fun v u _ _ => ⟨Or.inl, fun c => c.elim id (fun ⟨_, _, _, w, hw, _⟩ => absurd hw (by omega))⟩⟩
  · rintro k ⟨w1, w3, t⟩ hk ⟨e3, hF, b2, h2, hb2, e1, hr, hbv2, hh⟩
    have e3 : w3 = nI k := e3
    have e1 : w1 = nI b2 := e1
    subst e3 e1
    have hF : xsF [] [133] s t := hF
    have hr : gEr g.1.2 (t.2.1 133) h2 := hr
    unfold xf_10_leanOn_l24
    refine wO_neg (show ¬ (7 : Int32) ≤ nI k from nI_ge (b := 7) hk (by omega)) ?_
    refine wO_eq (x_after (wo := 0) hn hs (by rw [hF.2.1 118 (by decide), hF.2.1 119 (by decide)]; exact hO) hk (by omega)) ?_
    unfold xf_10_leanOn_j62
    have same : (∀ u, gNx g po 0 x k = some u → gCm u = false) → wO (some (Sum.inl (nI b2, nI k + (1 : Int32), t)) : Option ((Int32 × Int32 × xs_S) ⊕ (Int32 × xs_S))) (mo_sum (fun p => p.2.1 = nI (k + 1) ∧ xsF [] [133] s p.2.2 ∧ ∃ b2 h2, b2 ≤ 99 ∧ p.1 = nI b2 ∧ gEr g.1.2 (p.2.2.2.1 133) h2 ∧ (∀ v, v < 99 → (b2 ≤ v ↔ ∃ i, i < 294 ∧ h2 i ≤ v)) ∧ ∀ v u, v < 99 → gSt g.1.2 u → (h2 (gph u) ≤ v ↔ h0 (gph u) ≤ v ∨ (gCm u = true ∧ gLn u ≤ v ∧ h (gph x) ≤ v ∧ ∃ w, w < k + 1 ∧ gNx g po 0 x w = some u))) (fun p => xsF [] [133] s p.2 ∧ ∃ b2 h2, b2 ≤ 99 ∧ p.1 = nI b2 ∧ gEr g.1.2 (p.2.2.1 133) h2 ∧ (∀ v, v < 99 → (b2 ≤ v ↔ ∃ i, i < 294 ∧ h2 i ≤ v)) ∧ ∀ v u, v < 99 → gSt g.1.2 u → (h2 (gph u) ≤ v ↔ h0 (gph u) ≤ v ∨ (gCm u = true ∧ gLn u ≤ v ∧ h (gph x) ≤ v ∧ ∃ w, w < 7 ∧ gNx g po 0 x w = some u)))) := by
      intro hno
      refine wO_some ⟨nI_1 k, hF, b2, h2, hb2, rfl, hr, hbv2, fun v u hv hu => ?_⟩
      rw [hh v u hv hu]
      constructor
      · rintro (c | ⟨c1, c2, c3, w, c4, c5⟩)
        · exact Or.inl c
        · exact Or.inr ⟨c1, c2, c3, w, by omega, c5⟩
      · rintro (c | ⟨c1, c2, c3, w, c4, c5⟩)
        · exact Or.inl c
        · by_cases he : w = k
          · subst he; rw [hno u c5] at c1; cases c1
          · exact Or.inr ⟨c1, c2, c3, w, by omega, c5⟩
    cases hu : gNx g po 0 x k with
    | none => exact wO_pos rfl (same (fun u e => by rw [hu] at e; cases e))
    | some y =>
      have hsy := gNx_ok hn hs.1 hu
      have hgy := gph_lt hsy.1
      show wO (if nI (gph y) = (-1 : Int32) then _ else _) _
      refine wO_neg (pu_n1 (by omega)) ?_
      refine wO_eq (x_awake hsy.1) ?_
      show wO (if (bif gCm y then (0 : Int32) else 1) = 0 then _ else _) _
      cases hc : gCm y with
      | false => exact wO_neg pu_10 (same (fun u e => by rw [hu] at e; cases e; exact hc))
      | true =>
        refine wO_pos rfl ?_
        obtain ⟨a1, a2, a3⟩ := h132 (gph x) hgx
        obtain ⟨c1, c2, c3⟩ := hr (gph y) hgy
        have hly := gLn_le hsy.1
        refine wO_agv (k := gph x) (v := nI (h (gph x))) rfl (by omega) (by omega) (by rw [hF.2.1 132 (by decide)]; exact a1) ?_
        refine wO_eq (x_lean hsy.1) ?_
        refine wO_agv (k := gph y) rfl (by omega) (by omega) c1 ?_
        refine wO_in (k := gph y) rfl (by omega) (by omega) ?_
        rw [show gE (Option.map gph (some y)) = nI (gph y) from rfl, nI_clamp (by omega), pu_max (by omega) (by omega), pu_min (by omega) (by omega), pu_min (by omega) (by omega)]
        generalize hval : max (h (gph x)) (gLn y) = val
        generalize hh2 : (fun i => if i = gph y then min (h2 (gph y)) val else h2 i) = h3
        have q1 : h3 (gph y) = min (h2 (gph y)) val := by rw [← hh2]; exact if_pos rfl
        have q2 : ∀ i, ¬ i = gph y → h3 i = h2 i := fun i hi => by rw [← hh2]; exact if_neg hi
        refine wO_some ⟨nI_1 k, hF.tr (xsF.sA (by decide)), min b2 val, h3, by omega, rfl, fun i hi => ?_, fun v hv => ?_, fun v u hv hsu => ?_⟩
        · show upd (t.2.1 133) (gph y) (nI (min (h2 (gph y)) val)) i = nI (h3 i) ∧ _
          by_cases he : i = gph y
          · subst he
            rw [upd_eq, q1]
            refine ⟨rfl, by omega, fun hlt => ⟨y, hsy, rfl, hc, ?_⟩⟩
            by_cases h9 : h2 (gph y) ≤ val
            · obtain ⟨u9, d1, d2, d3, d4⟩ := c3 (by omega)
              have := gph_inj d2
              subst this
              omega
            · omega
          · rw [upd_ne he, q2 i he]
            exact hr i hi
        · have h8 := hbv2 v hv
          constructor
          · intro hle
            by_cases h9 : b2 ≤ v
            · obtain ⟨i, d1, d2⟩ := h8.mp h9
              by_cases he : i = gph y
              · subst he; exact ⟨gph y, d1, by rw [q1]; exact Nat.le_trans (Nat.min_le_left _ _) d2⟩
              · exact ⟨i, d1, by rw [q2 i he]; exact d2⟩
            · exact ⟨gph y, hgy, by rw [q1]; omega⟩
          · rintro ⟨i, d1, d2⟩
            by_cases he : i = gph y
            · subst he
              rw [q1] at d2
              by_cases h9 : h2 (gph y) ≤ v
              · have := h8.mpr ⟨gph y, d1, h9⟩
                omega
              · omega
            · rw [q2 i he] at d2
              have := h8.mpr ⟨i, d1, d2⟩
              omega
        · by_cases he : u = y
          · subst he
            rw [q1]
            have h8 := hh v u hv hsu
            constructor
            · intro hle
              by_cases h9 : h2 (gph u) ≤ v
              · rcases h8.mp h9 with d | ⟨d1, d2, d3, w, d4, d5⟩
                · exact Or.inl d
                · exact Or.inr ⟨d1, d2, d3, w, by omega, d5⟩
              · exact Or.inr ⟨hc, by omega, by omega, k, by omega, hu⟩
            · rintro (d | ⟨d1, d2, d3, w, d4, d5⟩)
              · have := h8.mpr (Or.inl d)
                omega
              · omega
          · rw [q2 _ (fun e => he (gph_inj e)), hh v u hv hsu]
            constructor
            · rintro (d | ⟨d1, d2, d3, w, d4, d5⟩)
              · exact Or.inl d
              · exact Or.inr ⟨d1, d2, d3, w, by omega, d5⟩
            · rintro (d | ⟨d1, d2, d3, w, d4, d5⟩)
              · exact Or.inl d
              · by_cases hwk : w = k
                · subst hwk; rw [hu] at d5; cases d5; exact absurd rfl he
                · exact Or.inr ⟨d1, d2, d3, w, by omega, d5⟩
  · rintro ⟨w1, w3, t⟩ ⟨e3, hF, hI⟩
    have e3 : w3 = nI 7 := e3
    subst e3
    unfold xf_10_leanOn_l24
    exact wO_pos (show (7 : Int32) ≤ nI 7 from Int32.le_refl _) (wO_some ⟨hF, hI⟩)
