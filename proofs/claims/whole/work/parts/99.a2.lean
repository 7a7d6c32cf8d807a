/-! question: even, the class -/
theorem x_leanOn {g : gT} {po : Option (Nat × Nat)} {s : xs_S} {st : Nat} {h : Nat → Nat} (hC : XC g po st s) (hr : gEr g.1.2 (s.2.1 132) h) : wO (xf_10_leanOn s) (fun p => xsG xQi2 xQa2 s p.2 ∧ XC g po st p.2 ∧ ∃ b h2, b ≤ 99 ∧ p.1 = nI b ∧ gEr g.1.2 (p.2.2.1 132) h2 ∧ (∀ v, v < 99 → (b ≤ v ↔ ∃ i, i < 294 ∧ h2 i ≤ v)) ∧ ∀ v u, v < 99 → gSt g.1.2 u → (h2 (gph u) ≤ v ↔ gCm u = true ∧ gLn u ≤ v ∧ ∃ x w, gSt g.1.2 x ∧ h (gph x) ≤ v ∧ w < 7 ∧ gNx g po 0 x w = some u)) := by
  have hn := hC.1.1.2.1
  unfold xf_10_leanOn
  generalize hs0 : xs_sA s 133 (xs_fl 294 (99 : Int32) (s.2.1 133)) = s0
  have f0 : xsF [] [133] s s0 := by rw [← hs0]; exact xsF.sA (by decide)
  have z0 : ∀ i, i < 294 → s0.2.1 133 i = nI 99 := fun i hi => by
    rw [← hs0]
    show xs_fl 294 (99 : Int32) (s.2.1 133) i = _
    rw [xs_fl_lt hi]
    rfl
  have hC0 : XC g po st s0 := hC.fr f0 (by decide) (by decide)
  have e132 : s0.2.1 132 = s.2.1 132 := f0.2.1 132 (by decide)
  refine wO_bd (Q := fun p => xsF xQi2 xQa2 s0 p.2 ∧ XC g po st p.2 ∧ ∃ b h2, b ≤ 99 ∧ p.1 = nI b ∧ gEr g.1.2 (p.2.2.1 133) h2 ∧ (∀ v, v < 99 → (b ≤ v ↔ ∃ i, i < 294 ∧ h2 i ≤ v)) ∧ ∀ v u, v < 99 → gSt g.1.2 u → (h2 (gph u) ≤ v ↔ gCm u = true ∧ gLn u ≤ v ∧ ∃ x w, gSt g.1.2 x ∧ h (gph x) ≤ v ∧ w < 7 ∧ gNx g po 0 x w = some u)) ?_ ?_
  · obtain ⟨H, hH⟩ : ∃ H : Nat → Nat, ∀ i, H i = 99 := ⟨fun _ => 99, fun _ => rfl⟩
    refine wO_count (fun (i : Nat) (p : Int32 × Int32 × xs_S) => p.2.1 = nI i ∧ xsF xQi2 xQa2 s0 p.2.2 ∧ XC g po st p.2.2 ∧ p.2.2.2.1 132 = s0.2.1 132 ∧ ∃ b h2, b ≤ 99 ∧ p.1 = nI b ∧ gEr g.1.2 (p.2.2.2.1 133) h2 ∧ (∀ v, v < 99 → (b ≤ v ↔ ∃ i, i < 294 ∧ h2 i ≤ v)) ∧ ∀ v u, v < 99 → gSt g.1.2 u → (h2 (gph u) ≤ v ↔ gCm u = true ∧ gLn u ≤ v ∧ ∃ x w, gph x < i ∧ gSt g.1.2 x ∧ h (gph x) ≤ v ∧ w < 7 ∧ gNx g po 0 x w = some u)) 294 ?_ ?_ _ ⟨rfl, xsF.rf, hC0, rfl, 99, H, Nat.le_refl _, rfl, fun i hi => ⟨by rw [hH i]; exact z0 i hi, by rw [hH i]; exact Nat.le_refl _, fun c => absurd c (by rw [hH i]; omega)⟩, fun v hv => ⟨fun c => absurd c (by omega), fun ⟨i, _, c⟩ => absurd c (by rw [hH i]; omega)⟩, fun v u hv _ => ⟨fun c => absurd c (by rw [hH]; omega), fun ⟨_, _, _, _, c, _⟩ => absurd c (by omega)⟩⟩
    · rintro i ⟨w1, w2, t⟩ hi ⟨e2, hF, hCt, h132, b, h2, hb, e1, hr2, hbv, hh⟩
      have e2 : w2 = nI i := e2
      have e1 : w1 = nI b := e1
      subst e2 e1
      have hF : xsF xQi2 xQa2 s0 t := hF
      have hCt : XC g po st t := hCt
      have h132 : t.2.1 132 = s0.2.1 132 := h132
      have hr2 : gEr g.1.2 (t.2.1 133) h2 := hr2
      unfold xf_10_leanOn_l8
      refine wO_neg (show ¬ (294 : Int32) ≤ nI i from nI_ge (b := 294) hi (by omega)) ?_
      obtain ⟨a1, a2, a3⟩ := hr i hi
      refine wO_agv (k := i) (v := nI (h i)) rfl (by omega) (by omega) (by rw [h132, e132]; exact a1) ?_
      unfold xf_10_leanOn_j64
      by_cases h99 : h i = 99
      · refine wO_pos (by rw [h99]; rfl) (wO_some ⟨nI_1 i, hF, hCt, h132, b, h2, hb, rfl, hr2, hbv, fun v u hv hu => ?_⟩)
        rw [hh v u hv hu]
        constructor
        · rintro ⟨c1, c2, x, w, c3, c4⟩
          exact ⟨c1, c2, x, w, by omega, c4⟩
        · rintro ⟨c1, c2, x, w, c3, c4, c5, c6⟩
          have hne : ¬ gph x = i := fun e => by rw [e, h99] at c5; omega
          exact ⟨c1, c2, x, w, by omega, c4, c5, c6⟩
      · refine wO_neg (show ¬ nI (h i) = nI 99 from fun e => h99 ((nI_eq (by omega) (by omega)).mp e)) ?_
        obtain ⟨x, hsx, hgx, hcx, hlx⟩ := a3 (by omega)
        subst hgx
        refine wO_bd (x_opens hCt hsx) ?_
        rintro t1 ⟨k1, k2, k3⟩
        have e133 : t1.2.1 133 = t.2.1 133 := k1.2.1 133 (by decide)
        have et132 : t1.2.1 132 = s.2.1 132 := (k1.2.1 132 (by decide)).trans (h132.trans e132)
        refine wO_bd (x_lean_in (h := h) (h0 := h2) hn hsx k3 (by rw [et132]; exact hr) (by rw [e133]; exact hr2) hb hbv) ?_
        rintro ⟨w, t2⟩ ⟨n1, b3, h3, n2, n3, n4, n5, n6⟩
        have n1 : xsF [] [133] t1 t2 := n1
        refine wO_some ⟨nI_1 (gph x), hF.tr ((k1.wk (by decide) (by decide)).tr (n1.wk (by decide) (by decide))), k2.fr n1 (by decide) (by decide), (n1.2.1 132 (by decide)).trans ((k1.2.1 132 (by decide)).trans h132), b3, h3, n2, n3, n4, n5, fun v u hv hu => ?_⟩
        rw [n6 v u hv hu, hh v u hv hu]
        constructor
        · rintro (⟨c1, c2, y, w, c3, c4⟩ | ⟨c1, c2, c3, w, c4, c5⟩)
          · exact ⟨c1, c2, y, w, by omega, c4⟩
          · exact ⟨c1, c2, x, w, by omega, hsx, c3, c4, c5⟩
        · rintro ⟨c1, c2, y, w, c3, c4, c5, c6, c7⟩
          by_cases he : gph y = gph x
          · have := gph_inj he
            subst this
            exact Or.inr ⟨c1, c2, c5, w, c6, c7⟩
          · exact Or.inl ⟨c1, c2, y, w, by omega, c4, c5, c6, c7⟩
    · rintro ⟨w1, w2, t⟩ ⟨e2, hF, hCt, h132, b, h2, hb, e1, hr2, hbv, hh⟩
      have e2 : w2 = nI 294 := e2
      subst e2
      unfold xf_10_leanOn_l8
      refine wO_pos (Int32.le_refl _) (wO_some ⟨hF, hCt, b, h2, hb, e1, hr2, hbv, fun v u hv hu => ?_⟩)
      rw [hh v u hv hu]
      constructor
      · rintro ⟨c1, c2, x, w, c3, c4⟩
        exact ⟨c1, c2, x, w, c4⟩
      · rintro ⟨c1, c2, x, w, c4, c5⟩
        exact ⟨c1, c2, x, w, gph_lt c4.1, c4, c5⟩
  · rintro ⟨w, t⟩ ⟨t1, t2, b, h2, t3, t4, t5, t6, t7⟩
    have t1 : xsF xQi2 xQa2 s0 t := t1
    have t2 : XC g po st t := t2
    unfold xf_10_swap
    exact wO_some ⟨(f0.g (by decide) (by decide)).tr ((t1.g (fun _ h => h) (fun _ h => h)).tr (xs_sw_g (by decide) (by decide))), t2.sw, b, h2, t3, t4, t5, t6, t7⟩
theorem x_leastLean {g : gT} {po : Option (Nat × Nat)} {s : xs_S} {st k : Nat} (hx : XC g po st s) (hk : k < 41) : wO (xf_10_leastLean s (nI (gph st)) (nI k)) (fun p => p.1 = gEa (gEv (gNx g po 0) k st) ∧ xsG xQi2 xQa2 s p.2 ∧ XC g po st p.2) := by
  have hst := hx.2.2.2
  have hst1 := hst.1
  have hgl := gph_lt hst1
  have hl := gLn_le hst1
  unfold xf_10_leastLean
  refine wO_eq (x_awake hst1) ?_
  show wO (if (bif gCm st then (0 : Int32) else 1) = 0 then _ else _) _
  cases hc : gCm st with
  | false =>
    refine wO_neg pu_10 (wO_some ⟨?_, xsG.rf, hx⟩)
    unfold gEa
    rw [if_neg]
    intro hle
    have := (gEv_cm (by omega) hle).1
    rw [hc] at this
    cases this
  | true =>
    refine wO_pos rfl ?_
    refine wO_eq (x_lean hst1) ?_
    refine wO_eq (x_start hst1) ?_
    generalize hs0 : xs_sA s 132 (upd (xs_fl 294 (99 : Int32) (s.2.1 132)) (gph st) (nI (gLn st))) = s0
    have f0 : xsF [] [132] s s0 := by rw [← hs0]; exact xsF.sA (by decide)
    have hC0 : XC g po st s0 := hx.fr f0 (by decide) (by decide)
    generalize hh0 : (fun i => if i = gph st then gLn st else 99) = h0
    have q1 : h0 (gph st) = gLn st := by rw [← hh0]; exact if_pos rfl
    have q2 : ∀ i, ¬ i = gph st → h0 i = 99 := fun i hi => by rw [← hh0]; exact if_neg hi
    have r0 : gEr g.1.2 (s0.2.1 132) h0 := by
      rw [← hs0]
      intro i hi
      show upd (xs_fl 294 (99 : Int32) (s.2.1 132)) (gph st) (nI (gLn st)) i = _ ∧ _
      by_cases he : i = gph st
      · subst he
        rw [upd_eq, q1]
        exact ⟨rfl, by omega, fun _ => ⟨st, hst, rfl, hc, Nat.le_refl _⟩⟩
      · rw [upd_ne he, q2 i he, xs_fl_lt hi]
        exact ⟨rfl, Nat.le_refl _, fun c => absurd c (by omega)⟩
    have only : ∀ v i, v < 99 → h0 i ≤ v → i = gph st := fun v i hv hle => by
      by_cases he : i = gph st
      · exact he
      · rw [q2 i he] at hle; omega
    have key : wO (mo_loop (xf_10_leastLean_l15 (nI k)) (nI (gLn st), 0, s0)) (fun p => xsG xQi2 xQa2 s p.2 ∧ XC g po st p.2 ∧ ∃ b, b ≤ 99 ∧ p.1 = nI b ∧ ∀ v, v < 99 → (b ≤ v ↔ gEv (gNx g po 0) k st ≤ v)) := by
      refine wO_count (fun (j : Nat) (p : Int32 × Int32 × xs_S) => p.2.1 = nI j ∧ xsG xQi2 xQa2 s p.2.2 ∧ XC g po st p.2.2 ∧ ∃ b h, b ≤ 99 ∧ p.1 = nI b ∧ gEr g.1.2 (p.2.2.2.1 132) h ∧ (∀ v, v < 99 → (b ≤ v ↔ ∃ i, i < 294 ∧ h i ≤ v)) ∧ ∀ v, v < 99 → ((∃ u, gSt g.1.2 u ∧ h (gph u) ≤ v ∧ gEv (gNx g po 0) (k - j) u ≤ v) ↔ gEv (gNx g po 0) k st ≤ v)) k ?_ ?_ _ ⟨rfl, f0.g (by decide) (by decide), hC0, gLn st, h0, by omega, rfl, r0, fun v hv => ⟨fun c => ⟨gph st, hgl, by rw [q1]; exact c⟩, fun ⟨i, _, c⟩ => by rw [only v i hv c, q1] at c; exact c⟩, fun v hv => ⟨fun ⟨u, _, c1, c2⟩ => by rw [← gph_inj (only v _ hv c1)]; exact c2, fun c => ⟨st, hst, by rw [q1]; exact (gEv_cm (by omega) c).2, c⟩⟩⟩
      · rintro j ⟨w3, w4, t⟩ hj ⟨e4, hF, hC, b, h, hb, e3, hr, hbv, hp⟩
        have e4 : w4 = nI j := e4
        have e3 : w3 = nI b := e3
        subst e4 e3
        have hC : XC g po st t := hC
        unfold xf_10_leastLean_l15
        refine wO_neg (nI_ge hj (by omega)) ?_
        by_cases h99 : b = 99
        · refine wO_pos (by rw [h99]; rfl) (wO_some ⟨hF, hC, b, hb, rfl, fun v hv => ?_⟩)
          constructor
          · intro c; omega
          · intro c
            obtain ⟨u, c1, c2, _⟩ := (hp v hv).mpr c
            have := (hbv v hv).mpr ⟨gph u, gph_lt c1.1, c2⟩
            omega
        · refine wO_neg (show ¬ nI b = nI 99 from fun e => h99 ((nI_eq (by omega) (by omega)).mp e)) ?_
          refine wO_bd (x_leanOn hC hr) ?_
          rintro ⟨w, t2⟩ ⟨k1, k2, b2, h2, k3, k4, k5, k6, k7⟩
          refine wO_some ⟨nI_1 j, hF.tr k1, k2, b2, h2, k3, k4, k5, k6, fun v hv => ?_⟩
          rw [← hp v hv]
          have hm : k - j = k - (j + 1) + 1 := by omega
          have hE : ∀ x, gEv (gNx g po 0) (k - j) x = max (gLn x) (gEm (gNx g po 0) (gEv (gNx g po 0) (k - (j + 1))) x 7) := fun x => by rw [hm]; rfl
          constructor
          · rintro ⟨u, c1, c2, c3⟩
            obtain ⟨d1, d2, x, w9, d3, d4, d5, d6⟩ := (k7 v u hv c1).mp c2
            refine ⟨x, d3, d4, ?_⟩
            rw [hE]
            have h5 := (gEm_iff (k := 7) (x := x) (nx := gNx g po 0) (E := gEv (gNx g po 0) (k - (j + 1))) (v := v) (by omega)).mpr ⟨w9, u, d5, d6, c3⟩
            obtain ⟨_, _, r3⟩ := hr (gph x) (gph_lt d3.1)
            obtain ⟨x2, _, r5, _, r6⟩ := r3 (by omega)
            rw [gph_inj r5] at r6
            exact Nat.max_le.mpr ⟨by omega, h5⟩
          · rintro ⟨x, c1, c2, c3⟩
            rw [hE] at c3
            have c4 := (Nat.max_le.mp c3).2
            obtain ⟨w9, u, d1, d2, d3⟩ := (gEm_iff (k := 7) (x := x) (nx := gNx g po 0) (E := gEv (gNx g po 0) (k - (j + 1))) (v := v) (by omega)).mp c4
            have hsu : gSt g.1.2 u := gNx_ok hx.1.1.2.1 c1.1 d2
            obtain ⟨d4, d5⟩ := gEv_cm (by omega) d3
            exact ⟨u, hsu, (k7 v u hv hsu).mpr ⟨d4, d5, x, w9, c1, c2, d1, d2⟩, d3⟩
      · rintro ⟨w3, w4, t⟩ ⟨e4, hF, hC, b, h, hb, e3, hr, hbv, hp⟩
        have e4 : w4 = nI k := e4
        subst e4
        have hr : gEr g.1.2 (t.2.1 132) h := hr
        unfold xf_10_leastLean_l15
        refine wO_pos (Int32.le_refl _) (wO_some ⟨hF, hC, b, hb, e3, fun v hv => ?_⟩)
        have hp := hp v hv
        rw [Nat.sub_self] at hp
        rw [← hp, hbv v hv]
        constructor
        · rintro ⟨i, c1, c2⟩
          obtain ⟨_, _, r3⟩ := hr i c1
          obtain ⟨u, r4, r5, r6, r7⟩ := r3 (by omega)
          refine ⟨u, r4, by rw [r5]; exact c2, ?_⟩
          show (bif gCm u then gLn u else 1000) ≤ v
          rw [r6]
          show gLn u ≤ v
          omega
        · rintro ⟨u, c1, c2, _⟩
          exact ⟨gph u, gph_lt c1.1, c2⟩
    refine wO_bd key ?_
    rintro ⟨w, t⟩ ⟨t1, t2, b, t3, t4, t5⟩
    have t4 : w = nI b := t4
    subst t4
    by_cases h99 : b = 99
    · refine wO_pos (by rw [h99]; rfl) (wO_some ⟨?_, t1, t2⟩)
      unfold gEa
      rw [if_neg (fun c => by have := (t5 98 (by omega)).mpr c; omega)]
    · refine wO_neg (show ¬ nI b = nI 99 from fun e => h99 ((nI_eq (by omega) (by omega)).mp e)) (wO_some ⟨?_, t1, t2⟩)
      have c1 := (t5 b (by omega)).mp (Nat.le_refl _)
      have c2 := (t5 (gEv (gNx g po 0) k st) (by omega)).mpr (Nat.le_refl _)
      unfold gEa
      rw [if_pos (by omega)]
      exact congrArg nI (by omega)
theorem q_even {g : gT} {lv : Nat} {s : xs_S} {m : ms_S} {po : Option (Nat × Nat)} {st : Nat} (a : Int32) (hx : XC g po st s) (hm : MN g lv m po st) : gQ2 g po st s m (xf_11_even s a) (mf_even m a) := by
  rcases pu_small a 41 (by omega) with ⟨k, hk, rfl⟩ | hno
  · refine gQ2_of (P := fun b => b = gEa (gEv (gNx g po 0) k st)) (fun a b h k => h.trans k.symm) ?_ (m_even hm hk)
    unfold xf_11_even
    refine wO_neg (pu_nn (by omega)) (wO_pos (show nI k ≤ nI 40 from nI_le (by omega) (by omega)) ?_)
    rw [hx.2.2.1]
    exact wO_bd (x_leastLean hx hk) (fun p hp => wO_some hp)
  · refine gQ2_of (P := fun b => b = -1) (fun a b h k => h.trans k.symm) ?_ ?_
    · unfold xf_11_even
      refine wO_ite (fun _ => wO_some ⟨rfl, xsG.rf, hx⟩) (fun c => ?_)
      rcases hno with k | k
      · exact absurd k c
      · exact wO_neg (pu_nle2 (n := 40) (by omega) k) (wO_some ⟨rfl, xsG.rf, hx⟩)
    · unfold mf_even
      refine wO_eq (show mf_in a 0 40 = some 0 from m_in_no (n := 41) (by omega) hno) ?_
      exact wO_pos rfl (wO_some ⟨rfl, msF.rf⟩)
