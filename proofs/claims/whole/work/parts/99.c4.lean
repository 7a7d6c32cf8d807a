/-! couples, both -/
theorem x_fill136 {s : xs_S} {v : Int32} : wO (xf_7_fill_53178_136 s v) (fun t => xsF [] [136] s t ∧ ∀ j, j < 5 → t.2.1 136 j = v) := by
  unfold xf_7_fill_53178_136
  refine wO_bd (Q := fun t => xsF [] [136] s t ∧ ∀ j, j < 5 → t.2.1 136 j = v) ?_ (fun t ht => wO_some ht)
  refine wO_count (fun (i : Nat) (q : Int32 × xs_S) => q.1 = nI i ∧ xsF [] [136] s q.2 ∧ ∀ j, j < i → q.2.2.1 136 j = v) 5 ?_ ?_ _ ⟨rfl, xsF.rf, fun j hj => absurd hj (by omega)⟩
  · rintro i ⟨w, u⟩ hi ⟨e, hF, hu⟩
    have e : w = nI i := e
    subst e
    unfold xf_7_fill_53178_136_l5
    refine wO_neg (show ¬ nI 5 ≤ nI i from nI_ge (b := 5) hi (by omega)) ?_
    refine wO_in (k := i) rfl (by omega) (by omega) ?_
    rw [nI_clamp (by omega)]
    refine wO_some ⟨nI_1 i, hF.tr (xsF.sA (by decide)), fun j hj => ?_⟩
    show upd (u.2.1 136) i v j = v
    by_cases he : j = i
    · subst he; exact upd_eq
    · rw [upd_ne he]; exact hu j (by omega)
  · rintro ⟨w, u⟩ ⟨e, hF, hu⟩
    have e : w = nI 5 := e
    subst e
    unfold xf_7_fill_53178_136_l5
    exact wO_pos (Int32.le_refl _) (wO_some ⟨hF, hu⟩)
def xcI : List Nat := [2018, 2022, 2023, 2024, 1873, 1874, 1875, 2147, 2148]
def xcA : List Nat := [15, 16, 118, 119, 127, 128, 129, 130, 138, 135, 136, 137]
/-- the pairs told so far: all with a lesser left one, and k of the left one's -/
def gAk (g : gT) (ti i k : Nat) (s : xs_S) : Prop := ∀ a b, a < b → b < g.1.1 → (a < i ∨ (a = i ∧ b < k)) → s.2.1 135 (5 * a + b) = bif decide (gKw2 g ti a b = 0) then 1 else 0
theorem vp_b0 : vp_nar .boolean (0 : Int32) = 0 := by decide
def gMk (s : xs_S) (t : xs_S) : Prop := t.1 2147 = s.1 2147 ∧ t.1 2148 = s.1 2148 ∧ t.2.1 136 = s.2.1 136
theorem x_coup_in {g : gT} {po : Option (Nat × Nat)} {s u : xs_S} {st ti b a : Nat} {v1 : Int32} (hF : xsF xcI xcA s u) (hx : XC g po st u) (hk : XK g po ti b u) (hb : b + 20 < 2 ^ 30) (ha : a < g.1.1) (hA : gAk g ti a (a + 1) u) : wO (mo_loop (xf_11_couples_l27 v1 (nI a)) (nI (a + 1), u)) (fun t => xsF xcI xcA s t ∧ XC g po st t ∧ XK g po ti (b + 10) t ∧ gAk g ti (a + 1) (a + 2) t ∧ gMk u t) := by
  have hns := hx.1.1.1
  refine wO_count (fun (k : Nat) (q : Int32 × xs_S) => q.1 = nI (a + 1 + k) ∧ xsF xcI xcA s q.2 ∧ XC g po st q.2 ∧ XK g po ti (b + 2 * k) q.2 ∧ gAk g ti a (a + 1 + k) q.2 ∧ gMk u q.2) (g.1.1 - (a + 1)) ?_ ?_ _ ⟨rfl, hF, hx, hk, hA, rfl, rfl, rfl⟩
  · rintro k ⟨w3, t⟩ hkk ⟨e3, f1, c1, k1, a1, m1⟩
    have e3 : w3 = nI (a + 1 + k) := e3
    have f1 : xsF xcI xcA s t := f1
    have c1 : XC g po st t := c1
    have k1 : XK g po ti (b + 2 * k) t := k1
    have a1 : gAk g ti a (a + 1 + k) t := a1
    have m1 : gMk u t := m1
    subst e3
    generalize hc : a + 1 + k = c at *
    unfold xf_11_couples_l27 xf_11_couples_j44
    dsimp only
    rw [c1.1.1.2.2.1]
    refine wO_neg (nI_ge (show c < g.1.1 by omega) (by omega)) ?_
    refine wO_bd (x_calmOf (l := a) (r := c) c1 k1 (by omega) (by omega) (by omega)) ?_
    rintro ⟨v, t2⟩ ⟨e6, f6, c6, k6⟩
    have e6 : v = nI (gKw2 g ti a c) := e6
    have f6 : xsF xQi3 xQa3 t t2 := f6
    have c6 : XC g po st t2 := c6
    have k6 : XK g po ti (b + 2 * k + 2) t2 := k6
    subst e6
    have e5 : nI a * (5 : Int32) + nI c = nI (5 * a + c) := by
      rw [show nI a * (5 : Int32) = nI (a * 5) from pu_mul a 5, nI_add]
      congr 1
      omega
    have fin : ∀ w : Int32, w = (bif decide (gKw2 g ti a c = 0) then 1 else 0) → vp_nar .boolean w = w → wO ((xf_4_allow t2 (nI a) (nI c) w).bind fun s_7 => some (.inl ((nI c + (1 : Int32)), s_7))) (mo_sum (fun (q : Int32 × xs_S) => q.1 = nI (a + 1 + (k + 1)) ∧ xsF xcI xcA s q.2 ∧ XC g po st q.2 ∧ XK g po ti (b + 2 * (k + 1)) q.2 ∧ gAk g ti a (a + 1 + (k + 1)) q.2 ∧ gMk u q.2) (fun t => xsF xcI xcA s t ∧ XC g po st t ∧ XK g po ti (b + 10) t ∧ gAk g ti (a + 1) (a + 2) t ∧ gMk u t)) := fun w hw hn => by
      have f7 : xsF [] [135] t2 (xs_sA t2 135 (upd (t2.2.1 135) (5 * a + c) w)) := xsF.sA (by decide)
      refine wO_eq (x := xs_sA t2 135 (upd (t2.2.1 135) (5 * a + c) w)) (wO_iff.mp ?_) (wO_some ⟨?_, f1.tr ((f6.wk (by decide) (by decide)).tr (f7.wk (by decide) (by decide))), c6.fr f7 (by decide) (by decide), XK.up (XK.fr (t := xs_sA t2 135 (upd (t2.2.1 135) (5 * a + c) w)) k6 rfl rfl rfl rfl rfl) (by omega), ?_, ?_⟩)
      · unfold xf_4_allow
        rw [e5]
        refine wO_in (k := 5 * a + c) rfl (by omega) (by omega) ?_
        rw [nI_clamp (by omega), hn]
        exact wO_some rfl
      · show nI c + 1 = _
        rw [nI_1, show a + 1 + (k + 1) = c + 1 by omega]
      · intro a2 b2 h1 h2 h3
        show upd (t2.2.1 135) (5 * a + c) w (5 * a2 + b2) = _
        by_cases he : a2 = a ∧ b2 = c
        · rw [he.1, he.2, upd_eq]
          exact hw
        · rw [upd_ne (by omega), f6.2.1 135 (by decide)]
          exact a1 a2 b2 h1 h2 (by omega)
      · obtain ⟨m2, m3, m4⟩ := m1
        exact ⟨(f6.1 2147 (by decide)).trans m2, (f6.1 2148 (by decide)).trans m3, (f6.2.1 136 (by decide)).trans m4⟩
    have hkl := @gKw2_le g ti a c
    by_cases hz : gKw2 g ti a c = 0
    · exact wO_pos (by rw [hz]; rfl) (fin 1 (by rw [decide_eq_true hz]; rfl) vp_b1)
    · exact wO_neg (fun e => hz ((nI_eq (b := 0) (by omega) (by omega)).mp e)) (fin 0 (by rw [decide_eq_false hz]; rfl) vp_b0)
  · rintro ⟨w3, t⟩ ⟨e3, f1, c1, k1, a1, m1⟩
    have e3 : w3 = nI (a + 1 + (g.1.1 - (a + 1))) := e3
    subst e3
    have c1 : XC g po st t := c1
    have k1 : XK g po ti (b + 2 * (g.1.1 - (a + 1))) t := k1
    have a1 : gAk g ti a (a + 1 + (g.1.1 - (a + 1))) t := a1
    unfold xf_11_couples_l27
    dsimp only
    rw [c1.1.1.2.2.1]
    refine wO_pos (nI_le (by omega) (by omega)) (wO_some ⟨f1, c1, k1.up (by omega), fun a2 b2 h1 h2 h3 => a1 a2 b2 h1 h2 (by omega), m1⟩)
theorem gFull : ∀ n, n < 6 → ∀ i, i < 5 → ((2 ^ n - 1).testBit i = true ↔ i < n) := by decide +kernel
theorem gFull_lt : ∀ n, n < 6 → 2 ^ n - 1 < 32 := by decide
theorem x_couples {g : gT} {po : Option (Nat × Nat)} {s : xs_S} {st ti b : Nat} {v1 : Int32} (hx : XC g po st s) (hk : XK g po ti b s) (hb : b + 100 < 2 ^ 30) : ∃ s2 s9 s10, xf_4_begin s (s.1 147) = some s2 ∧ mo_loop (xf_11_couples_l18 v1) ((0 : Int32), s2) = some s9 ∧ xf_4_match s9 = some s10 ∧ xsF xcI xcA s s10 ∧ XC g po st s10 ∧ XK g po ti (b + 50) s10 ∧ s10.1 2148 = nI (gCp (fun a b => (gBs (gCb g ti a) g.1.1).testBit b) (2 ^ g.1.1 - 1)) ∧ ∀ i, i < g.1.1 → s10.2.1 137 i = gMa (fun a b => (gBs (gCb g ti a) g.1.1).testBit b) (2 ^ g.1.1 - 1) i := by
  have hns := hx.1.1.1
  have h147 := hx.1.1.2.2.1
  have hbeg : wO (xf_4_begin s (s.1 147)) (fun t => xsF xcI xcA s t ∧ XC g po st t ∧ XK g po ti b t ∧ t.1 2147 = nI g.1.1 ∧ t.1 2148 = -1 ∧ ∀ j, j < 5 → t.2.1 136 j = -2) := by
    unfold xf_4_begin
    rw [h147, show mm_min (nI g.1.1) (5 : Int32) = nI (min g.1.1 5) from pu_min (b := 5) (by omega) (by omega), show min g.1.1 5 = g.1.1 by omega]
    have f0 : xsF [2147, 2148] [] s (xs_sI (xs_sI s 2147 (nI g.1.1)) 2148 (-1)) := (xsF.sI (by decide)).tr (xsF.sI (by decide))
    refine wO_bd x_fill136 ?_
    rintro t ⟨f1, d1⟩
    have ft : xsF [2147, 2148] [136] s t := (f0.wk (by decide) (by decide)).tr (f1.wk (by decide) (by decide))
    exact wO_some ⟨ft.wk (by decide) (by decide), hx.fr ft (by decide) (by decide), hk.fr (ft.1 151 (by decide)) (ft.1 401 (by decide)) (ft.1 402 (by decide)) (ft.2.1 138 (by decide)) (ft.1 1875 (by decide)), f1.1 2147 (by decide), f1.1 2148 (by decide), d1⟩
  obtain ⟨s2, e2, f2, c2, k2, i47, i48, r36⟩ := hbeg
  have hl : wO (mo_loop (xf_11_couples_l18 v1) ((0 : Int32), s2)) (fun t => xsF xcI xcA s t ∧ XC g po st t ∧ XK g po ti (b + 50) t ∧ gAk g ti g.1.1 (g.1.1 + 1) t ∧ gMk s2 t) := by
    refine wO_count (fun (i : Nat) (q : Int32 × xs_S) => q.1 = nI i ∧ xsF xcI xcA s q.2 ∧ XC g po st q.2 ∧ XK g po ti (b + 10 * i) q.2 ∧ gAk g ti i (i + 1) q.2 ∧ gMk s2 q.2) g.1.1 ?_ ?_ _ ⟨rfl, f2, c2, k2, fun a b h1 h2 h3 => absurd h3 (by omega), rfl, rfl, rfl⟩
    · rintro i ⟨w2, t⟩ hi ⟨e3, f1, c1, k1, a1, m1⟩
      have e3 : w2 = nI i := e3
      subst e3
      have f1 : xsF xcI xcA s t := f1
      have c1 : XC g po st t := c1
      have k1 : XK g po ti (b + 10 * i) t := k1
      have a1 : gAk g ti i (i + 1) t := a1
      have m1 : gMk s2 t := m1
      unfold xf_11_couples_l18
      dsimp only
      rw [c1.1.1.2.2.1]
      refine wO_neg (nI_ge hi (by omega)) ?_
      rw [nI_1]
      refine wO_bd (x_coup_in f1 c1 k1 (by omega) hi a1) ?_
      rintro t2 ⟨d1, d2, d3, d4, d5⟩
      refine wO_some ⟨rfl, d1, d2, d3.up (by omega), d4, ?_⟩
      exact ⟨d5.1.trans m1.1, d5.2.1.trans m1.2.1, d5.2.2.trans m1.2.2⟩
    · rintro ⟨w2, t⟩ ⟨e3, f1, c1, k1, a1, m1⟩
      have e3 : w2 = nI g.1.1 := e3
      subst e3
      have c1 : XC g po st t := c1
      have k1 : XK g po ti (b + 10 * g.1.1) t := k1
      unfold xf_11_couples_l18
      dsimp only
      rw [c1.1.1.2.2.1]
      exact wO_pos (Int32.le_refl _) (wO_some ⟨f1, c1, k1.up (by omega), a1, m1⟩)
  obtain ⟨s9, e9, f9, c9, k9, a9, m9⟩ := hl
  have hal : gAl g.1.1 (fun a b => (gBs (gCb g ti a) g.1.1).testBit b) s9 := fun a c h1 h2 => by
    show s9.2.1 135 (5 * a + c) = bif (gBs (gCb g ti a) g.1.1).testBit c then 1 else 0
    rw [a9 a c h1 h2 (by omega), gBs_bit, decide_eq_true h2, Bool.true_and]
    unfold gCb
    rw [decide_eq_true h1, Bool.true_and]
  have hS : gSfr g.1.1 0 (s9.2.1 136) (2 ^ g.1.1 - 1) := ⟨gFull_lt _ (by omega), fun i hi => by
    rw [gFull _ (by omega) i hi, m9.2.2, r36 i hi]
    exact ⟨fun q => ⟨by omega, q, rfl⟩, fun q => q.2.1⟩⟩
  have hm := x_matchF (n := g.1.1) hns 7 0 0 s9 (2 ^ g.1.1 - 1) (by omega) (by omega) (by omega) (m9.1.trans i47) hal hS
  obtain ⟨s10, e10, f10, t10, g10⟩ := hm
  have hlt : s9.1 2148 < nI (0 + gCp (fun a b => (gBs (gCb g ti a) g.1.1).testBit b) (2 ^ g.1.1 - 1)) := by
    have hle := gCp_le (E := fun a b => (gBs (gCb g ti a) g.1.1).testBit b) _ (gFull_lt g.1.1 (by omega))
    have h32 := gFull_lt g.1.1 (by omega)
    rw [m9.2.1, i48]
    exact Int32.lt_of_lt_of_le (show (-1 : Int32) < 0 by decide) (nI_pos' (by omega))
  obtain ⟨v1, v2⟩ := g10.1 hlt
  rw [Nat.zero_add] at v1
  refine ⟨s2, s9, s10, e2, e9, wO_iff.mp ?_, f9.tr (f10.wk (by decide) (by decide)), c9.fr f10 (by decide) (by decide), k9.fr (f10.1 151 (by decide)) (f10.1 401 (by decide)) (f10.1 402 (by decide)) (f10.2.1 138 (by decide)) (f10.1 1875 (by decide)), v1, fun i hi => ?_⟩
  · unfold xf_4_match
    exact wO_eq e10 (wO_some rfl)
  · refine (v2 i (by omega)).trans ?_
    show (bif (2 ^ g.1.1 - 1).testBit i then _ else _) = _
    rw [(gFull _ (by omega) i (by omega)).mpr hi]
    rfl
theorem R_s25 : lw_s25 RR := fun n s m a h hn => RR_q h (fun g lv po st ti h1 h2 hm h29 h3 => by
  have hns := h1.1.1.1
  have hlv := h3.1.1
  have h147 := h1.1.1.2.2.1
  obtain ⟨m2, em, fm, rm, tm⟩ := m_fillsCouples hm h29 h2.2.1
  have hM2 : MN g lv m2 po st := hm.mv fm (by decide) (by decide)
  have p1 : 1 ≤ 2 ^ g.1.1 := Nat.one_le_two_pow
  have p5 := gFull_lt g.1.1 (by omega)
  have esh : ((1 : Int32) <<< (nI g.1.1 &&& 31)) - (1 : Int32) = nI (2 ^ g.1.1 - 1) := by
    rw [pu_sh6 _ (by omega)]
    exact pu_sub (b := 1) p1
  by_cases c1 : a = -1
  · subst c1
    obtain ⟨s2, s9, s10, x1, x2, x3, x4, x5, x6, x7, x8⟩ := x_couples (v1 := -1) h1 h2 (by omega)
    refine ⟨nI (gCp (fun a b => (gBs (gCb g ti a) g.1.1).testBit b) (2 ^ g.1.1 - 1)), s10, m2, wO_iff.mp ?_, wO_iff.mp ?_, x4.g (by decide) (by decide), x5, x6.up (by omega), fm.wk (by decide)⟩
    · unfold xf_11_couples xf_11_couples_j10
      exact wO_pos rfl (wO_eq x1 (wO_eq x2 (wO_eq x3 (wO_pos rfl (wO_some (by rw [x7]))))))
    · unfold mf_couples mf_couples_j9
      refine wO_pos rfl (wO_eq em (wO_agv (k := lv) hM2.1.2.1 (by omega) (by omega) hM2.1.2.2.2.2.1 (wO_pos rfl ?_)))
      rw [esh]
      exact wO_agv (k := 2 ^ g.1.1 - 1) rfl (by omega) (by omega) (tm _ (by omega)) (wO_some rfl)
  · rcases pu_small a g.1.1 (by omega) with ⟨i, hi, rfl⟩ | ha
    · obtain ⟨s2, s9, s10, x1, x2, x3, x4, x5, x6, x7, x8⟩ := x_couples (v1 := nI i) h1 h2 (by omega)
      have at1 := m_couples_at (n := g.1.1) (S := 2 ^ g.1.1 - 1) (i := i) hns rm (by omega) (by omega) ((gFull _ (by omega) i (by omega)).mpr hi) tm
      refine ⟨gMa (fun a b => (gBs (gCb g ti a) g.1.1).testBit b) (2 ^ g.1.1 - 1) i, s10, m2, wO_iff.mp ?_, wO_iff.mp ?_, x4.g (by decide) (by decide), x5, x6.up (by omega), fm.wk (by decide)⟩
      · unfold xf_11_couples xf_11_couples_j10
        refine wO_neg c1 (wO_eq (x_hasSpeaker h147 hns (by omega)) ?_)
        rw [decide_eq_true hi]
        exact wO_neg pu_10 (wO_eq x1 (wO_eq x2 (wO_eq x3 (wO_neg c1 (wO_agv (k := i) rfl (by omega) (by omega) (x8 i hi) (wO_some rfl))))))
      · unfold mf_couples mf_couples_j9
        refine wO_neg c1 (wO_eq (m_isSpeaker_yes h3.1 hi) (wO_neg pu_10 (wO_eq em (wO_agv (k := lv) hM2.1.2.1 (by omega) (by omega) hM2.1.2.2.2.2.1 (wO_neg c1 ?_)))))
        rw [esh]
        refine wO_bd at1 ?_
        rintro r (rfl | rfl)
        · exact wO_some rfl
        · exact wO_some rfl
    · refine ⟨-1, s, m, wO_iff.mp ?_, wO_iff.mp ?_, xsG.rf, h1, h2.up (by omega), msF.rf⟩
      · unfold xf_11_couples
        exact wO_neg c1 (wO_eq (x_hasSpeaker_no h147 ha) (wO_pos rfl (wO_some rfl)))
      · unfold mf_couples
        exact wO_neg c1 (wO_eq (m_isSpeaker_no h3.1 ha) (wO_pos rfl (wO_some rfl))))
