/-! reading: expressions, both -/
theorem gPd_up {j : Nat} {pd : List Nat} (h : gPd j pd) : gPd (j + 1) pd := ⟨by have := h.1; omega, fun o ho => by
  rcases h.2 o ho with q | q | ⟨q, q2⟩
  · exact Or.inl q
  · exact Or.inr (Or.inl q)
  · exact Or.inr (Or.inr ⟨by omega, q2⟩)⟩
theorem e_product {K P V : Nat → Nat} {W : Nat → Int64} {N k : Nat} {rec : xs_S → Int32 → Option xs_S} (hk : k ≤ 6)
    (hU : ∀ s m t z c st, gEs K P V W N t k z c st s m → st.length ≤ 3 * k + 2 → ∃ s2, xf_6_unit rec s (nI k) = some s2 ∧ xsF xKei [21] s s2 ∧ gOu K P V W N t k z c st 0 s m s2) :
    ∀ s m t z c st, gEs K P V W N t k z c st s m → st.length ≤ 3 * k + 1 → gHd 1 st → ∃ s2, xf_6_product rec s (nI k) = some s2 ∧ xsF xKei [21] s s2 ∧ gOu K P V W N t k z c st 1 s m s2 := by
  have hLx : ∀ (i : Nat) (s : xs_S) (κ : Nat), i < 400 → κ < 34 → xf_6_kind s = some (nI κ, s) → ¬ (κ = 29 - 2 * 1 ∨ κ = 30 - 2 * 1) → xf_6_product_l5 rec (nI k) (nI i, s) = some (.inr s) := fun i s κ hi hκ hkd hne => wO_iff.mp (by
    unfold xf_6_product_l5
    exact wO_neg (show ¬ (400 : Int32) ≤ nI i from nI_ge (b := 400) hi (by omega)) (wO_eq hkd (wO_neg (fun e => hne (Or.inl ((nI_eq (b := 27) (by omega) (by omega)).mp e))) (wO_eq hkd (wO_neg (fun e => hne (Or.inr ((nI_eq (b := 28) (by omega) (by omega)).mp e))) (wO_some rfl))))))
  have hLo : ∀ (i : Nat) (s : xs_S) (κ : Nat) (b : Int32) (s6 s7 s9 : xs_S), i < 400 → κ < 34 → xf_6_kind s = some (nI κ, s) → (κ = 29 - 2 * 1 ∨ κ = 30 - 2 * 1) → xf_6_take s (nI κ) = some (b, s6) → (fun s => xf_6_unit rec s (nI k)) s6 = some s7 → xf_3_emit_20 s7 (nI (19975 + κ)) = some s9 → xf_6_product_l5 rec (nI k) (nI i, s) = some (.inl (nI (i + 1), s9)) := fun i s κ b s6 s7 s9 hi hκ hkd hor e1 e2 e3 => wO_iff.mp (by
    have e2 : xf_6_unit rec s6 (nI k) = some s7 := e2
    unfold xf_6_product_l5 xf_6_product_j16 xf_6_product_j35
    refine wO_neg (show ¬ (400 : Int32) ≤ nI i from nI_ge (b := 400) hi (by omega)) (wO_eq hkd ?_)
    rcases hor with q | q
    · have q : κ = 27 := q
      subst q
      refine wO_pos rfl (wO_eq hkd (wO_eq e1 (wO_eq e2 (wO_pos rfl (wO_eq e3 (wO_some ?_))))))
      rw [nI_1]
    · have q : κ = 28 := q
      subst q
      refine wO_neg (by decide) (wO_eq hkd (wO_pos rfl (wO_eq hkd (wO_eq e1 (wO_eq e2 (wO_neg (by decide) (wO_eq e3 (wO_some ?_))))))))
      rw [nI_1])
  intro s m t z c st hE hst hHd
  obtain ⟨s1, e1, f1, o1⟩ := hU s m t z c st hE (by omega)
  have fin : ∀ s2, mo_loop (xf_6_product_l5 rec (nI k)) (nI 0, s1) = some s2 → xf_6_product rec s (nI k) = some s2 := fun s2 e2 => wO_iff.mp (by
    unfold xf_6_product
    exact wO_eq e1 (wO_eq e2 (wO_some rfl)))
  rcases o1 with ⟨m1, Y, pd, t2, p1, p2, hE2, p4, p5, wf, ax, ay, fm, mb⟩ | ⟨f, p, g1, r, hr⟩
  · obtain ⟨s2, e2, f2, o2⟩ := e_loop (In := fun s => xf_6_unit rec s (nI k)) (L := xf_6_product_l5 rec (nI k)) hk (Nat.le_refl 1) (by omega) (fun s m t z c st h1 h2 _ => hU s m t z c st h1 (by omega)) (fun s f p h => x_unit_bad h) hLx hLo 401 s m t z c st 0 t2 s1 m1 Y pd (by omega) (by omega) (by omega) hHd (gPd_up p1) (fun q => by omega) hE2 p4 p5 (gWfr_up (by omega) wf) ax ay fm mb
    exact ⟨s2, fin s2 e2, f1.tr f2, o2⟩
  · exact ⟨s1, fin s1 (mo_loop_inr (hLx 0 s1 32 (by omega) (by omega) (x_kind_bad g1.1) (by omega))), f1, Or.inr ⟨f, p, g1, r, hr⟩⟩
theorem e_sum1 {K P V : Nat → Nat} {W : Nat → Int64} {N k : Nat} {rec : xs_S → Int32 → Option xs_S} (hk : k ≤ 6)
    (hU : ∀ s m t z c st, gEs K P V W N t k z c st s m → st.length ≤ 3 * k + 1 → gHd 1 st → ∃ s2, xf_6_product rec s (nI k) = some s2 ∧ xsF xKei [21] s s2 ∧ gOu K P V W N t k z c st 1 s m s2) :
    ∀ s m t z c st, gEs K P V W N t k z c st s m → st.length ≤ 3 * k → gHd 2 st → ∃ s2, xg_6_sum rec s (nI k) = some s2 ∧ xsF xKei [21] s s2 ∧ gOu K P V W N t k z c st 2 s m s2 := by
  have hLx : ∀ (i : Nat) (s : xs_S) (κ : Nat), i < 400 → κ < 34 → xf_6_kind s = some (nI κ, s) → ¬ (κ = 29 - 2 * 2 ∨ κ = 30 - 2 * 2) → xg_6_sum_l5 rec (nI k) (nI i, s) = some (.inr s) := fun i s κ hi hκ hkd hne => wO_iff.mp (by
    unfold xg_6_sum_l5
    exact wO_neg (show ¬ (400 : Int32) ≤ nI i from nI_ge (b := 400) hi (by omega)) (wO_eq hkd (wO_neg (fun e => hne (Or.inl ((nI_eq (b := 25) (by omega) (by omega)).mp e))) (wO_eq hkd (wO_neg (fun e => hne (Or.inr ((nI_eq (b := 26) (by omega) (by omega)).mp e))) (wO_some rfl))))))
  have hLo : ∀ (i : Nat) (s : xs_S) (κ : Nat) (b : Int32) (s6 s7 s9 : xs_S), i < 400 → κ < 34 → xf_6_kind s = some (nI κ, s) → (κ = 29 - 2 * 2 ∨ κ = 30 - 2 * 2) → xf_6_take s (nI κ) = some (b, s6) → (fun s => xf_6_product rec s (nI k)) s6 = some s7 → xf_3_emit_20 s7 (nI (19975 + κ)) = some s9 → xg_6_sum_l5 rec (nI k) (nI i, s) = some (.inl (nI (i + 1), s9)) := fun i s κ b s6 s7 s9 hi hκ hkd hor e1 e2 e3 => wO_iff.mp (by
    have e2 : xf_6_product rec s6 (nI k) = some s7 := e2
    unfold xg_6_sum_l5 xg_6_sum_j16 xg_6_sum_j35
    refine wO_neg (show ¬ (400 : Int32) ≤ nI i from nI_ge (b := 400) hi (by omega)) (wO_eq hkd ?_)
    rcases hor with q | q
    · have q : κ = 25 := q
      subst q
      refine wO_pos rfl (wO_eq hkd (wO_eq e1 (wO_eq e2 (wO_pos rfl (wO_eq e3 (wO_some ?_))))))
      rw [nI_1]
    · have q : κ = 26 := q
      subst q
      refine wO_neg (by decide) (wO_eq hkd (wO_pos rfl (wO_eq hkd (wO_eq e1 (wO_eq e2 (wO_neg (by decide) (wO_eq e3 (wO_some ?_))))))))
      rw [nI_1])
  intro s m t z c st hE hst hHd
  have hHd1 : gHd 1 st := fun _ => by
    rcases hHd (by omega) with q | ⟨h, τ, q1, q2, q3⟩
    · exact Or.inl q
    · refine Or.inr ⟨h, τ, q1, q2, ?_⟩
      rcases q3 with q | q
      · exact Or.inl q
      · omega
  obtain ⟨s1, e1, f1, o1⟩ := hU s m t z c st hE (by omega) hHd1
  have fin : ∀ s2, mo_loop (xg_6_sum_l5 rec (nI k)) (nI 0, s1) = some s2 → xg_6_sum rec s (nI k) = some s2 := fun s2 e2 => wO_iff.mp (by
    unfold xg_6_sum
    exact wO_eq e1 (wO_eq e2 (wO_some rfl)))
  rcases o1 with ⟨m1, Y, pd, t2, p1, p2, hE2, p4, p5, wf, ax, ay, fm, mb⟩ | ⟨f, p, g1, r, hr⟩
  · obtain ⟨s2, e2, f2, o2⟩ := e_loop (In := fun s => xf_6_product rec s (nI k)) (L := xg_6_sum_l5 rec (nI k)) hk (show 1 ≤ 2 by omega) (Nat.le_refl 2) (fun s m t z c st h1 h2 h3 => hU s m t z c st h1 (by omega) h3) (fun s f p h => x_product_bad h) hLx hLo 401 s m t z c st 0 t2 s1 m1 Y pd (by omega) (by omega) (by omega) hHd (gPd_up p1) (fun _ => p2.1 (by omega)) hE2 p4 p5 (gWfr_up (by omega) wf) ax ay fm mb
    exact ⟨s2, fin s2 e2, f1.tr f2, o2⟩
  · exact ⟨s1, fin s1 (mo_loop_inr (hLx 0 s1 32 (by omega) (by omega) (x_kind_bad g1.1) (by omega))), f1, Or.inr ⟨f, p, g1, r, hr⟩⟩
theorem e_sum {K P V : Nat → Nat} {W : Nat → Int64} {N : Nat} : ∀ (f k : Nat), 7 ≤ f + k → k ≤ 6 → ∀ s m t z c st, gEs K P V W N t k z c st s m → st.length ≤ 3 * k → gHd 2 st → ∃ s2, xf_6_sum f s (nI k) = some s2 ∧ xsF xKei [21] s s2 ∧ gOu K P V W N t k z c st 2 s m s2 := by
  intro f
  induction f with
  | zero =>
    intro k h1 h2
    omega
  | succ f ih =>
    intro k h1 h2
    refine e_sum1 (rec := xf_6_sum f) h2 (e_product h2 (e_unit h2 (fun hk s m t z c st hE hst hHd => ih (k + 1) (by omega) (by omega) s m t z c st hE hst hHd) (fun hk s f2 p h => ?_)))
    obtain ⟨f3, rfl⟩ : ∃ f3, f = f3 + 1 := ⟨f - 1, by omega⟩
    exact x_sum_bad h
def gKx : List Nat := [11, 12, 13, 14, 39, 40, 41, 42, 43]
/-- a whole expression: both go on alike, or the same fault -/
theorem e_expr {K P V : Nat → Nat} {W : Nat → Int64} {N t z c : Nat} {s : xs_S} {m : ms_S} (hT : gTok K P V W N s m) (hH : gHl N t s m) (hz : s.1 321 = nI z) (hzt : z ≤ t) (h12 : m.1 12 = 0) (h39 : m.1 39 = nI c) (hc : c ≤ 420 + t) : ∃ s2 m2, xf_6_sum 8 s 0 = some s2 ∧ mf_expression m = some m2 ∧ xsF xKei [21] s s2 ∧ msF gKe m m2 ∧ ((∃ X t2, gTok K P V W N s2 m2 ∧ gHl N t2 s2 m2 ∧ m2.1 12 = 0 ∧ t < t2 ∧ t + X.length ≤ t2 ∧ gWfr 20 X 0 1 ∧ gAx z X s s2 ∧ gAy c X m m2) ∨ ∃ f p, gXb P N f p s2 ∧ gFm2 f p m2 ∧ ∃ t2, t2 ≤ 400 ∧ m2.1 11 = nI t2) := by
  have hN := hT.1
  generalize hm0 : ms_sI m 43 0 = m0
  have f0 : msF gKe m m0 := by rw [← hm0]; exact msF.sI (by decide)
  have hT0 : gTok K P V W N s m0 := by rw [← hm0]; exact hT.mv rfl rfl rfl rfl rfl rfl rfl rfl
  have hE : gEs K P V W N t 0 z c [] s m0 := by
    rw [← hm0] at hT0 ⊢
    exact ⟨hT0, hH, hz, hzt, h12, by omega, h39, ⟨rfl, fun j a hj => by simp at hj⟩, by show c + 0 ≤ _; omega, fun o ho => by simp at ho⟩
  obtain ⟨s2, e2, f2, o2⟩ := e_sum 8 0 (by omega) (by omega) s m0 t z c [] hE (by show 0 ≤ _; omega) (fun _ => Or.inl rfl)
  have e2 : xf_6_sum 8 s 0 = some s2 := e2
  have i13 : m0.1 13 = 0 := by rw [← hm0]; exact hH.2.2.2.2
  have start : ∀ r : eX, mB m0 = some r → mo_loop (mf_expression_l8 (m.1 12)) ((1 : Int32), ms_sI m 43 0) = some r := fun r hr => by
    rw [h12, hm0, mB_of i13]
    exact hr
  rcases o2 with ⟨m1, Y, pd, t2, p1, p2, hE2, p4, p5, wf, ax, ay, fm, mb⟩ | ⟨f, p, g2, r, hr1, hr2⟩
  · obtain ⟨hT2, hH2, hz2, hzt2, h122, hk62, h392, hW2, hc2, ho2⟩ := id hE2
    have ht2 := hH2.1
    have hend := A_end hE2 (by have h27 := p2.1 (by omega); have h25 := p2.2 (by omega); omega) (Or.inr rfl)
    have hlX : (Y ++ pd.map gOpi).length = Y.length + pd.length := by rw [List.length_append, List.length_map]
    have hlp : (pd ++ ([] : List Nat)).length = pd.length := by rw [List.append_nil]
    have hpl := p1.1
    obtain ⟨m3, e3, f3, w3, a3⟩ := m_comesOut (b := false) (σ := []) (pd := pd) (c := c + Y.length) (Or.inl rfl) (fun o ho => by
      rcases p1.2 o ho with q | q | ⟨-, q⟩
      · exact Or.inl q
      · exact Or.inr (Or.inl q)
      · exact Or.inr (Or.inr ⟨rfl, q⟩)) hW2 (by omega) h392 (by omega)
    refine ⟨s2, m3, e2, wO_iff.mp ?_, f2, f0.tr (fm.tr (f3.wk (by decide))), Or.inl ⟨Y ++ pd.map gOpi, t2, ?_, ?_, ?_, p5, p4, gWfr_up (by omega) wf, ax, ?_⟩⟩
    · unfold mf_expression mf_expression_j106
      refine wO_eq (start _ (mb.trans hend)) (wO_pos ?_ (wO_eq e3 (wO_some rfl)))
      rw [h12, h122]
      exact Int32.le_refl _
    · exact hT2.mv rfl rfl rfl rfl (f3.a 5 (by decide)) (f3.a 6 (by decide)) (f3.a 7 (by decide)) (by rw [f3.2])
    · exact ⟨ht2, hH2.2.1, hH2.2.2.1, (f3.i 11 (by decide)).trans hH2.2.2.2.1, (f3.i 13 (by decide)).trans hH2.2.2.2.2⟩
    · exact (f3.i 12 (by decide)).trans h122
    · refine (ay.tr a3).mv0 ?_ ?_
      · rw [← hm0]; rfl
      · rw [← hm0]; rfl
  · obtain ⟨m2, fm2, ⟨t2, ht2, q11⟩, hr2⟩ := hr2
    have fm02 : msF gKe m m2 := f0.tr fm2
    rcases hr2 with ⟨q, g3⟩ | ⟨rfl, ⟨st, c2, w2, l2, o3, h392, hc2⟩, hg⟩
    · refine ⟨s2, m2, e2, wO_iff.mp ?_, f2, fm02, Or.inr ⟨f, p, g2, g3, t2, ht2, q11⟩⟩
      unfold mf_expression
      refine wO_eq (start r hr1) ?_
      rcases q with rfl | rfl
      · exact wO_some rfl
      · exact wO_some rfl
    · obtain ⟨pd, σ, es, hpd, hσ⟩ := gE_ops o3
      -- the stack comes out, whatever it holds
      have out : ∀ m3 : ms_S, gFm2 f p m3 → msF gKe m2 m3 → m3.1 43 = m2.1 43 → m3.2.1 42 = m2.2.1 42 → m3.1 39 = m2.1 39 → (∃ t3, t3 ≤ 400 ∧ m3.1 11 = nI t3) → ∃ m4, mf_comesOut m3 0 = some m4 ∧ msF gKe m2 m4 ∧ gFm2 f p m4 ∧ ∃ t3, t3 ≤ 400 ∧ m4.1 11 = nI t3 := fun m3 g3 f3 q1 q2 q3 ⟨t3, ht3, q4⟩ => by
        have hl2 : st.length = pd.length + σ.length := by rw [es]; exact List.length_append ..
        obtain ⟨m4, e4, f4, -, -⟩ := m_comesOut (b := false) (σ := σ) (pd := pd) (m := m3) (c := c2) hσ hpd ⟨by rw [← es]; exact q1.trans w2.1, by rw [← es, q2]; exact w2.2⟩ (by rw [← es]; exact l2) (q3.trans h392) (by omega)
        exact ⟨m4, e4, f3.tr (f4.wk (by decide)), ⟨g3.1, g3.2.1, (f4.i 13 (by decide)).trans g3.2.2.1, (f4.i 14 (by decide)).trans g3.2.2.2⟩, t3, ht3, (f4.i 11 (by decide)).trans q4⟩
      rcases hg with g3 | ⟨rfl, t3, k3, s3, hT3, hH3, hP3, q12, hk1, hk7⟩
      · obtain ⟨m4, e4, f4, g4, q4⟩ := out m2 g3 msF.rf rfl rfl rfl ⟨t2, ht2, q11⟩
        refine ⟨s2, m4, e2, wO_iff.mp ?_, f2, fm02.tr f4, Or.inr ⟨f, p, g2, g4, q4⟩⟩
        unfold mf_expression mf_expression_j106
        refine wO_eq (start _ hr1) ?_
        show wO (if (m2.1 12) ≤ (m.1 12) then _ else _) _
        exact wO_ite (fun _ => wO_eq e4 (wO_some rfl)) (fun _ => wO_eq (m_fail_bad g3 1) (wO_eq e4 (wO_some rfl)))
      · obtain ⟨m3, e3, f3, g3, q3⟩ := m_fail (f := 1) hT3 hH3 (by omega) (by omega)
        rw [hP3] at g3
        obtain ⟨m4, e4, f4, g4, q4⟩ := out m3 g3 (f3.wk (by decide)) (f3.i 43 (by decide)) (f3.a 42 (by decide)) (f3.i 39 (by decide)) ⟨t2, ht2, q3.trans q11⟩
        refine ⟨s2, m4, e2, wO_iff.mp ?_, f2, fm02.tr f4, Or.inr ⟨1, p, g2, g4, q4⟩⟩
        unfold mf_expression mf_expression_j106
        refine wO_eq (start _ hr1) (wO_neg ?_ (wO_eq e3 (wO_eq e4 (wO_some rfl))))
        rw [h12, q12]
        exact nI_nle hk1 (by omega)
