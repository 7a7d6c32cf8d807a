/-! reading: products and sums, both -/
def gPd (j : Nat) (pd : List Nat) : Prop := pd.length ≤ j ∧ ∀ o, o ∈ pd → o = 10 ∨ o = 15 ∨ (2 ≤ j ∧ (o = 8 ∨ o = 9))
def gHd (j : Nat) (st : List Nat) : Prop := 1 ≤ j → (st = [] ∨ ∃ h τ, st = h :: τ ∧ h < 100 ∧ (h = 6 ∨ (j = 1 ∧ (h = 8 ∨ h = 9))))
def gStop (K : Nat → Nat) (j t : Nat) : Prop := (1 ≤ j → ¬ K t = 27 ∧ ¬ K t = 28) ∧ (2 ≤ j → ¬ K t = 25 ∧ ¬ K t = 26)
/-- how a unit (j = 0), a product (1), a sum (2) comes out -/
def gOu (K P V : Nat → Nat) (W : Nat → Int64) (N t k z c : Nat) (st : List Nat) (j : Nat) (s0 : xs_S) (m0 : ms_S) (s : xs_S) : Prop := (∃ m Y pd t2, gPd j pd ∧ gStop K j t2 ∧ gEs K P V W N t2 k (z + (Y ++ pd.map gOpi).length) (c + Y.length) (pd ++ st) s m ∧ t + (Y ++ pd.map gOpi).length ≤ t2 ∧ t < t2 ∧ gWfr (1 + j + 2 * (6 - k)) (Y ++ pd.map gOpi) 0 1 ∧ gAx z (Y ++ pd.map gOpi) s0 s ∧ gAy c Y m0 m ∧ msF gKe m0 m ∧ mB m0 = mA m) ∨ (∃ f p, gXb P N f p s ∧ ∃ r, mB m0 = some r ∧ gBx K P V W N f p m0 r)
theorem gBx.pre {K P V : Nat → Nat} {W : Nat → Int64} {N f p : Nat} {m0 m1 : ms_S} {r : eX} (h : gBx K P V W N f p m1 r) (hF : msF gKe m0 m1) : gBx K P V W N f p m0 r := by
  obtain ⟨m2, f2, h2⟩ := h
  exact ⟨m2, hF.tr f2, h2⟩
theorem gEs_em1 {K P V : Nat → Nat} {W : Nat → Int64} {N t k z c : Nat} {st : List Nat} {s : xs_S} {m : ms_S} (h : gEs K P V W N t k z c st s m) : gEm1 s := ⟨z, by have h1 := h.2.2.2.1; have h2 := h.2.1.1; have h3 := h.1.1; omega, h.2.2.1⟩
theorem gXb_of {K P V : Nat → Nat} {W : Nat → Int64} {N f p : Nat} {s s2 : xs_S} {m : ms_S} (hT : gTok K P V W N s m) (hE : gEm1 s) (hF : xsF [100, 101] [] s s2) (h : gFx P N f p s2) : gXb P N f p s2 := by
  obtain ⟨z, z1, z2⟩ := hE
  obtain ⟨C, c1, c2, c3⟩ := hT.2.1
  exact ⟨h, ⟨z, z1, (hF.1 321 (by decide)).trans z2⟩, C, c1, c2, (hF.1 21 (by decide)).trans c3⟩
theorem gOp_cst : ∀ k, k < 34 → 25 ≤ k → k ≤ 28 → gCst (gOpi (gMk2 k)) = nI (19975 + k) ∧ gItk (gOpi (gMk2 k)) ∧ ¬ (gOpi (gMk2 k)).1 < 2 := by
  intro k h1 h2 h3
  have hc : ∀ k, k < 34 → 25 ≤ k → k ≤ 28 → gCst (gOpi (gMk2 k)) = nI (19975 + k) ∧ ¬ (gOpi (gMk2 k)).1 < 2 ∧ 2 ≤ (gOpi (gMk2 k)).1 ∧ (gOpi (gMk2 k)).1 ≤ 5 := by decide
  obtain ⟨q1, q2, q3, q4⟩ := hc k h1 h2 h3
  exact ⟨q1, Or.inr (Or.inr ⟨q3, q4⟩), q2⟩
theorem e_loop {K P V : Nat → Nat} {W : Nat → Int64} {N k j : Nat} {In : xs_S → Option xs_S} {L : (Int32 × xs_S) → Option ((Int32 × xs_S) ⊕ xs_S)} (hk : k ≤ 6) (hj1 : 1 ≤ j) (hj2 : j ≤ 2)
    (hIn : ∀ s m t z c st, gEs K P V W N t k z c st s m → st.length ≤ 3 * k + 3 - j → gHd (j - 1) st → ∃ s2, In s = some s2 ∧ xsF xKei [21] s s2 ∧ gOu K P V W N t k z c st (j - 1) s m s2)
    (hInb : ∀ s f p, gXb P N f p s → ∃ s2, In s = some s2 ∧ xsF [321] [21] s s2 ∧ gXb P N f p s2)
    (hLx : ∀ i s κ, i < 400 → κ < 34 → xf_6_kind s = some (nI κ, s) → ¬ (κ = 29 - 2 * j ∨ κ = 30 - 2 * j) → L (nI i, s) = some (.inr s))
    (hLo : ∀ i s κ b s6 s7 s9, i < 400 → κ < 34 → xf_6_kind s = some (nI κ, s) → (κ = 29 - 2 * j ∨ κ = 30 - 2 * j) → xf_6_take s (nI κ) = some (b, s6) → In s6 = some s7 → xf_3_emit_20 s7 (nI (19975 + κ)) = some s9 → L (nI i, s) = some (.inl (nI (i + 1), s9))) :
    ∀ (n : Nat) (s0 : xs_S) (m0 : ms_S) (t0 z c : Nat) (st : List Nat) (i t : Nat) (s : xs_S) (m : ms_S) (Y : List gIt) (pd : List Nat), 401 ≤ n + t → 2 * i + 1 ≤ t → st.length ≤ 3 * k + 2 - j → gHd j st → gPd j pd → (2 ≤ j → ¬ K t = 27 ∧ ¬ K t = 28) → gEs K P V W N t k (z + (Y ++ pd.map gOpi).length) (c + Y.length) (pd ++ st) s m → t0 + (Y ++ pd.map gOpi).length ≤ t → t0 < t → gWfr (1 + j + 2 * (6 - k)) (Y ++ pd.map gOpi) 0 1 → gAx z (Y ++ pd.map gOpi) s0 s → gAy c Y m0 m → msF gKe m0 m → mB m0 = mA m → ∃ s2, mo_loop L (nI i, s) = some s2 ∧ xsF xKei [21] s s2 ∧ gOu K P V W N t0 k z c st j s0 m0 s2 := by
  intro n
  induction n with
  | zero =>
    intro s0 m0 t0 z c st i t s m Y pd h1 h2 h3 h4 h5 h6 h7
    have hN := h7.1.1
    have ht := h7.2.1.1
    omega
  | succ n ih =>
    intro s0 m0 t0 z c st i t s m Y pd h1 h2 h3 h4 h5 h6 hE h8 h9 hwf hax hay hF hmB
    obtain ⟨hT, hH, hz, hzt, h12, hk6, h39, hW, hc, ho⟩ := id hE
    have hN := hT.1
    have ht := hH.1
    have hKt := (hT.2.2.2.2 t ht).1
    have hkd := x_kind hT hH
    have hlp : (pd ++ st).length = pd.length + st.length := List.length_append ..
    have hpl := h5.1
    have i400 : i < 400 := by omega
    by_cases hop : K t = 29 - 2 * j ∨ K t = 30 - 2 * j
    · -- an operator
      have hK25 : 25 ≤ K t ∧ K t ≤ 28 := by omega
      obtain ⟨oc1, oc2, oc3⟩ := gOp_cst (K t) hKt hK25.1 hK25.2
      obtain ⟨s1, f1, hx⟩ := x_take hT hH hKt
      have hb : ∃ b : Bool, ((b = false ∧ (K t = 25 ∨ K t = 26)) ∨ (b = true ∧ (K t = 27 ∨ K t = 28))) ∧ (st = [] ∨ ∃ h τ, st = h :: τ ∧ h < 100 ∧ (h = 6 ∨ (b = true ∧ (h = 8 ∨ h = 9)))) ∧ (∀ o, o ∈ pd → o = 10 ∨ o = 15 ∨ (b = false ∧ (o = 8 ∨ o = 9))) := by
        rcases (show j = 1 ∨ j = 2 by omega) with rfl | rfl
        · refine ⟨true, Or.inr ⟨rfl, by omega⟩, ?_, fun o ho2 => ?_⟩
          · rcases h4 (by omega) with q | ⟨h, τ, q1, q2, q3⟩
            · exact Or.inl q
            · exact Or.inr ⟨h, τ, q1, q2, q3.imp id (fun q => ⟨rfl, q.2⟩)⟩
          · rcases h5.2 o ho2 with q | q | ⟨q, -⟩
            · exact Or.inl q
            · exact Or.inr (Or.inl q)
            · omega
        · refine ⟨false, Or.inl ⟨rfl, by omega⟩, ?_, fun o ho2 => ?_⟩
          · rcases h4 (by omega) with q | ⟨h, τ, q1, q2, q3⟩
            · exact Or.inl q
            · refine Or.inr ⟨h, τ, q1, q2, Or.inl ?_⟩
              rcases q3 with q | q
              · exact q
              · omega
          · rcases h5.2 o ho2 with q | q | ⟨-, q⟩
            · exact Or.inl q
            · exact Or.inr (Or.inl q)
            · exact Or.inr (Or.inr ⟨rfl, q⟩)
      obtain ⟨b, hb1, hb2, hb3⟩ := hb
      obtain ⟨m1, fm1, q12, w1, a1, hA⟩ := A_op b hE (by omega) hb1 hb2 hb3
      have hT1 : gTok K P V W N s1 m1 := hT.mv (f1.1 21 (by decide)) (f1.2.1 3 (by decide)) (f1.2.1 4 (by decide)) (by rw [f1.2.2.1]) (fm1.a 5 (by decide)) (fm1.a 6 (by decide)) (fm1.a 7 (by decide)) (by rw [fm1.2])
      -- the class behind a fault goes on to the loop's end
      have badend : ∀ (f p : Nat) (s7 : xs_S) (bb : Int32), xf_6_take s (nI (K t)) = some (bb, s1) → In s1 = some s7 → xsF xKei [21] s s7 → gXb P N f p s7 → (∃ r, mB m0 = some r ∧ gBx K P V W N f p m0 r) → ∃ s2, mo_loop L (nI i, s) = some s2 ∧ xsF xKei [21] s s2 ∧ gOu K P V W N t0 k z c st j s0 m0 s2 := fun f p s7 bb e1 e2 f7 g7 hr => by
        obtain ⟨s9, e9, f9, g9⟩ := x_emit_any (v := nI (19975 + K t)) g7.2.1
        have g10 := g7.mv f9 g9
        refine ⟨s9, ?_, f7.tr (f9.wk (by decide) (by decide)), Or.inr ⟨f, p, g10, hr⟩⟩
        rw [mo_loop_inl (hLo i s (K t) bb s1 s7 s9 i400 hKt hkd hop e1 e2 e9)]
        exact mo_loop_inr (hLx (i + 1) s9 32 (by omega) (by omega) (x_kind_bad g10.1) (by omega))
      rcases hx with ⟨-, t400, e1, i100, i101⟩ | ⟨q1, e1, g1⟩
      · rcases hA with ⟨-, hA1, hA2, hA3⟩ | ⟨hA0, -⟩
        · have hH1 : gHl N (t + 1) s1 m1 := ⟨gHl_next hT ht (by omega) (by omega) t400, i100, i101, hA2, hA3⟩
          have hlX : (Y ++ pd.map gOpi).length = Y.length + pd.length := by rw [List.length_append, List.length_map]
          have hay1 : gAy c (Y ++ pd.map gOpi) m0 m1 := hay.tr a1
          have hE1 : gEs K P V W N (t + 1) k (z + (Y ++ pd.map gOpi).length) (c + (Y ++ pd.map gOpi).length) (gMk2 (K t) :: st) s1 m1 := by
            refine ⟨hT1, hH1, (f1.1 321 (by decide)).trans hz, by omega, q12, hk6, hay1.1, w1, ?_, fun o ho2 => ?_⟩
            · show c + (Y ++ pd.map gOpi).length + (st.length + 1) ≤ _
              omega
            · rcases List.mem_cons.mp ho2 with q | q
              · have : ∀ k, k < 34 → 25 ≤ k → k ≤ 28 → gMk2 k = 8 ∨ gMk2 k = 9 ∨ gMk2 k = 10 ∨ gMk2 k = 15 := by decide
                rw [q]
                exact Or.inr (this _ hKt hK25.1 hK25.2)
              · exact ho o (List.mem_append_right _ q)
          have hHd1 : gHd (j - 1) (gMk2 (K t) :: st) := fun hj => by
            have e2 : j = 2 := by omega
            subst e2
            refine Or.inr ⟨gMk2 (K t), st, rfl, by have := gMk2_le _ hKt; omega, Or.inr ⟨rfl, ?_⟩⟩
            have : ∀ k, k < 34 → 25 ≤ k → k ≤ 26 → gMk2 k = 8 ∨ gMk2 k = 9 := by decide
            exact this _ hKt hK25.1 (by omega)
          obtain ⟨s2, e2, f2, o2⟩ := hIn s1 m1 (t + 1) _ _ (gMk2 (K t) :: st) hE1 (by show st.length + 1 ≤ _; omega) hHd1
          have f12 : xsF xKei [21] s s2 := (f1.wk (by decide) (by decide)).tr f2
          have mB1 : mB m0 = mB m1 := hmB.trans hA1
          have fm01 : msF gKe m0 m1 := hF.tr fm1
          rcases o2 with ⟨m2, Y2, pd2, t2, p1, p2, hE2, p4, p5, wf2, ax2, ay2, fm2, mb2⟩ | ⟨f, p, g2, r, hr1, hr2⟩
          · obtain ⟨hT2, hH2, hz2, hzt2, h122, -, h392, hW2, hc2, ho2⟩ := id hE2
            have ht2 := hH2.1
            have hN2 := hT2.1
            have ax1 : gAx z (Y ++ pd.map gOpi) s0 s1 := hax.mv (f1.1 321 (by decide)) (f1.2.1 21 (by decide))
            have ax12 : gAx z ((Y ++ pd.map gOpi) ++ (Y2 ++ pd2.map gOpi)) s0 s2 := ax1.tr ax2
            have hl12 : ((Y ++ pd.map gOpi) ++ (Y2 ++ pd2.map gOpi)).length = (Y ++ pd.map gOpi).length + (Y2 ++ pd2.map gOpi).length := List.length_append ..
            obtain ⟨s3, e3, f3, ax3⟩ := x_emit1 (x := gOpi (gMk2 (K t))) ax12 (by omega)
            rw [oc1] at e3
            have f13 : xsF xKei [21] s s3 := f12.tr (f3.wk (by decide) (by decide))
            have eX2 : (Y ++ pd.map gOpi) ++ (Y2 ++ pd2.map gOpi) ++ [gOpi (gMk2 (K t))] = ((Y ++ pd.map gOpi) ++ Y2) ++ (pd2 ++ [gMk2 (K t)]).map gOpi := by
              simp only [List.map_append, List.append_assoc]
              rfl
            rw [eX2] at ax3
            have hl3 : (((Y ++ pd.map gOpi) ++ Y2) ++ (pd2 ++ [gMk2 (K t)]).map gOpi).length = (Y ++ pd.map gOpi).length + (Y2 ++ pd2.map gOpi).length + 1 := by
              rw [← eX2, List.length_append, hl12]
              rfl
            have hstep := hLo i s (K t) 1 s1 s2 s3 i400 hKt hkd hop e1 e2 e3
            rw [mo_loop_inl hstep]
            have hpd3 : gPd j (pd2 ++ [gMk2 (K t)]) := by
              refine ⟨by rw [List.length_append]; have := p1.1; show pd2.length + 1 ≤ j; omega, fun o ho3 => ?_⟩
              rcases List.mem_append.mp ho3 with q | q
              · rcases p1.2 o q with q | q | ⟨q, q2⟩
                · exact Or.inl q
                · exact Or.inr (Or.inl q)
                · exact Or.inr (Or.inr ⟨by omega, q2⟩)
              · rw [List.mem_singleton.mp q]
                have c1 : ∀ k, k < 34 → 25 ≤ k → k ≤ 26 → gMk2 k = 8 ∨ gMk2 k = 9 := by decide
                have c2 : ∀ k, k < 34 → 27 ≤ k → k ≤ 28 → gMk2 k = 10 ∨ gMk2 k = 15 := by decide
                by_cases c27 : 27 ≤ K t
                · rcases c2 _ hKt c27 hK25.2 with q | q
                  · exact Or.inl q
                  · exact Or.inr (Or.inl q)
                · exact Or.inr (Or.inr ⟨by omega, c1 _ hKt hK25.1 (by omega)⟩)
            have est : (pd2 ++ [gMk2 (K t)]) ++ st = pd2 ++ (gMk2 (K t) :: st) := by rw [List.append_assoc]; rfl
            have hly : ((Y ++ pd.map gOpi) ++ Y2).length = (Y ++ pd.map gOpi).length + Y2.length := List.length_append ..
            have hE3 : gEs K P V W N t2 k (z + (((Y ++ pd.map gOpi) ++ Y2) ++ (pd2 ++ [gMk2 (K t)]).map gOpi).length) (c + ((Y ++ pd.map gOpi) ++ Y2).length) ((pd2 ++ [gMk2 (K t)]) ++ st) s3 m2 := by
              rw [est, hly, ← Nat.add_assoc]
              refine ⟨hT2.mv (f3.1 21 (by decide)) (f3.2.1 3 (by decide)) (f3.2.1 4 (by decide)) (by rw [f3.2.2.1]) rfl rfl rfl rfl, ⟨ht2, (f3.1 100 (by decide)).trans hH2.2.1, (f3.1 101 (by decide)).trans hH2.2.2.1, hH2.2.2.2⟩, ax3.1, ?_, h122, hk6, h392, hW2, hc2, ho2⟩
              rw [hl3]
              omega
            have wf3 : gWfr (1 + j + 2 * (6 - k)) (((Y ++ pd.map gOpi) ++ Y2) ++ (pd2 ++ [gMk2 (K t)]).map gOpi) 0 1 := by
              rw [← eX2]
              refine gWfr_app (gWfr_app hwf (h2 := 2) ?_) ?_
              · have := gWfr_sh (j := 1) wf2
                rw [show 1 + (j - 1) + 2 * (6 - k) + 1 = 1 + j + 2 * (6 - k) by omega] at this
                exact this
              · refine ⟨oc2, ?_⟩
                rw [if_neg oc3]
                exact ⟨by omega, rfl⟩
            obtain ⟨s9, e9, f9, o9⟩ := ih s0 m0 t0 z c st (i + 1) t2 s3 m2 ((Y ++ pd.map gOpi) ++ Y2) (pd2 ++ [gMk2 (K t)]) (by omega) (by omega) h3 h4 hpd3 (fun hj => by have := p2.1 (by omega); exact this) hE3 (by rw [hl3]; omega) (by omega) wf3 ax3 (hay1.tr ay2) (fm01.tr fm2) (mB1.trans mb2)
            exact ⟨s9, e9, f13.tr f9, o9⟩
          · exact badend f p s2 1 e1 e2 f12 g2 ⟨r, mB1.trans hr1, hr2.pre fm01⟩
        · omega
      · rcases q1 with ⟨-, t400⟩ | q1
        · rcases hA with ⟨hA0, -⟩ | ⟨hA0, hA1, hA2, hA3⟩
          · omega
          · rw [if_pos rfl] at g1
            have g1b : gXb P N 2 (P t) s1 := gXb_of hT (gEs_em1 hE) f1 g1
            obtain ⟨s2, e2, f2, g2⟩ := hInb s1 2 (P t) g1b
            exact badend 2 (P t) s2 0 e1 e2 ((f1.wk (by decide) (by decide)).tr (f2.wk (by decide) (by decide))) g2 ⟨_, hmB.trans hA1, m1, hF.tr fm1, ⟨400, by omega, hA3⟩, Or.inl ⟨Or.inr rfl, hA2⟩⟩
        · exact absurd rfl q1
    · -- the end
      refine ⟨s, mo_loop_inr (hLx i s (K t) i400 hKt hkd hop), xsF.rf, Or.inl ⟨m, Y, pd, t, h5, ⟨fun q => ?_, fun q => ?_⟩, hE, h8, h9, hwf, hax, hay, hF, hmB⟩⟩
      · rcases (show j = 1 ∨ j = 2 by omega) with e | e
        · subst e; exact ⟨fun q => hop (by omega), fun q => hop (by omega)⟩
        · exact h6 (by omega)
      · exact ⟨fun q => hop (by omega), fun q => hop (by omega)⟩
