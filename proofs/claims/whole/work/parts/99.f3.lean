/-! reading: one test of a law, both sides -/
def gBc (b : gB3) : Nat := b.1.length + b.2.1.length + b.2.2.length
/-- of the branches only B is written, codes within the side -/
def gFsq (sd B : Nat) (m n : ms_S) : Prop := msF gKl m n ∧ (∀ j, j ∈ [34, 35, 36, 37, 38] → ∀ i, ¬ i = B → n.2.1 j i = m.2.1 j i) ∧ gCq sd m n
theorem gFsq.tr {sd B : Nat} {a b c : ms_S} (h : gFsq sd B a b) (k : gFsq sd B b c) : gFsq sd B a c := ⟨h.1.tr k.1, fun j hj i hi => (k.2.1 j hj i hi).trans (h.2.1 j hj i hi), h.2.2.tr k.2.2⟩
theorem gFq.fs {sd B : Nat} {a b : ms_S} (h : gFq B a b) : gFsq sd B a b := ⟨h.1, h.2.1, fun i _ => by rw [h.2.2.1, h.2.2.2]; exact ⟨rfl, rfl⟩⟩
theorem gFsq.ex {sd B : Nat} {a b : ms_S} (h : msF gKe a b) (hq : gCq sd a b) : gFsq sd B a b := by
  have q : ∀ j, j ∈ [34, 35, 36, 37, 38] → ¬ j ∈ gKe := by decide
  refine ⟨h.wk (by decide), fun j hj i _ => ?_, hq⟩
  rw [h.a j (q j hj)]
theorem gFsq.mu {sd B : Nat} {a b : ms_S} (h : msF [11, 13, 14] a b) : gFsq sd B a b := (gFq.of h (by decide)).fs
theorem gArw.len {z n : Nat} {L : List Int32} {s0 s : xs_S} (h : gArw n L s0 s) (e : n = z) : gArw z L s0 s := e ▸ h
theorem e_if {K P V : Nat → Nat} {W : Nat → Int64} {N sd t z c B : Nat} {v1 v2 w x1 x2 y : Int32} {s : xs_S} {m : ms_S} (h : gLpp K P V W N sd t z c B s m) (hz : z ≤ t) (hB : 4 * B ≤ 520 * sd + t) (hK : K t = 9) : ∃ s2 m2, xf_6_tellLaw_j44 s v1 v2 w = some (.inl (w + 1, s2)) ∧ mf_tellLaw_j21 m x1 x2 y = some (.inl (y + 1, m2)) ∧ xsF xKei [21] s s2 ∧ gFsq sd B m m2 ∧ ((∃ (b : gB3) (t2 : Nat), gLpp K P V W N sd t2 (z + gBl b) (c + gBc b) (B + 1) s2 m2 ∧ t + gBl b + 1 ≤ t2 ∧ t + 4 ≤ t2 ∧ gWfr 20 b.1 0 1 ∧ gWfr 20 b.2.1 0 1 ∧ gWfr 20 b.2.2 0 1 ∧ gArw z (gBk b z) s s2 ∧ gBr2 (420 * sd) (c + gBc b) true b.1 b.2.1 b.2.2 B m2 ∧ ∀ j, j < c → m2.2.1 40 j = m.2.1 40 j ∧ m2.2.1 41 j = m.2.1 41 j) ∨ ∃ f p, gXb P N f p s2 ∧ gMb f p (B + 1) m2) := by
  have hsd : sd ≤ 1 := h.2.2.2.2.2.2.2.2
  have h33 := h.2.2.2.2.2.2.2.1
  have hB2 : B < 260 := by have := h.t4; omega
  have k1 : ∀ {a b : xs_S}, xsF [100, 101] [] a b → xsF xKei [21] a b := fun h => h.wk (by decide) (by decide)
  have k2 : ∀ {a b : xs_S}, xsF [321] [21] a b → xsF xKei [21] a b := fun h => h.wk (by decide) (by decide)
  have h13 : m.1 13 = 0 := h.2.1.2.2.2.2
  -- the word if
  obtain ⟨s1, m1, r1, e1, em1, f1, fm1, o1⟩ := l_take (k := 9) h hz (by omega)
  have g1 : mf_goesOn m = some m1 := by
    have q := m_is (k := 9) h.1 h.2.1 (by omega)
    rw [if_pos hK] at q
    unfold mf_must at em1
    rw [q] at em1
    have em1 : (if (1 : Int32) = 0 then (mf_fail m 1).bind fun s_3 => some s_3 else (mf_goesOn m).bind fun s_4 => some s_4) = some m1 := em1
    rw [if_neg (by decide)] at em1
    cases hg : mf_goesOn m with
    | none => rw [hg] at em1; cases em1
    | some n => rw [hg] at em1; exact em1
  have X1 : xf_6_tellLaw_j44 s v1 v2 w = xq2 w s1 := by
    rw [xq1_eq, show (9 : Int32) = nI 9 from rfl, e1]
    rfl
  have M1 : mf_tellLaw_j21 m x1 x2 y = mr2 (y + 1) m1 := by
    rw [mr1_eq, if_pos (by rw [h13]; decide), g1]
    rfl
  rcases o1 with ⟨-, h1⟩ | ⟨f, p, gx, gm⟩
  rotate_left
  · obtain ⟨s2, a1, a2, a3⟩ := xq2_bad (w := w) gx
    obtain ⟨m2, b1, b2, b3⟩ := mr2_bad (w := y + 1) gm hB2
    exact ⟨s2, m2, X1.trans a1, M1.trans b1, (k1 f1).tr (k2 a2), (gFsq.mu fm1).tr b2.fs, Or.inr ⟨f, p, a3, b3⟩⟩
  -- the first expression
  have i33 : m1.1 33 = nI B := h1.2.2.2.2.2.2.2.1
  have i39 : m1.1 39 = nI c := h1.2.2.2.2.1
  generalize hn1 : ms_sA (ms_sA m1 34 (upd (m1.2.1 34) B 1)) 35 (upd (m1.2.1 35) B (nI c)) = n1
  have fn1 : gFsq sd B m1 n1 := by
    rw [← hn1]
    exact ((gFq.up (B := B) (by decide) (fun i hi => upd_ne hi)).tr (gFq.up (by decide) (fun i hi => upd_ne hi))).fs
  have ln1 : gLpp K P V W N sd (t + 1) z c B s1 n1 := by rw [← hn1]; exact h1
  obtain ⟨s2, m2, e2, em2, f2, fm2, q2, o2⟩ := l_expr ln1 (by omega)
  have X2 : xq2 w s1 = xq3 w s2 := by
    unfold xq2
    rw [e2]
    rfl
  have M2 : mr2 (y + 1) m1 = mr3 (y + 1) m2 := by
    unfold mr2
    rw [i33, i39, pu_in (k := B) rfl hB2 (by omega), nI_clamp (by omega)]
    show (mf_expression (ms_sA (ms_sA m1 34 (upd (m1.2.1 34) B 1)) 35 (upd (m1.2.1 35) B (nI c)))).bind (fun s_11 => mr3 (y + 1) s_11) = _
    rw [hn1, em2]
    rfl
  have fA : xsF xKei [21] s s2 := (k1 f1).tr f2
  have gA : gFsq sd B m m2 := (gFsq.mu fm1).tr (fn1.tr (gFsq.ex fm2 q2))
  rcases o2 with ⟨U, t2, u1, u2, u3, h2, u4, u5⟩ | ⟨f, p, gx, gm⟩
  rotate_left
  · obtain ⟨s3, a1, a2, a3⟩ := xq3_bad (w := w) gx
    obtain ⟨m3, b1, b2, b3⟩ := mr3_bad (w := y + 1) gm hB2
    exact ⟨s3, m3, X1.trans (X2.trans a1), M1.trans (M2.trans b1), fA.tr (k2 a2), gA.tr b2.fs, Or.inr ⟨f, p, a3, b3⟩⟩
  -- the sign
  obtain ⟨s3, m3, r3, e3, em3, f3, fm3, o3⟩ := l_take (k := 29) h2 (by omega) (by omega)
  have X3 : xq3 w s2 = xq4 w s3 := by
    unfold xq3
    rw [show (29 : Int32) = nI 29 from rfl, e3]
    rfl
  have M3 : mr3 (y + 1) m2 = mr4 (y + 1) m3 := by
    unfold mr3
    rw [show (13 : Int32) = nI (gMk2 29) from rfl, em3]
    rfl
  rcases o3 with ⟨-, h3⟩ | ⟨f, p, gx, gm⟩
  rotate_left
  · obtain ⟨s4, a1, a2, a3⟩ := xq4_bad (w := w) gx
    obtain ⟨m4, b1, b2, b3⟩ := mr4_bad (w := y + 1) gm hB2
    exact ⟨s4, m4, X1.trans (X2.trans (X3.trans a1)), M1.trans (M2.trans (M3.trans b1)), fA.tr ((k1 f3).tr (k2 a2)), gA.tr ((gFsq.mu fm3).tr b2.fs), Or.inr ⟨f, p, a3, b3⟩⟩
  -- the second expression
  have i33 : m3.1 33 = nI B := h3.2.2.2.2.2.2.2.1
  have i39 : m3.1 39 = nI (c + U.length) := h3.2.2.2.2.1
  generalize hn3 : ms_sA m3 36 (upd (m3.2.1 36) B (nI (c + U.length))) = n3
  have fn3 : gFsq sd B m3 n3 := by
    rw [← hn3]
    exact (gFq.up (B := B) (by decide) (fun i hi => upd_ne hi)).fs
  have ln3 : gLpp K P V W N sd (t2 + 1) (z + U.length) (c + U.length) B s3 n3 := by rw [← hn3]; exact h3
  obtain ⟨s4, m4, e4, em4, f4, fm4, q4, o4⟩ := l_expr ln3 (by omega)
  have X4 : xq4 w s3 = xq5 w s4 := by
    unfold xq4
    rw [e4]
    rfl
  have M4 : mr4 (y + 1) m3 = mr5 (y + 1) m4 := by
    unfold mr4
    rw [i33, i39, pu_in (k := B) rfl hB2 (by omega), nI_clamp (by omega), if_pos h3.2.1.2.2.2.2, hn3, em4]
    rfl
  have fB : xsF xKei [21] s s4 := fA.tr ((k1 f3).tr f4)
  have gB : gFsq sd B m m4 := gA.tr ((gFsq.mu fm3).tr (fn3.tr (gFsq.ex fm4 q4)))
  rcases o4 with ⟨Y, t4, y1, y2, y3, h4, y4, y5⟩ | ⟨f, p, gx, gm⟩
  rotate_left
  · obtain ⟨s5, a1, a2, a3⟩ := xq5_bad (w := w) gx
    obtain ⟨m5, b1, b2, b3⟩ := mr5_bad (w := y + 1) gm hB2
    exact ⟨s5, m5, X1.trans (X2.trans (X3.trans (X4.trans a1))), M1.trans (M2.trans (M3.trans (M4.trans b1))), fB.tr (k2 a2), gB.tr b2.fs, Or.inr ⟨f, p, a3, b3⟩⟩
  -- the word then
  obtain ⟨s5, m5, r5, e5, em5, f5, fm5, o5⟩ := l_take (k := 10) h4 (by omega) (by omega)
  have X5 : xq5 w s4 = xq6 w s5 := by
    unfold xq5
    rw [show (10 : Int32) = nI 10 from rfl, e5]
    rfl
  have M5 : mr5 (y + 1) m4 = mr6 (y + 1) m5 := by
    unfold mr5
    rw [show (30 : Int32) = nI (gMk2 10) from rfl, em5]
    rfl
  rcases o5 with ⟨-, h5⟩ | ⟨f, p, gx, gm⟩
  rotate_left
  · obtain ⟨s6, a1, a2, a3⟩ := xq6_bad (w := w) gx
    obtain ⟨m6, b1, b2, b3⟩ := mr6_bad (w := y + 1) gm hB2
    exact ⟨s6, m6, X1.trans (X2.trans (X3.trans (X4.trans (X5.trans a1)))), M1.trans (M2.trans (M3.trans (M4.trans (M5.trans b1)))), fB.tr ((k1 f5).tr (k2 a2)), gB.tr ((gFsq.mu fm5).tr b2.fs), Or.inr ⟨f, p, a3, b3⟩⟩
  -- the class's jump
  have ht4 := h4.t4
  obtain ⟨s6a, e6a, f6a, g6a⟩ := x_emitr (v := 20004) h5.2.2.1 (by omega)
  have z6a : s6a.1 321 = nI (z + U.length + Y.length + 1) := g6a.1
  obtain ⟨s6, e6, f6, g6⟩ := x_emitr (v := 0) z6a (by omega)
  have X6 : xq6 w s5 = xq7 w (nI (z + U.length + Y.length + 1)) s6 := by
    unfold xq6
    rw [e6a]
    show (xf_3_emit_20 s6a 0).bind (fun s_18 => xq7 w (s6a.1 321) s_18) = _
    rw [e6, z6a]
    rfl
  have h6 : gLpp K P V W N sd (t4 + 1) (z + U.length + Y.length + 2) (c + U.length + Y.length) B s6 m5 := by
    obtain ⟨a1, a2, a3, a4, a5, a6, a7, a8, a9⟩ := h5
    have ff := f6a.tr f6
    exact ⟨a1.mv (ff.1 21 (by decide)) (ff.2.1 3 (by decide)) (ff.2.1 4 (by decide)) (by rw [ff.2.2.1]) rfl rfl rfl rfl, ⟨a2.1, (ff.1 100 (by decide)).trans a2.2.1, (ff.1 101 (by decide)).trans a2.2.2.1, a2.2.2.2.1, a2.2.2.2.2⟩, g6.1, a4, a5, a6, a7, a8, a9⟩
  -- the term
  obtain ⟨s7, m7, e7, em7, f7, fm7, q7, w7, w8, o7⟩ := e_term h6 (by omega) hB2
  have X7 : xq7 w (nI (z + U.length + Y.length + 1)) s6 = xq8 w (nI (z + U.length + Y.length + 1)) s7 := by
    unfold xq7
    rw [e7]
    rfl
  have M7 : mr6 (y + 1) m5 = mr7 (y + 1) m7 := by
    unfold mr6
    rw [em7]
    rfl
  have fC : xsF xKei [21] s s7 := fB.tr ((k1 f5).tr ((k2 f6a).tr ((k2 f6).tr f7)))
  have g57 : gFsq sd B m5 m7 := by
    refine ⟨fm7, fun j hj i hi => ?_, q7⟩
    have q : ∀ j, j ∈ [34, 35, 36, 37, 38] → j ∈ [34, 35, 36] ∨ j = 37 ∨ j = 38 := by decide
    rcases q j hj with q | rfl | rfl
    · rw [w7 j q]
    · exact (w8 i hi).1
    · exact (w8 i hi).2
  have gC : gFsq sd B m m7 := gB.tr ((gFsq.mu fm5).tr g57)
  rcases o7 with ⟨T, t7, d1, d2, d3, h7, d4, d5, d6, d7⟩ | ⟨f, p, gx, gm⟩
  rotate_left
  · obtain ⟨s8, a1, a2, a3⟩ := xq8_bad (w := w) (h := z + U.length + Y.length + 1) (by omega) gx
    obtain ⟨m8, b1, b2, b3⟩ := mr7_bad (w := y + 1) gm
    exact ⟨s8, m8, X1.trans (X2.trans (X3.trans (X4.trans (X5.trans (X6.trans (X7.trans a1)))))), M1.trans (M2.trans (M3.trans (M4.trans (M5.trans (M7.trans b1))))), fC.tr (k2 a2), gC.tr b2.fs, Or.inr ⟨f, p, a3, b3⟩⟩
  -- the word else
  obtain ⟨s8, m8, r8, e8, em8, f8, fm8, o8⟩ := l_take (k := 11) h7 (by omega) (by omega)
  have X8 : xq8 w (nI (z + U.length + Y.length + 1)) s7 = xq9 w (nI (z + U.length + Y.length + 1)) s8 := by
    unfold xq8
    rw [show (11 : Int32) = nI 11 from rfl, e8]
    rfl
  have M8 : mr7 (y + 1) m7 = some (.inl (y + 1, m8)) := by
    unfold mr7
    rw [show (31 : Int32) = nI (gMk2 11) from rfl, em8]
    rfl
  have ht7 := h7.t4
  have gD : gFsq sd B m m8 := gC.tr (gFsq.mu fm8)
  rcases o8 with ⟨-, h8⟩ | ⟨f, p, gx, gm⟩
  rotate_left
  · obtain ⟨s9, a1, a2, a3⟩ := xq9_bad (w := w) (h := z + U.length + Y.length + 1) (by omega) gx
    exact ⟨s9, m8, X1.trans (X2.trans (X3.trans (X4.trans (X5.trans (X6.trans (X7.trans (X8.trans a1))))))), M1.trans (M2.trans (M3.trans (M4.trans (M5.trans (M7.trans M8))))), fC.tr ((k1 f8).tr (k2 a2)), gD, Or.inr ⟨f, p, a3, gm⟩⟩
  obtain ⟨s9, e9, f9, g9⟩ := x_emitr (v := 20005) h8.2.2.1 (by omega)
  have z9 : s9.1 321 = nI (z + U.length + Y.length + 2 + T.length + 1) := g9.1
  have A1 : gArw z (U.map gCst) s s2 := u4.mv0 (by rw [f1.2.1 21 (by decide)])
  have A2 : gArw (z + (U.map gCst).length) (Y.map gCst) s2 s4 := (y4.mv0 (by rw [f3.2.1 21 (by decide)])).len (by rw [gMapl])
  have A3 : gArw (z + (U.map gCst).length + (Y.map gCst).length) [20004] s4 s6a := (g6a.mv0 (by rw [f5.2.1 21 (by decide)])).len (by rw [gMapl, gMapl])
  have A4 : gArw (z + (U.map gCst ++ (Y.map gCst ++ [nI 20004])).length) [0] s6a s6 := g6.len (by simp only [List.length_append, gMapl, List.length_cons, List.length_nil]; omega)
  have A5 : gArw (z + (U.map gCst ++ (Y.map gCst ++ [nI 20004])).length + [(0 : Int32)].length) (T.map gCst) s6 s7 := d4.len (by simp only [List.length_append, gMapl, List.length_cons, List.length_nil]; omega)
  have A6 : gArw (z + (U.map gCst ++ (Y.map gCst ++ [nI 20004])).length + [(0 : Int32)].length + (T.map gCst).length) [nI 20005] s7 s9 := (g9.mv0 (by rw [f8.2.1 21 (by decide)])).len (by simp only [List.length_append, gMapl, List.length_cons, List.length_nil]; omega)
  have AA : gArw z ((U.map gCst ++ (Y.map gCst ++ [nI 20004])) ++ (0 :: (T.map gCst ++ [nI 20005]))) s s9 := (A1.tr (A2.tr A3)).tr (A4.tr (A5.tr A6))
  have hL : z + (U.map gCst ++ (Y.map gCst ++ [nI 20004])).length = z + U.length + Y.length + 1 := by
    simp only [List.length_append, gMapl, List.length_cons, List.length_nil]; omega
  obtain ⟨eF, AF⟩ := x_fillr (v := nI (z + gBl (U, Y, T))) AA (by rw [hL]; omega)
  have hbl : z + gBl (U, Y, T) = z + U.length + Y.length + 2 + T.length + 1 := by
    show z + (U.length + Y.length + T.length + 3) = _
    omega
  have hbc : c + gBc (U, Y, T) = c + U.length + Y.length + T.length := by
    show c + (U.length + Y.length + T.length) = _
    omega
  rw [hL] at eF AF
  generalize hs10 : xs_sA s9 21 (upd (s9.2.1 21) (z + U.length + Y.length + 1) (nI (z + gBl (U, Y, T)))) = s10 at eF AF
  have f10 : xsF [321] [21] s9 s10 := by rw [← hs10]; exact xsF.sA (by decide)
  have X9 : xq9 w (nI (z + U.length + Y.length + 1)) s8 = some (.inl (w + 1, s10)) := by
    unfold xq9
    rw [show (20005 : Int32) = nI 20005 from rfl] at e9 ⊢
    rw [e9]
    show (xf_3_fill_20 s9 (nI (z + U.length + Y.length + 1)) (s9.1 321)).bind (fun s_22 => some (Sum.inl (w + 1, s_22))) = _
    rw [z9, ← hbl, eF]
    rfl
  refine ⟨s10, m8, X1.trans (X2.trans (X3.trans (X4.trans (X5.trans (X6.trans (X7.trans (X8.trans X9))))))), M1.trans (M2.trans (M3.trans (M4.trans (M5.trans (M7.trans M8))))), fC.tr ((k1 f8).tr ((k2 f9).tr (k2 f10))), gD, Or.inl ⟨(U, Y, T), t7 + 1, ?_, ?_, ?_, u3, y3, d3, AF, ?_, ?_⟩⟩
  · obtain ⟨a1, a2, a3, a4, a5, a6, a7, a8, a9⟩ := h8
    have ff := f9.tr f10
    exact ⟨a1.mv (ff.1 21 (by decide)) (ff.2.1 3 (by decide)) (ff.2.1 4 (by decide)) (by rw [ff.2.2.1]) rfl rfl rfl rfl, ⟨a2.1, (ff.1 100 (by decide)).trans a2.2.1, (ff.1 101 (by decide)).trans a2.2.2.1, a2.2.2.2.1, a2.2.2.2.2⟩, by rw [← hs10]; show s9.1 321 = _; rw [z9, hbl], a4, by rw [hbc]; exact a5, by omega, by omega, a8, a9⟩
  · show t + (U.length + Y.length + T.length + 3) + 1 ≤ t7 + 1
    omega
  · omega
  · have Y1 : gAy c U m m2 := u5.mv0 (by rw [← hn1]; exact fm1.a 40 (by decide)) (by rw [← hn1]; exact fm1.a 41 (by decide))
    have Y2 : gAy (c + U.length) Y m2 m4 := y5.mv0 (by rw [← hn3]; exact fm3.a 40 (by decide)) (by rw [← hn3]; exact fm3.a 41 (by decide))
    have Y3 : gAy (c + (U ++ Y).length) T m4 m8 := by
      rw [List.length_append, ← Nat.add_assoc]
      exact (d5.mv0 (fm5.a 40 (by decide)) (fm5.a 41 (by decide))).mv (fm8.i 39 (by decide)) (fm8.a 40 (by decide)) (fm8.a 41 (by decide))
    have YY : gAy c ((U ++ Y) ++ T) m m8 := (Y1.tr Y2).tr Y3
    obtain ⟨c1, c2⟩ := gCds_app YY.2.1
    obtain ⟨c3, c4⟩ := gCds_app c1
    have c2 : gCds T (c + U.length + Y.length) m8 := by rw [List.length_append, ← Nat.add_assoc] at c2; exact c2
    have r34 : m8.2.1 34 B = 1 := by
      rw [fm8.a 34 (by decide), w7 34 (by decide), fm5.a 34 (by decide), fm4.a 34 (by decide), ← hn3]
      show m3.2.1 34 B = 1
      rw [fm3.a 34 (by decide), fm2.a 34 (by decide), ← hn1]
      exact upd_eq
    have r35 : m8.2.1 35 B = nI c := by
      rw [fm8.a 35 (by decide), w7 35 (by decide), fm5.a 35 (by decide), fm4.a 35 (by decide), ← hn3]
      show m3.2.1 35 B = _
      rw [fm3.a 35 (by decide), fm2.a 35 (by decide), ← hn1]
      exact upd_eq
    have r36 : m8.2.1 36 B = nI (c + U.length) := by
      rw [fm8.a 36 (by decide), w7 36 (by decide), fm5.a 36 (by decide), fm4.a 36 (by decide), ← hn3]
      exact upd_eq
    refine ⟨c, h.2.2.2.2.2.1, ?_, r34, fun _ => ⟨r35, r36⟩, by rw [fm8.a 37 (by decide)]; exact d6, by rw [fm8.a 38 (by decide)]; exact d7, c3, c4, c2⟩
    rw [hbc]
    exact Nat.le_refl _
  · intro j hj
    have Y1 : gAy c U m m2 := u5.mv0 (by rw [← hn1]; exact fm1.a 40 (by decide)) (by rw [← hn1]; exact fm1.a 41 (by decide))
    have Y2 : gAy (c + U.length) Y m2 m4 := y5.mv0 (by rw [← hn3]; exact fm3.a 40 (by decide)) (by rw [← hn3]; exact fm3.a 41 (by decide))
    have Y3 : gAy (c + (U ++ Y).length) T m4 m8 := by
      rw [List.length_append, ← Nat.add_assoc]
      exact (d5.mv0 (fm5.a 40 (by decide)) (fm5.a 41 (by decide))).mv (fm8.i 39 (by decide)) (fm8.a 40 (by decide)) (fm8.a 41 (by decide))
    exact ((Y1.tr Y2).tr Y3).2.2 j hj
