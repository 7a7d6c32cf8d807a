/-! read: its end -/
theorem x_readU {s s6 s7 : xs_S} (h : xf_6_readInto_17_u s = xf_6_readInto_17_u_j67 s6) (hc : xf_6_conclude s6 = some s7) : xf_6_readInto_17_u s = some (s7.1 101, s7) := by
  rw [h]
  refine wO_iff.mp ?_
  unfold xf_6_readInto_17_u_j67
  exact wO_eq hc (wO_some rfl)
theorem nI_pos5 {f : Nat} (h : 1 ≤ f) (h2 : f ≤ 5) : ¬ nI f = (0 : Int32) ∧ ¬ nI f ≤ (0 : Int32) := by
  have q : ∀ f, f < 6 → 1 ≤ f → ¬ nI f = (0 : Int32) ∧ ¬ nI f ≤ (0 : Int32) := by decide
  exact q f (by omega) h
/-- a read that fails with f at p -/
theorem RR_bad {n f p : Nat} {g : gT} {lv : Nat} {po : Option (Nat × Nat)} {st ti : Nat} {s s6 s7 : xs_S} {m m6 : ms_S} (hx : XC g po st s) (hk : XK g po ti (64 * n + 8) s) (hr : RS g lv po st ti s m) (hE : gEnds (1 - lv) s s6 m m6) (hf : 1 ≤ f) (hf2 : f ≤ 5) (hu : xf_6_readInto_17_u s = some (nI f, s7)) (hF : xsF [101, 102] [] s6 s7) (h102 : s7.1 102 = nI p) (hm : mf_read m = some (nI f, ms_sI m6 17 (nI p))) : ∃ (v : Int32) (s2 : xs_S) (m2 : ms_S), xf_11_read_u s = some (v, s2) ∧ mf_read m = some (v, m2) ∧ RR (n + 1) (xs_ren v s2) m2 := by
  obtain ⟨e1, e2, e3, e4, e5⟩ := hE
  have np := (nI_pos5 hf hf2).1
  refine ⟨nI f, xs_sI (xs_sI s7 4 (nI p)) 17 0, ms_sI m6 17 (nI p), wO_iff.mp ?_, hm, ?_⟩
  · unfold xf_11_read_u
    refine wO_eq hu (wO_neg np (wO_some ?_))
    rw [h102]
  · unfold xs_ren
    rw [if_neg np]
    refine RR_fail hx hk hr (e1.tr ((hF.h (by decide) (by decide)).tr (((xsF.sI (Ki := [4]) (Ka := []) (by decide)).h (by decide) (by decide)).tr ((xsF.sI (Ki := [17]) (Ka := []) (by decide)).h (by decide) (by decide))))) (e2.tr ((msF.sI (K := [17]) (by decide)).h (by decide) (by decide))) (e3.tr (gSq.fr (fun _ _ => rfl))) rfl rfl e5
theorem R_s2 : lw_s2 RR := by
  intro n s m hR hn
  obtain ⟨g, lv, po, st, ti, hx, hk, hr⟩ := hR
  obtain ⟨s6, m6, K, P, V, W, N, hX, hMr, hE, hP, hN4, o⟩ := e_head (n := n) hr
  have hlv := hr.1.1
  rcases o with ⟨t, z, c, B, ns, nw, LW, hg⟩ | ⟨f, p, hb, hm⟩
  rotate_left
  · -- a fault of the grammar
    obtain ⟨⟨a1, a2, a3, u, u1, u2, u3⟩, -, C, c1, c2, c3⟩ := hb
    obtain ⟨m1, m2, m3, m4⟩ := id hm
    have hc : xf_6_conclude s6 = some (xs_sI s6 102 (nI p)) := by
      refine wO_iff.mp ?_
      unfold xf_6_conclude
      refine wO_neg (by rw [a3]; exact nI_ne0 a1 (by omega)) (wO_eq (x := (nI p, s6)) (wO_iff.mp ?_) (wO_some rfl))
      unfold xf_6_placeNow
      rw [u2, c3]
      refine wO_neg (nI_ge (by omega) (by omega)) (wO_agv (k := u) (v := nI p) rfl (by omega) (by omega) ?_ (wO_some rfl))
      rw [hP u u1, u3]
    have hu := x_readU hX hc
    have e101 : (xs_sI s6 102 (nI p)).1 101 = nI f := a3
    rw [e101] at hu
    refine RR_bad hx hk hr hE a1 (by omega) hu (xsF.sI (by decide)) rfl ?_
    rw [hMr]
    refine wO_iff.mp ?_
    unfold mf_read_j72
    refine wO_neg (gF1 hm) ?_
    unfold mf_read_j86
    refine wO_neg (gF1 hm) (wO_some ?_)
    rw [m3, m4]
  obtain ⟨lp, a1, a2, a3, h19, a5, a6, hNo, hS⟩ := id hg
  obtain ⟨hT, hH, l3, l4, l5, l6, l7, l8, hsd⟩ := id lp
  have ht := hH.1
  have h101 := hH.2.2.1
  have h13 : m6.1 13 = 0 := hH.2.2.2.2
  have h13b : m6.1 13 ≤ 0 := by rw [h13]; decide
  rcases hNo with ⟨h103, h15⟩ | ⟨f, p, n1, n2, n3, n4, n5, n6, n7, n8⟩
  rotate_left
  · -- a later fault
    have np := nI_pos5 (show 1 ≤ f by omega) n2
    have hc : xf_6_conclude s6 = some (xs_sI (xs_sI s6 101 (nI f)) 102 (nI p)) := by
      refine wO_iff.mp ?_
      unfold xf_6_conclude
      refine wO_pos h101 (wO_neg (by rw [n3]; exact np.1) (wO_some ?_))
      rw [n3, n5]
    have hu := x_readU hX hc
    have e101 : (xs_sI (xs_sI s6 101 (nI f)) 102 (nI p)).1 101 = nI f := rfl
    rw [e101] at hu
    refine RR_bad hx hk hr hE (by omega) n2 hu ((xsF.sI (by decide)).tr (xsF.sI (by decide))) rfl ?_
    rw [hMr]
    refine wO_iff.mp ?_
    unfold mf_read_j72
    refine wO_pos h13b (wO_neg (by rw [n4]; exact np.2) ?_)
    unfold mf_read_j86
    refine wO_pos h13b (wO_neg (by rw [n4]; exact np.2) (wO_some ?_))
    rw [n4, n6]
  -- taken
  obtain ⟨hM, h23, h25, tg, fo, pr, ⟨tv, t1, t2, t3⟩, sv, se1, se2, se3⟩ := id hS
  obtain ⟨M1, M2, M3, M4, M5, -⟩ := id hM
  obtain ⟨E1, E2, E3, E4, E5⟩ := hE
  obtain ⟨r1, r2, r3, r4, r5, r6, r7, r8, r9, r10⟩ := hr
  obtain ⟨y2, y, gy1, gy2, gy3, gy4⟩ := hx.2.1.1
  obtain ⟨-, -, -, -, c0, hc0, hc1⟩ := hk
  have hyc : y = c0 := (nI_eq (by omega) (by omega)).mp (gy2.symm.trans hc1)
  obtain ⟨xr, zr, xr1, xr2, -⟩ := r6
  generalize hsdd : 1 - lv = sd at *
  -- the class
  have hc : xf_6_conclude s6 = some s6 := by
    refine wO_iff.mp ?_
    unfold xf_6_conclude
    exact wO_pos h101 (wO_pos h103 (wO_some rfl))
  have hu := x_readU hX hc
  rw [h101] at hu
  generalize h8 : xs_sI (xs_sI s6 4 (s6.1 102)) 17 0 = s8
  have f8 : xsF [4, 17] [] s6 s8 := by
    rw [← h8]
    exact (xsF.sI (by decide)).tr (xsF.sI (by decide))
  have i8 : s8.1 4 = -1 ∧ s8.1 17 = 0 := by
    rw [← h8]
    exact ⟨E4, rfl⟩
  have d8 : ∀ j, 322 ≤ j → s8.1 j = s.1 j := fun j hj => by
    rw [f8.1 j (by
      intro q
      simp only [List.mem_cons, List.not_mem_nil, or_false] at q
      omega)]
    exact E1.1 j (fun q => by have := xRi_lo j q; omega)
  have hev := x_even17 (s := s8) (ti := tv) (by rw [f8.1 279 (by decide)]; exact t1)
  obtain ⟨s9, z1, z2, z3, z4, z5, z6, z7, z8, z9, z10, z11, z12, z13, z14, z15, z16⟩ := x_bg (v := nI (gph (14 * tv + 6))) (a := s8.1 277) (b := s8.1 278) (s := s8) (c := c0) ((d8 1875 (by omega)).trans hc1)
  have hbg := x_bg17 hev z1
  have k9 : ∀ j, ¬ j ∈ [4, 17] → ¬ j ∈ xBi → s9.1 j = s6.1 j := fun j h1 h2 => (z2.1 j h2).trans (f8.1 j h1)
  have a9 : ∀ j, ¬ j ∈ xBa → s9.2.1 j = s6.2.1 j := fun j h2 => (z2.2.1 j h2).trans (f8.2.1 j (fun q => (by cases q)))
  -- the reference
  generalize h7 : ms_sI (ms_sI m6 17 (-1)) 18 (m6.1 19) = m7
  have g7 : msF [17, 18] m6 m7 := by
    rw [← h7]
    exact (msF.sI (by decide)).tr (msF.sI (by decide))
  have k18 : m7.1 18 = nI sd := by
    rw [← h7]
    exact h19
  have k17 : m7.1 17 = -1 := by
    rw [← h7]
    rfl
  obtain ⟨m8, w1, w2, w3, w4, w5, w6, w7, w8⟩ := m_begins (lv := sd) (m := m7) hsd k18
  obtain ⟨m9, v1, v2, v3⟩ := m_keepsR2 (m := m8)
  generalize h10 : ms_sI (ms_sI m9 54 0) 63 0 = m10
  have g10 : msF [54, 63] m9 m10 := by
    rw [← h10]
    exact (msF.sI (by decide)).tr (msF.sI (by decide))
  have i10 : m10.1 54 = 0 ∧ m10.1 63 = 0 := by
    rw [← h10]
    exact ⟨rfl, rfl⟩
  obtain ⟨m11, u1, u2, u3⟩ := m_l115 (m := m10)
  have G : msF [48, 49, 50, 47, 54, 63, 70] m7 m11 := (w2.wk (by decide)).tr ((v2.wk (by decide)).tr ((g10.wk (by decide)).tr (u2.wk (by decide))))
  have row : ∀ i, i < 12 → m11.2.1 47 i = m8.2.1 48 i := fun i hi => by
    rw [u2.a 47 (by decide), g10.a 47 (by decide)]
    exact v3 i hi
  have mm : mf_read m = some (0, m11) := by
    rw [hMr]
    refine wO_iff.mp ?_
    unfold mf_read_j72
    refine wO_pos h13b (wO_pos (by rw [h15]; decide) ?_)
    unfold mf_read_j86
    refine wO_pos h13b (wO_pos (by rw [h15]; decide) ?_)
    rw [h7]
    refine wO_eq w1 (wO_eq v1 ?_)
    rw [h10]
    exact wO_eq u1 (wO_some rfl)
  have xx : xf_11_read_u s = some (0, s9) := by
    refine wO_iff.mp ?_
    unfold xf_11_read_u
    refine wO_eq hu (wO_pos rfl ?_)
    rw [h8]
    exact wO_eq hbg (wO_some rfl)
  refine ⟨0, s9, m11, xx, mm, ?_⟩
  have hren : xs_ren 0 s9 = xs_sg s9 := if_pos rfl
  rw [hren]
  -- the new text
  have m7r : ∀ j, m7.2.1 j = m6.2.1 j := fun j => by
    rw [← h7]
    rfl
  have cl : ∀ v, v ≤ 9 → (nI v).toNatClampNeg = v := fun v hv => nI_clamp (by omega)
  have hMT7 : MT ((ns, nw), (fun j => (s6.2.1 18 j).toNatClampNeg), (fun j => (s6.2.1 19 j).toNatClampNeg), gLfn LW) sd m7 := by
    refine ⟨hsd, k18, M1, M2, by rw [m7r]; exact h23, by rw [m7r]; exact h25, fun j hj => ?_, fun j hj => ?_, ML_of (LW := LW) (c := c) (B := B) hsd k18 (fun k v _ => rfl) (by omega) (by omega) (fun k hk => ?_)⟩
    · obtain ⟨v, v1, v2, v3⟩ := tg j hj
      show m7.2.1 24 (5 * sd + j) = nI (s6.2.1 18 j).toNatClampNeg ∧ (s6.2.1 18 j).toNatClampNeg ≤ 9
      rw [m7r, v1, cl v (v3 h15)]
      exact ⟨v2, v3 h15⟩
    · obtain ⟨v, v1, v2, v3⟩ := fo j hj
      show m7.2.1 26 (6 * sd + j) = nI (s6.2.1 19 j).toNatClampNeg ∧ (s6.2.1 19 j).toNatClampNeg ≤ 9
      rw [m7r, v1, cl v (v3 h15)]
      exact ⟨v2, v3 h15⟩
    · refine (a6 k hk).mv (Nat.le_refl _) (Nat.le_refl _) ⟨fun j _ i _ => by rw [m7r], fun j _ => ⟨by rw [m7r], by rw [m7r]⟩⟩ (by rw [m7r]) (by rw [m7r])
  have hMT : MT ((ns, nw), (fun j => (s6.2.1 18 j).toNatClampNeg), (fun j => (s6.2.1 19 j).toNatClampNeg), gLfn LW) sd m11 := hMT7.mv G (by decide)
  have hXT : XT ((ns, nw), (fun j => (s6.2.1 18 j).toNatClampNeg), (fun j => (s6.2.1 19 j).toNatClampNeg), gLfn LW) (xs_sg s9) := by
    refine ⟨M1, M2, ?_, ?_, fun j hj => ?_, fun j hj => ?_, XL_of (LW := LW) (z := z) (by omega) ?_ (fun k v _ => rfl) (fun k hk => ?_)⟩
    · show s9.1 275 = nI ns
      exact (k9 275 (by decide) (by decide)).trans M3
    · show s9.1 276 = nI nw
      exact (k9 276 (by decide) (by decide)).trans M4
    · obtain ⟨v, v1, v2, v3⟩ := tg j hj
      show s9.2.1 18 j = nI (s6.2.1 18 j).toNatClampNeg ∧ (s6.2.1 18 j).toNatClampNeg ≤ 9
      rw [a9 18 (by decide), v1, cl v (v3 h15)]
      exact ⟨rfl, v3 h15⟩
    · obtain ⟨v, v1, v2, v3⟩ := fo j hj
      show s9.2.1 19 j = nI (s6.2.1 19 j).toNatClampNeg ∧ (s6.2.1 19 j).toNatClampNeg ≤ 9
      rw [a9 19 (by decide), v1, cl v (v3 h15)]
      exact ⟨rfl, v3 h15⟩
    · show s9.1 321 = nI z
      exact (k9 321 (by decide) (by decide)).trans l3
    · show gXLk z k (LW k) (s9.2.1 22) (s9.2.1 21)
      rw [a9 22 (by decide), a9 21 (by decide)]
      exact a5 k hk
  have mr : ∀ j, ¬ j ∈ [48, 49, 50, 47, 54, 63, 70] → m11.2.1 j = m6.2.1 j := fun j hj => (G.a j hj).trans (m7r j)
  have pair : ∃ po2, gAp po2 ns (s8.1 277) (s8.1 278) ∧ gAr po2 ns (m6.2.1 27 sd) (m6.2.1 28 sd) := by
    rw [f8.1 277 (by decide), f8.1 278 (by decide)]
    rcases pr with ⟨q1, q2, q3, q4⟩ | ⟨o1, o2, q1, q2, q3, q4, q5⟩
    · exact ⟨none, ⟨q1, q2⟩, q3, q4⟩
    · obtain ⟨a, b, p1, p2, p3, p4, p5⟩ := q5 h15
      subst p1 p2
      exact ⟨some (a, b), ⟨q1, q2, p3, p4⟩, q3, q4, p3, p4⟩
  obtain ⟨po2, pa1, pa2⟩ := pair
  refine RR_new (n := n + 1) (lv := sd) (ti := tv) (x := xr) (x2 := y2) (c := c0 + 1) (po := po2) hXT hMT ?_ (by have := t3 h15; omega) ?_ ?_ ?_ ?_ ?_ ?_ z3 ?_ ?_ ?_ ?_ z6 z7 z13 z16 z15 ?_ (by omega) z12 (by omega) (by omega) ?_ xr2 z8 ?_ z14 u3 z9 ?_ ?_ ?_ ?_
  · rw [mr 29 (by decide)]; exact t2
  · show s9.1 279 = nI tv
    exact (k9 279 (by decide) (by decide)).trans t1
  · show s9.1 280 = m11.2.1 30 sd
    rw [mr 30 (by decide), k9 280 (by decide) (by decide), se1, se2]
  · show s9.1 4 = m11.1 17
    rw [z2.1 4 (by decide), i8.1, G.i 17 (by decide), k17]
  · show gAp po2 ns (s9.1 401) (s9.1 402)
    rw [z4, z5]; exact pa1
  · show gAp po2 ns (s9.1 1873) (s9.1 1874)
    rw [z10, z11]; exact pa1
  · show gAr po2 ns (m11.2.1 47 3) (m11.2.1 47 4)
    rw [row 3 (by omega), row 4 (by omega), w6, w7, m7r, m7r]; exact pa2
  · rw [row 0 (by omega), w3, m7r]; exact t2
  · rw [row 1 (by omega)]; exact w4
  · rw [row 2 (by omega)]; exact w5
  · exact fun i h1 h2 => by rw [row i h2]; exact w8 i h1 h2
  · show s9.1 2023 = nI y2
    rw [z2.1 2023 (by decide), d8 2023 (by omega)]; exact gy1
  · show s9.1 433 = nI xr
    rw [z2.1 433 (by decide), d8 433 (by omega)]; exact xr1
  · rw [u2.i 54 (by decide)]; exact i10.1
  · rw [u2.i 63 (by decide)]; exact i10.2
  · show s9.1 17 = 0
    rw [z2.1 17 (by decide)]; exact i8.2
  · rw [G.i 2 (by decide), g7.i 2 (by decide)]; exact E5
  · intro k hk
    rw [G.2, g7.2, E2.2.2 9 (by decide)]
    exact r10 k hk
