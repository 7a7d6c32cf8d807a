/-! read -/
theorem x_even17 {s : xs_S} {ti : Nat} (h : s.1 279 = nI ti) : xf_7_evenStanding_17 s = some (nI (gph (14 * ti + 6)), s) := by
  have e := x_even_st (s := xs_sI s 151 (nI ti)) (ti := ti) rfl
  unfold xf_7_evenStanding_9 at e
  unfold xf_7_evenStanding_17
  rw [h]
  have e : (xf_11_standingOf (nI ti) 0 (-1)).bind (fun v_1 => some (v_1, xs_sI s 151 (nI ti))) = some (nI (gph (14 * ti + 6)), xs_sI s 151 (nI ti)) := e
  cases hv : xf_11_standingOf (nI ti) 0 (-1) with
  | none => rw [hv] at e; cases e
  | some v =>
    rw [hv] at e
    have e : v = nI (gph (14 * ti + 6)) := congrArg Prod.fst (Option.some.inj e)
    rw [e]
    rfl
theorem x_bg17 {v : Int32} {s t : xs_S} (hv : xf_7_evenStanding_17 s = some (v, s)) (h : xBg v (s.1 277) (s.1 278) s = some t) : xf_11_beginAnew_p017 s = some t := by
  unfold xBg at h
  cases h1 : xf_7_fill_53178_26 (xs_sI (xs_sI (xs_sI (xs_sI (xs_sI s 400 v) 401 (s.1 277)) 402 (s.1 278)) 403 ((0 : Int32))) 404 ((0 : Int32))) ((0 : Int32)) with
  | none => rw [h1] at h; cases h
  | some s1 =>
    rw [h1] at h
    have h : (mo_loop xL15 ((0 : Int32), (xs_sI (xs_sI s1 434 ((0 : Int32))) 1924 ((0 : Int32))))).bind (fun s_4 => ((xf_7_fill_53178_138 s_4 ((-1 : Int32))).bind fun s_5 => ((xf_7_fill_53178_118 (xs_sI (xs_sI (xs_sI s_5 1873 (s_5.1 401)) 1874 (s_5.1 402)) 1875 (((s_5.1 1875) + (1 : Int32)))) ((-1 : Int32))).bind fun s_7 => some s_7))) = some t := h
    cases h2 : mo_loop xL15 ((0 : Int32), (xs_sI (xs_sI s1 434 ((0 : Int32))) 1924 ((0 : Int32)))) with
    | none => rw [h2] at h; cases h
    | some s4 =>
      rw [h2] at h
      have h : (xf_7_fill_53178_138 s4 ((-1 : Int32))).bind (fun s_5 => ((xf_7_fill_53178_118 (xs_sI (xs_sI (xs_sI s_5 1873 (s_5.1 401)) 1874 (s_5.1 402)) 1875 (((s_5.1 1875) + (1 : Int32)))) ((-1 : Int32))).bind fun s_7 => some s_7)) = some t := h
      cases h3 : xf_7_fill_53178_138 s4 ((-1 : Int32)) with
      | none => rw [h3] at h; cases h
      | some s5 =>
        rw [h3] at h
        have h : (xf_7_fill_53178_118 (xs_sI (xs_sI (xs_sI s5 1873 (s5.1 401)) 1874 (s5.1 402)) 1875 (((s5.1 1875) + (1 : Int32)))) ((-1 : Int32))).bind (fun s_7 => some s_7) = some t := h
        refine wO_iff.mp ?_
        unfold xf_11_beginAnew_p017
        refine wO_eq (x := s1) (wO_iff.mp ?_) (wO_eq (x := s4) h2 (wO_eq h3 (wO_eq (x := s5) rfl (wO_eq (x := t) h (wO_some rfl)))))
        unfold xf_2_begin_25_17
        exact wO_eq hv (wO_eq h1 (wO_some rfl))
theorem gSq_plain {sd : Nat} {m n : ms_S} (g : msF [23, 25, 27, 28, 29, 30, 31, 32] m n) {a b c d e f : Int32} (p23 : n.2.1 23 = upd (m.2.1 23) sd a) (p25 : n.2.1 25 = upd (m.2.1 25) sd b) (p27 : n.2.1 27 = upd (m.2.1 27) sd c) (p28 : n.2.1 28 = upd (m.2.1 28) sd d) (p29 : n.2.1 29 = upd (m.2.1 29) sd e) (p30 : n.2.1 30 = upd (m.2.1 30) sd f) (p31 : ∀ i, ¬ (4 * sd ≤ i ∧ i < 4 * sd + 4) → n.2.1 31 i = m.2.1 31 i ∧ n.2.1 32 i = m.2.1 32 i) : gSq sd m n := by
  refine ⟨fun j hj i hi => ?_, fun i _ => by rw [g.a 24 (by decide)], fun i _ => by rw [g.a 26 (by decide)], fun j hj i hi => ?_, fun j hj i _ => ?_, fun i _ => ⟨by rw [g.a 40 (by decide)], by rw [g.a 41 (by decide)]⟩⟩
  · simp only [List.mem_cons, List.not_mem_nil, or_false] at hj
    rcases hj with rfl | rfl | rfl | rfl | rfl | rfl
    · rw [p23, upd_ne hi]
    · rw [p25, upd_ne hi]
    · rw [p27, upd_ne hi]
    · rw [p28, upd_ne hi]
    · rw [p29, upd_ne hi]
    · rw [p30, upd_ne hi]
  · simp only [List.mem_cons, List.not_mem_nil, or_false] at hj
    rcases hj with rfl | rfl
    · exact (p31 i hi).1
    · exact (p31 i hi).2
  · have w : ∀ j ∈ [34, 35, 36, 37, 38], ¬ j ∈ [23, 25, 27, 28, 29, 30, 31, 32] := by decide
    rw [g.a j (w j hj)]
/-- the head of read: what both have at the end of the statements -/
def gEnds (sd : Nat) (s s6 : xs_S) (m m6 : ms_S) : Prop := xsH xRi xRa [5, 7, 8] s s6 ∧ msH mRi mRa [8, 21] m m6 ∧ gSq sd m m6 ∧ s6.1 102 = -1 ∧ m6.1 2 = 0
theorem e_head {n : Nat} {g : gT} {lv : Nat} {po : Option (Nat × Nat)} {st ti : Nat} {s : xs_S} {m : ms_S} (hr : RS g lv po st ti s m) : ∃ (s6 : xs_S) (m6 : ms_S) (K P V : Nat → Nat) (W : Nat → Int64) (N : Nat), xf_6_readInto_17_u s = xf_6_readInto_17_u_j67 s6 ∧ mf_read m = mf_read_j72 m6 ∧ gEnds (1 - lv) s s6 m m6 ∧ (∀ i, i ≤ N → s6.2.1 4 i = nI (P i)) ∧ N ≤ 400 ∧ ((∃ t z c B ns nw, ∃ LW : Nat → Option gLd, gRd K P V W N (1 - lv) t z c B ns nw LW s6 m6) ∨ ∃ f p, gXb P N f p s6 ∧ gFm2 f p m6) := by
  obtain ⟨b1, b2, b3, b4, b5, b6, b7, b8, b9, b10⟩ := id hr
  obtain ⟨z, hz, z17, z2, zb⟩ := b9
  have hlv := b1.1
  obtain ⟨B, hB⟩ : ∃ B : Nat → Nat, ∀ i, i < z → B i < 256 ∧ s.2.1 2 i = gSb8 (B i) ∧ m.2.1 1 i = gSb8 (B i) := by
    have h : ∀ i, ∃ b, i < z → b < 256 ∧ s.2.1 2 i = gSb8 b ∧ m.2.1 1 i = gSb8 b := fun i => by
      by_cases c : i < z
      · obtain ⟨b, hb⟩ := zb i c
        exact ⟨b, fun _ => hb⟩
      · exact ⟨0, fun q => absurd q c⟩
    exact ⟨fun i => Classical.choose (h i), fun i hi => Classical.choose_spec (h i) hi⟩
  generalize hsd : 1 - lv = sd
  have hsd1 : sd ≤ 1 := by omega
  obtain ⟨s1, x1, f1, c275, c276, c277, c278, c279, c280, c321, c22⟩ := x_clear (s := s)
  generalize hs1 : xs_sI (xs_sI (xs_sI (xs_sI s1 100 ((0 : Int32))) 101 ((0 : Int32))) 102 ((-1 : Int32))) 103 ((0 : Int32)) = s1b
  have f1b : xsF [100, 101, 102, 103] [] s1 s1b := by
    rw [← hs1]
    exact (xsF.sI (by decide)).tr ((xsF.sI (by decide)).tr ((xsF.sI (by decide)).tr (xsF.sI (by decide))))
  have i1b : s1b.1 100 = 0 ∧ s1b.1 101 = 0 ∧ s1b.1 102 = -1 ∧ s1b.1 103 = 0 := by
    rw [← hs1]
    exact ⟨rfl, rfl, rfl, rfl⟩
  have F1 : xsH xRi xRa [5, 7, 8] s s1b := (f1.h (by decide) (by decide)).tr (f1b.h (by decide) (by decide))
  have hby : gBy B z s1b := ⟨hz, by rw [f1b.1 17 (by decide), f1.1 17 (by decide)]; exact z17, fun i hi => ⟨(hB i hi).1, by rw [f1b.2.1 2 (by decide), f1.2.1 2 (by decide)]; exact (hB i hi).2.1⟩⟩
  obtain ⟨m1, y1, g1, hbz⟩ := m_copy hz z2 (fun i hi => ⟨(hB i hi).1, (hB i hi).2.2⟩)
  have hbz2 : gBz B z (ms_sI m1 2 0) := hbz.mv rfl rfl
  have hY : RY (ms_sI m1 2 0) := fun k hk => by
    show m1.2.2 9 k = _
    rw [g1.2]
    exact b10 k hk
  obtain ⟨s2, m2, K, P, V, W, N, x2, y2, f2, g2, hT⟩ := e_tokens hby hbz2 hY
  have G2 : msH [2, 3, 4, 10] [2, 3, 4, 5, 6, 7] [8] m m2 := (g1.h (by decide) (by decide)).tr (((msF.sI (K := [2]) (by decide)).h (by decide) (by decide)).tr (g2.wk (by decide) (by decide) (by decide)))
  have Q2 : gSq sd m m2 := gSq.fr (fun j hj => G2.2.1 j (by
    have w : ∀ j ∈ [23, 25, 27, 28, 29, 30, 24, 26, 31, 32, 34, 35, 36, 37, 38, 40, 41], ¬ j ∈ [2, 3, 4, 5, 6, 7] := by decide
    exact w j hj))
  have k2 : m2.1 2 = 0 := g2.1 2 (by decide)
  have k18 : m2.1 18 = nI lv := (G2.1 18 (by decide)).trans b1.2.1
  have e18 : (1 : Int32) - nI lv = nI sd := by
    rw [← hsd]
    exact pu_sub (a := 1) hlv
  generalize hm3 : ms_sI (ms_sI (ms_sI (ms_sI (ms_sI (ms_sI m2 11 ((0 : Int32))) 12 ((0 : Int32))) 13 ((0 : Int32))) 15 ((0 : Int32))) 19 (nI sd)) 20 ((0 : Int32)) = m3
  have g3 : msF [11, 12, 13, 15, 19, 20] m2 m3 := by
    rw [← hm3]
    exact (msF.sI (by decide)).tr ((msF.sI (by decide)).tr ((msF.sI (by decide)).tr ((msF.sI (by decide)).tr ((msF.sI (by decide)).tr (msF.sI (by decide))))))
  have i3 : m3.1 11 = 0 ∧ m3.1 12 = 0 ∧ m3.1 13 = 0 ∧ m3.1 15 = 0 ∧ m3.1 19 = nI sd ∧ m3.1 20 = 0 := by
    rw [← hm3]
    exact ⟨rfl, rfl, rfl, rfl, rfl, rfl⟩
  obtain ⟨m4, y4, g4, p23, p25, p27, p28, p29, p30, p31, p31b⟩ := m_plain (sd := sd) (m := m3) hsd1
  have Q4 : gSq sd m3 m4 := gSq_plain g4 p23 p25 p27 p28 p29 p30 p31b
  generalize hm5 : ms_sI (ms_sI m4 33 (nI (130 * sd))) 39 (nI (420 * sd)) = m5
  have g5 : msF [33, 39] m4 m5 := by
    rw [← hm5]
    exact (msF.sI (by decide)).tr (msF.sI (by decide))
  have i5 : m5.1 33 = nI (130 * sd) ∧ m5.1 39 = nI (420 * sd) := by
    rw [← hm5]
    exact ⟨rfl, rfl⟩
  have l5 : ∀ j, ¬ j ∈ [23, 25, 27, 28, 29, 30, 31, 32] → ¬ j ∈ [33, 39] → m5.1 j = m3.1 j := fun j h1 h2 => (g5.i j h2).trans (g4.i j h1)
  have hT5 : gTok K P V W N s2 m5 := hT.mv rfl rfl rfl rfl (by rw [g5.a 5 (by decide), g4.a 5 (by decide), g3.a 5 (by decide)]) (by rw [g5.a 6 (by decide), g4.a 6 (by decide), g3.a 6 (by decide)]) (by rw [g5.a 7 (by decide), g4.a 7 (by decide), g3.a 7 (by decide)]) (by rw [g5.2, g4.2, g3.2])
  have l2 : ∀ j, ¬ j ∈ [21] → ¬ j ∈ [100, 101, 102, 103] → s2.1 j = s1.1 j := fun j h1 h2 => (f2.1 j h1).trans (f1b.1 j h2)
  have hgR : gRd K P V W N sd 0 0 (420 * sd) (130 * sd) 0 0 (fun _ => none) s2 m5 := by
    refine ⟨⟨hT5, ⟨Nat.zero_le _, (f2.1 100 (by decide)).trans i1b.1, (f2.1 101 (by decide)).trans i1b.2.1, (l5 11 (by decide) (by decide)).trans i3.1, (l5 13 (by decide) (by decide)).trans i3.2.2.1⟩, (l2 321 (by decide) (by decide)).trans c321, (l5 12 (by decide) (by decide)).trans i3.2.1, i5.2, Nat.le_refl _, by omega, i5.1, hsd1⟩, by omega, by omega, by omega, (l5 19 (by decide) (by decide)).trans i3.2.2.2.2.1, fun i hi => ?_, fun i hi => ?_, Or.inl ⟨(f2.1 103 (by decide)).trans i1b.2.2.2, (l5 15 (by decide) (by decide)).trans i3.2.2.2.1⟩, ⟨by omega, by omega, (l2 275 (by decide) (by decide)).trans c275, (l2 276 (by decide) (by decide)).trans c276, (l5 20 (by decide) (by decide)).trans i3.2.2.2.2.2, fun _ => 0, fun i hi => by omega, fun i hi => by omega, fun i hi => by omega, fun i j h1 h2 => by omega⟩, ?_, ?_, fun i hi => by omega, fun i hi => by omega, Or.inl ⟨(l2 277 (by decide) (by decide)).trans c277, (l2 278 (by decide) (by decide)).trans c278, ?_, ?_⟩, ⟨10, (l2 279 (by decide) (by decide)).trans c279, ?_, fun _ => by omega⟩, 0, (l2 280 (by decide) (by decide)).trans c280, ?_, fun _ => by omega⟩
    · show s2.2.1 22 i = -1
      rw [f2.2.1 22 (by decide), f1b.2.1 22 (by decide)]
      exact c22 i hi
    · show m5.2.1 31 (4 * sd + i) = m5.2.1 32 (4 * sd + i)
      rw [g5.a 31 (by decide), g5.a 32 (by decide), (p31 i hi).1, (p31 i hi).2]
    · rw [g5.a 23 (by decide), p23, upd_eq]; rfl
    · rw [g5.a 25 (by decide), p25, upd_eq]; rfl
    · rw [g5.a 27 (by decide), p27, upd_eq]
    · rw [g5.a 28 (by decide), p28, upd_eq]
    · rw [g5.a 29 (by decide), p29, upd_eq]; rfl
    · rw [g5.a 30 (by decide), p30, upd_eq]; rfl
  obtain ⟨s6, m6, x6, y6, f6, g6, q6, o6⟩ := e_all 401 0 0 0 (420 * sd) (130 * sd) 0 0 (fun _ => none) s2 m5 (by omega) (by omega) hgR
  have G5 : msH mRi mRa [8, 21] m m5 := (G2.wk (by decide) (by decide) (by decide)).tr ((g3.h (by decide) (by decide)).tr ((g4.h (by decide) (by decide)).tr (g5.h (by decide) (by decide))))
  refine ⟨s6, m6, K, P, V, W, N, ?_, ?_, ⟨F1.tr ((f2.wk (by decide) (by decide) (by decide)).tr (f6.wk (by decide) (by decide) (by decide))), G5.tr (g6.wk (by decide) (by decide) (by decide)), Q2.tr ((g3.sq (by decide)).tr (Q4.tr ((g5.sq (by decide)).tr q6))), ?_, ?_⟩, fun i hi => ?_, hT.1, o6⟩
  · unfold xf_6_readInto_17_u
    rw [x1]
    show (xf_8_scan (xs_sI (xs_sI (xs_sI (xs_sI s1 100 0) 101 0) 102 (-1)) 103 0)).bind _ = _
    rw [hs1, x2]
    show (mo_loop xf_6_readInto_17_u_l23 (nI 0, s2)).bind _ = _
    rw [x6]
    rfl
  · unfold mf_read
    rw [y1]
    show (mf_cut (ms_sI m1 2 0)).bind _ = _
    rw [y2]
    show (mf_plain (ms_sI (ms_sI (ms_sI (ms_sI (ms_sI (ms_sI m2 11 ((0 : Int32))) 12 ((0 : Int32))) 13 ((0 : Int32))) 15 ((0 : Int32))) 19 ((1 : Int32) - m2.1 18)) 20 ((0 : Int32))) ((1 : Int32) - m2.1 18)).bind _ = _
    rw [k18, e18, hm3, y4]
    show (mo_loop mf_read_l62 (ms_sI (ms_sI m4 33 ((130 : Int32) * m4.1 19)) 39 ((420 : Int32) * m4.1 19))).bind _ = _
    have e19 : m4.1 19 = nI sd := (g4.i 19 (by decide)).trans i3.2.2.2.2.1
    rw [e19, show (130 : Int32) * nI sd = nI (130 * sd) from pu_mul 130 sd, show (420 : Int32) * nI sd = nI (420 * sd) from pu_mul 420 sd, hm5, y6]
    rfl
  · rw [f6.1 102 (by decide), f2.1 102 (by decide)]
    exact i1b.2.2.1
  · rw [g6.1 2 (by decide), l5 2 (by decide) (by decide), g3.i 2 (by decide)]
    exact k2
  · rw [f6.2.1 4 (by decide)]
    exact (hT.2.2.2.2 i hi).2.2.2.2.1
