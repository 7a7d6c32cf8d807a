/-! reading: later faults and whole numbers -/
/-- the same later fault, before token t -/
def gNo (P : Nat → Nat) (t : Nat) (s : xs_S) (m : ms_S) : Prop := (s.1 103 = 0 ∧ m.1 15 = 0) ∨ ∃ f p, 3 ≤ f ∧ f ≤ 5 ∧ s.1 103 = nI f ∧ m.1 15 = nI f ∧ s.1 104 = nI p ∧ m.1 16 = nI p ∧ p < P t ∧ p ≤ 2000
theorem gNo.mv {P : Nat → Nat} {t t2 : Nat} {s s2 : xs_S} {m m2 : ms_S} (h : gNo P t s m) (hP : P t ≤ P t2) (h1 : s2.1 103 = s.1 103) (h2 : s2.1 104 = s.1 104) (h3 : m2.1 15 = m.1 15) (h4 : m2.1 16 = m.1 16) : gNo P t2 s2 m2 := by
  unfold gNo
  rw [h1, h2, h3, h4]
  rcases h with h | ⟨f, p, a1, a2, a3, a4, a5, a6, a7, a8⟩
  · exact Or.inl h
  · exact Or.inr ⟨f, p, a1, a2, a3, a4, a5, a6, by omega, a8⟩
theorem gTok.lt {K P V : Nat → Nat} {W : Nat → Int64} {N t : Nat} {s : xs_S} {m : ms_S} (h : gTok K P V W N s m) (ht : t + 1 ≤ N) : P t < P (t + 1) := h.2.2.2.1 t (t + 1) (by omega) ht
theorem b_note {K P V : Nat → Nat} {W : Nat → Int64} {N t f : Nat} {s s0 : xs_S} {m : ms_S} (hT : gTok K P V W N s0 m) (ht : t ≤ N) (h13 : m.1 13 = 0) (hN : gNo P t s m) (hf : 3 ≤ f) (hf2 : f ≤ 5) : ∃ s2 m2, xf_6_note s (nI f) (nI (P t)) = some s2 ∧ mf_wrong m (nI f) (nI t) = some m2 ∧ xsF [103, 104] [] s s2 ∧ msF [15, 16] m m2 ∧ (∀ t2, P t < P t2 → gNo P t2 s2 m2) ∧ ¬ m2.1 15 = 0 := by
  have hN4 := hT.1
  have hp := (hT.2.2.2.2 t ht).2.2.2.1
  have h6 := (hT.2.2.2.2 t ht).2.2.2.2.2.1
  have n5 : ∀ f, f < 6 → 3 ≤ f → ¬ nI f = (0 : Int32) := by decide
  rcases hN with ⟨a1, a2⟩ | ⟨f0, p, a1, a2, a3, a4, a5, a6, a7, a8⟩
  · refine ⟨xs_sI (xs_sI s 103 (nI f)) 104 (nI (P t)), ms_sI (ms_sI m 15 (nI f)) 16 (nI (P t)), wO_iff.mp ?_, wO_iff.mp ?_, (xsF.sI (by decide)).tr (xsF.sI (by decide)), (msF.sI (by decide)).tr (msF.sI (by decide)), fun t2 h2 => Or.inr ⟨f, P t, hf, hf2, rfl, rfl, rfl, rfl, h2, hp⟩, n5 f (by omega) hf⟩
    · unfold xf_6_note
      exact wO_pos a1 (wO_some rfl)
    · unfold mf_wrong
      refine wO_agv (k := t) rfl (by omega) (by omega) h6 (wO_neg (by rw [h13]; decide) (wO_pos a2 (wO_some rfl)))
  · refine ⟨s, m, wO_iff.mp ?_, wO_iff.mp ?_, xsF.rf, msF.rf, fun t2 h2 => Or.inr ⟨f0, p, a1, a2, a3, a4, a5, a6, by omega, a8⟩, by rw [a4]; exact n5 f0 (by omega) a1⟩
    · unfold xf_6_note
      exact wO_neg (by rw [a3]; exact n5 f0 (by omega) a1) (wO_some rfl)
    · unfold mf_wrong
      refine wO_agv (k := t) rfl (by omega) (by omega) h6 (wO_neg (by rw [h13]; decide) (wO_neg (by rw [a4]; exact n5 f0 (by omega) a1) (wO_pos (by rw [a6]; exact nI_lt a7 (by omega)) (wO_some rfl))))
theorem x_place {K P V : Nat → Nat} {W : Nat → Int64} {N t : Nat} {s : xs_S} {m : ms_S} (hT : gTok K P V W N s m) (h : gHl N t s m) : xf_6_placeNow s = some (nI (P t), s) := by
  obtain ⟨t1, ⟨C, c1, c2, c3⟩, -, -, t5⟩ := hT
  refine wO_iff.mp ?_
  unfold xf_6_placeNow
  rw [h.2.1, c3]
  have := h.1
  exact wO_neg (nI_ge (by omega) (by omega)) (wO_agv (k := t) rfl (by omega) (by omega) (t5 t h.1).2.2.2.2.1 (wO_some rfl))
theorem x_val {K P V : Nat → Nat} {W : Nat → Int64} {N t : Nat} {s : xs_S} {m : ms_S} (hT : gTok K P V W N s m) (h : gHl N t s m) : xf_6_value s = some (s.2.2.1 5 t, s) := by
  obtain ⟨t1, ⟨C, c1, c2, c3⟩, -, -, -⟩ := hT
  have := h.1
  exact x_value_any (t := t) (C := C) (by omega) c2 c3 h.2.1
theorem e_int {K P V : Nat → Nat} {W : Nat → Int64} {N t lo hi : Nat} {s : xs_S} {m : ms_S} (hT : gTok K P V W N s m) (hH : gHl N t s m) (hN : gNo P t s m) (hlo : lo < 10000) (hhi : hi < 10000) : ∃ s2 m2 r q, xf_6_takeInt s (nI lo) (nI hi) = some (r, s2) ∧ mf_bounded m (nI lo) (nI hi) = some (q, m2) ∧ xsF [100, 101, 103, 104] [] s s2 ∧ msF [11, 13, 14, 15, 16] m m2 ∧ ((∃ v, r = nI v ∧ q = nI v ∧ v < 10000 ∧ gHl N (t + 1) s2 m2 ∧ gNo P (t + 1) s2 m2 ∧ (m2.1 15 = 0 → lo ≤ v ∧ v ≤ hi)) ∨ ∃ f, gFx P N f (P t) s2 ∧ gFm2 f (P t) m2) := by
  have hN4 := hT.1
  have ht := hH.1
  have h13 := hH.2.2.2.2
  have h11 := hH.2.2.2.1
  have hval := x_val hT hH
  have hpl := x_place hT hH
  have his := m_is (k := 22) hT hH (by omega)
  obtain ⟨s1, f1, o1⟩ := x_take (k := 22) hT hH (by omega)
  have n0 : ¬ (0 : Int32) < m.1 13 := by rw [h13]; decide
  by_cases c22 : K t = 22
  rotate_left
  · -- no number
    rw [if_neg c22] at his
    obtain ⟨m1, d1, d2, d3, d4⟩ := m_fail (f := 1) hT hH (by omega) (by omega)
    rcases o1 with ⟨q, -⟩ | ⟨-, o2, o3⟩
    · exact absurd q c22
    rw [if_neg c22] at o3
    refine ⟨s1, m1, (s.2.2.1 5 t).toInt32, nI lo, wO_iff.mp ?_, wO_iff.mp ?_, f1.wk (by decide) (by decide), d2.wk (by decide), Or.inr ⟨1, o3, d3⟩⟩
    · unfold xf_6_takeInt
      exact wO_eq hval (wO_eq hpl (wO_eq o2 (wO_pos rfl (wO_some rfl))))
    · unfold mf_bounded
      refine wO_neg n0 (wO_eq his (wO_pos rfl ?_))
      unfold mf_bounded_j7
      exact wO_eq d1 (wO_some rfl)
  rw [if_pos c22] at his
  obtain ⟨-, -, -, -, -, -, hv, -⟩ := hT.2.2.2.2 t ht
  obtain ⟨v1, v2, v3⟩ := hv c22
  have hvx : (s.2.2.1 5 t).toInt32 = nI (V t) := v1
  by_cases cr : lo ≤ V t ∧ V t ≤ hi
  · -- within
    obtain ⟨m1, d1, d2, d3⟩ := m_goesOn hT hH
    have Xr : ∀ a, xf_6_take s (nI 22) = some (a, s1) → xf_6_takeInt s (nI lo) (nI hi) = some (nI (V t), s1) := by
      intro a ha
      refine wO_iff.mp ?_
      unfold xf_6_takeInt
      refine wO_eq hval (wO_eq hpl (wO_eq ha ?_))
      by_cases c0 : a = 0
      · exact wO_pos c0 (wO_some (by rw [hvx]))
      · refine wO_neg c0 ?_
        rw [hvx]
        exact wO_neg (nI_nlt cr.1 (by omega)) (wO_pos (nI_le cr.2 (by omega)) (wO_some rfl))
    have Mr : mf_bounded m (nI lo) (nI hi) = some (nI (V t), m1) := by
      refine wO_iff.mp ?_
      unfold mf_bounded
      refine wO_neg n0 (wO_eq his (wO_neg pu_10 (wO_agv (k := t) h11 (by omega) (by omega) v2 (wO_neg (nI_nlt cr.1 (by omega)) (wO_pos (nI_le cr.2 (by omega)) ?_)))))
      unfold mf_bounded_j29
      exact wO_eq d1 (wO_some rfl)
    rcases o1 with ⟨-, o2, o3, o4, o5⟩ | ⟨o2, o3, o4⟩
    · have hn := gHl_next hT ht (by omega) (by omega) o2
      rcases d3 with ⟨-, d4, d5⟩ | ⟨d4, -⟩
      · refine ⟨s1, m1, _, _, Xr _ o3, Mr, f1.wk (by decide) (by decide), d2.wk (by decide), Or.inl ⟨V t, rfl, rfl, v3, ⟨hn, o4, o5, d4, d5⟩, ?_, fun _ => cr⟩⟩
        have hlt := hT.lt hn
        exact hN.mv (by omega) (f1.1 103 (by decide)) (f1.1 104 (by decide)) (d2.i 15 (by decide)) (d2.i 16 (by decide))
      · omega
    · rw [if_pos c22] at o4
      have t4 : t = 400 := by
        rcases o2 with q | q
        · exact q.2
        · exact absurd c22 q
      rcases d3 with ⟨d4, -⟩ | ⟨-, d4, -⟩
      · omega
      · exact ⟨s1, m1, _, _, Xr _ o3, Mr, f1.wk (by decide) (by decide), d2.wk (by decide), Or.inr ⟨2, o4, d4⟩⟩
  · -- out
    have hNs : gNo P t s1 m := hN.mv (Nat.le_refl _) (f1.1 103 (by decide)) (f1.1 104 (by decide)) rfl rfl
    obtain ⟨s2, m2, b1, b2, b3, b4, b5, b6⟩ := b_note (f := 5) hT ht h13 hNs (by omega) (by omega)
    have hT2 : gTok K P V W N s m2 := hT.mv rfl rfl rfl rfl (b4.a 5 (by decide)) (b4.a 6 (by decide)) (b4.a 7 (by decide)) (by rw [b4.2])
    have hH2 : gHl N t s m2 := ⟨ht, hH.2.1, hH.2.2.1, (b4.i 11 (by decide)).trans h11, (b4.i 13 (by decide)).trans h13⟩
    obtain ⟨m3, d1, d2, d3⟩ := m_goesOn hT2 hH2
    have Mr : mf_bounded m (nI lo) (nI hi) = some (nI (V t), m3) := by
      have j : wO (mf_bounded_j24 m (nI (V t))) (fun r => r = (nI (V t), m3)) := by
        unfold mf_bounded_j24 mf_bounded_j29
        rw [h11]
        exact wO_eq b2 (wO_eq d1 (wO_some rfl))
      refine wO_iff.mp ?_
      unfold mf_bounded
      refine wO_neg n0 (wO_eq his (wO_neg pu_10 (wO_agv (k := t) h11 (by omega) (by omega) v2 ?_)))
      by_cases c1 : V t < lo
      · exact wO_pos (nI_lt c1 (by omega)) j
      · exact wO_neg (nI_nlt (by omega) (by omega)) (wO_neg (nI_ge (by omega) (by omega)) j)
    have fm : msF [11, 13, 14, 15, 16] m m3 := (b4.wk (by decide)).tr (d2.wk (by decide))
    rcases o1 with ⟨-, o2, o3, o4, o5⟩ | ⟨o2, o3, o4⟩
    · have hn := gHl_next hT ht (by omega) (by omega) o2
      have hlt := hT.lt hn
      rcases d3 with ⟨-, d4, d5⟩ | ⟨d4, -⟩
      · refine ⟨s2, m3, nI (V t), nI (V t), wO_iff.mp ?_, Mr, (f1.wk (by decide) (by decide)).tr (b3.wk (by decide) (by decide)), fm, Or.inl ⟨V t, rfl, rfl, v3, ⟨hn, (b3.1 100 (by decide)).trans o4, (b3.1 101 (by decide)).trans o5, d4, d5⟩, (b5 (t + 1) hlt).mv (Nat.le_refl _) rfl rfl (d2.i 15 (by decide)) (d2.i 16 (by decide)), fun q => absurd ((d2.i 15 (by decide)).symm.trans q) b6⟩⟩
        have j : wO (xf_6_takeInt_j17 s1 (nI (V t)) (nI (P t))) (fun r => r = (nI (V t), s2)) := by
          unfold xf_6_takeInt_j17
          exact wO_eq b1 (wO_some rfl)
        unfold xf_6_takeInt
        refine wO_eq hval (wO_eq hpl (wO_eq o3 (wO_neg pu_10 ?_)))
        rw [hvx]
        by_cases c1 : V t < lo
        · exact wO_pos (nI_lt c1 (by omega)) j
        · exact wO_neg (nI_nlt (by omega) (by omega)) (wO_neg (nI_ge (by omega) (by omega)) j)
      · omega
    · rw [if_pos c22] at o4
      have t4 : t = 400 := by
        rcases o2 with q | q
        · exact q.2
        · exact absurd c22 q
      rcases d3 with ⟨d4, -⟩ | ⟨-, d4, -⟩
      · omega
      · refine ⟨s1, m3, nI (V t), nI (V t), wO_iff.mp ?_, Mr, f1.wk (by decide) (by decide), fm, Or.inr ⟨2, o4, d4⟩⟩
        unfold xf_6_takeInt
        exact wO_eq hval (wO_eq hpl (wO_eq o3 (wO_pos rfl (wO_some (by rw [hvx])))))
