/-! reading: a text that is not taken -/
theorem MT.sq {g : gT} {lv : Nat} {m n : ms_S} (h : MT g lv m) (hs : gSq (1 - lv) m n) (h18 : n.1 18 = m.1 18) : MT g lv n := by
  obtain ⟨a1, a2, a3, a4, a5, a6, a7, a8, a9⟩ := h
  obtain ⟨s1, s2, s3, s4, s5, s6⟩ := hs
  refine ⟨a1, h18.trans a2, a3, a4, ?_, ?_, fun j hj => ?_, fun j hj => ?_, a9.mq ⟨h18, fun lv2 hl2 he => ?_⟩⟩
  · rw [s1 23 (by decide) lv (by omega)]; exact a5
  · rw [s1 25 (by decide) lv (by omega)]; exact a6
  · rw [s2 (5 * lv + j) (by omega)]; exact a7 j hj
  · rw [s3 (6 * lv + j) (by omega)]; exact a8 j hj
  · have e : lv2 = lv := (nI_eq (by omega) (by omega)).mp (he.symm.trans a2)
    subst e
    refine ⟨fun j hj i hi => s4 j hj _ (by omega), fun j hj i hi => s5 j hj _ (by omega), fun j hj i hi => ?_⟩
    have q := s6 (420 * lv2 + i) (by omega)
    have hj2 : j = 40 ∨ j = 41 := by
      simp only [List.mem_cons, List.not_mem_nil, or_false] at hj
      exact hj
    rcases hj2 with rfl | rfl
    · exact q.1
    · exact q.2
def xRi : List Nat := [4, 17, 21, 100, 101, 102, 103, 104, 275, 276, 277, 278, 279, 280, 321]
def xRa : List Nat := [3, 4, 18, 19, 21, 22]
def mRi : List Nat := [2, 3, 4, 10, 11, 12, 13, 14, 15, 16, 17, 19, 20, 22, 23, 24, 25, 26, 27, 28, 29, 30, 31, 32, 33, 34, 35, 36, 37, 38, 39, 40, 41, 42, 43]
def mRa : List Nat := [2, 3, 4, 5, 6, 7, 10, 11, 12, 13, 14, 15, 16, 17, 19, 20, 22, 23, 24, 25, 26, 27, 28, 29, 30, 31, 32, 33, 34, 35, 36, 37, 38, 39, 40, 41, 42, 43]
theorem xRi_lo : ∀ j ∈ xRi, j ≤ 321 := by decide
theorem xRa_lo : ∀ j ∈ xRa, j ≤ 22 := by decide
theorem mRi_lo : ∀ j ∈ mRi, j ≤ 43 := by decide
theorem mRa_lo : ∀ j ∈ mRa, j ≤ 43 := by decide
theorem RR_fail {n : Nat} {g : gT} {lv : Nat} {po : Option (Nat × Nat)} {st ti : Nat} {s s2 : xs_S} {m m2 : ms_S} (hx : XC g po st s) (hk : XK g po ti (64 * n + 8) s) (hr : RS g lv po st ti s m) (F : xsH xRi xRa [5, 7, 8] s s2) (G : msH mRi mRa [8, 21] m m2) (Q : gSq (1 - lv) m m2) (h4 : s2.1 4 = m2.1 17) (h17 : s2.1 17 = 0) (h2 : m2.1 2 = 0) : RR (n + 1) s2 m2 := by
  obtain ⟨b1, b2, b3, b4, b5, b6, b7, b8, b9, b10⟩ := hr
  have fi : ∀ j, 322 ≤ j → s2.1 j = s.1 j := fun j hj => F.1 j (fun q => by have := xRi_lo j q; omega)
  have fa : ∀ j, 23 ≤ j → s2.2.1 j = s.2.1 j := fun j hj => F.2.1 j (fun q => by have := xRa_lo j q; omega)
  have mi : ∀ j, 44 ≤ j → m2.1 j = m.1 j := fun j hj => G.1 j (fun q => by have := mRi_lo j q; omega)
  have ma : ∀ j, 44 ≤ j → m2.2.1 j = m.2.1 j := fun j hj => G.2.1 j (fun q => by have := mRa_lo j q; omega)
  have hlv := b1.1
  have hpt := hx.pt (t := s2) (fun j hj => F.1 j (by
    have q : ∀ j ∈ [147, 148, 193, 1873, 1874, 2018, 2022, 2023, 2024, 1875], ¬ j ∈ xRi := by decide
    exact q j hj)) (fun j hj => F.2.1 j (by
    have q : ∀ j ∈ [10, 11, 13, 14, 118, 119, 127, 128, 129, 130], ¬ j ∈ xRa := by decide
    exact q j hj))
  refine ⟨g, lv, po, st, ti, ⟨hpt.1, hpt.2, (fi 400 (by omega)).trans hx.2.2.1, hx.2.2.2⟩, (hk.fr (F.1 151 (by decide)) (fi 401 (by omega)) (fi 402 (by omega)) (fa 138 (by omega)) (fi 1875 (by omega))).up (by omega), b1.sq Q (G.1 18 (by decide)), ?_, ?_, h4, ?_, ?_, ?_, ?_, ?_, ?_⟩
  · rw [Q.1 29 (by decide) lv (by omega)]; exact b2
  · rw [Q.1 30 (by decide) lv (by omega), F.1 152 (by decide)]; exact b3
  · exact b5.mv (fun k _ => fi _ (by omega)) (fa 26 (by omega)) (ma 47 (by omega))
  · exact b6.mv (fun j h1 _ => fi j (by omega)) (fun j h1 _ => fa j (by omega)) (mi 54 (by omega)) (ma 55 (by omega))
  · exact b7.mv (fun j h1 _ => fi j (by omega)) (fun j h1 _ => fa j (by omega)) (ma 70 (by omega)) (ma 71 (by omega))
  · exact b8.mv (fi 1924 (by omega)) (fun j h1 _ => fa j (by omega)) (mi 63 (by omega)) (fun j h1 _ => ma j (by omega))
  · exact ⟨0, by omega, h17, h2, fun i hi => by omega⟩
  · intro k hk
    rw [G.2.2 9 (by decide)]
    exact b10 k hk
/-! the new text taken: both begin anew -/
theorem x_fill26 {q : xs_S} : ∃ s2, xf_7_fill_53178_26 q 0 = some s2 ∧ xsF [] [26] q s2 ∧ ∀ i, i < 5 → s2.2.1 26 i = 0 := by
  have key : ∀ n w, n + w = 5 → ∀ p : xs_S, xsF [] [26] q p → (∀ i, i < w → p.2.1 26 i = 0) → ∃ s2, mo_loop (xf_7_fill_53178_26_l5 0 (Int32.ofNat 5)) (nI w, p) = some s2 ∧ xsF [] [26] q s2 ∧ ∀ i, i < 5 → s2.2.1 26 i = 0 := by
    intro n
    induction n with
    | zero =>
      intro w hw p h1 h2
      have hw : w = 5 := by omega
      subst hw
      refine ⟨p, mo_loop_inr (wO_iff.mp ?_), h1, h2⟩
      unfold xf_7_fill_53178_26_l5
      exact wO_pos (by decide) (wO_some rfl)
    | succ n ih =>
      intro w hw p h1 h2
      have st : xf_7_fill_53178_26_l5 0 (Int32.ofNat 5) (nI w, p) = some (.inl (nI (w + 1), xs_sA p 26 (upd (p.2.1 26) w 0))) := by
        refine wO_iff.mp ?_
        unfold xf_7_fill_53178_26_l5
        refine wO_neg (show ¬ nI 5 ≤ nI w from nI_ge (by omega) (by omega)) (wO_in (k := w) rfl (by omega) (by omega) ?_)
        rw [nI_clamp (by omega), nI_1]
        exact wO_some rfl
      rw [mo_loop_inl st]
      refine ih (w + 1) (by omega) _ (h1.tr (xsF.sA (by decide))) (fun i hi => ?_)
      show upd (p.2.1 26) w 0 i = 0
      by_cases e : i = w
      · rw [e, upd_eq]
      · rw [upd_ne e]
        exact h2 i (by omega)
  obtain ⟨s2, e2, f2, g2⟩ := key 5 0 rfl q xsF.rf (fun i hi => by omega)
  refine ⟨s2, wO_iff.mp ?_, f2, g2⟩
  unfold xf_7_fill_53178_26
  exact wO_eq e2 (wO_some rfl)
theorem x_fill138 {q : xs_S} : ∃ s2, xf_7_fill_53178_138 q (-1) = some s2 ∧ xsF [] [138] q s2 ∧ ∀ i, i < 25 → s2.2.1 138 i = -1 := by
  have key : ∀ n w, n + w = 25 → ∀ p : xs_S, xsF [] [138] q p → (∀ i, i < w → p.2.1 138 i = -1) → ∃ s2, mo_loop (xf_7_fill_53178_138_l5 (-1) (Int32.ofNat 25)) (nI w, p) = some s2 ∧ xsF [] [138] q s2 ∧ ∀ i, i < 25 → s2.2.1 138 i = -1 := by
    intro n
    induction n with
    | zero =>
      intro w hw p h1 h2
      have hw : w = 25 := by omega
      subst hw
      refine ⟨p, mo_loop_inr (wO_iff.mp ?_), h1, h2⟩
      unfold xf_7_fill_53178_138_l5
      exact wO_pos (by decide) (wO_some rfl)
    | succ n ih =>
      intro w hw p h1 h2
      have st : xf_7_fill_53178_138_l5 (-1) (Int32.ofNat 25) (nI w, p) = some (.inl (nI (w + 1), xs_sA p 138 (upd (p.2.1 138) w (-1)))) := by
        refine wO_iff.mp ?_
        unfold xf_7_fill_53178_138_l5
        refine wO_neg (show ¬ nI 25 ≤ nI w from nI_ge (by omega) (by omega)) (wO_in (k := w) rfl (by omega) (by omega) ?_)
        rw [nI_clamp (by omega), nI_1]
        exact wO_some rfl
      rw [mo_loop_inl st]
      refine ih (w + 1) (by omega) _ (h1.tr (xsF.sA (by decide))) (fun i hi => ?_)
      show upd (p.2.1 138) w (-1) i = -1
      by_cases e : i = w
      · rw [e, upd_eq]
      · rw [upd_ne e]
        exact h2 i (by omega)
  obtain ⟨s2, e2, f2, g2⟩ := key 25 0 rfl q xsF.rf (fun i hi => by omega)
  refine ⟨s2, wO_iff.mp ?_, f2, g2⟩
  unfold xf_7_fill_53178_138
  exact wO_eq e2 (wO_some rfl)
/-- the held ones let go -/
noncomputable def xL15 : (Int32 × xs_S) → Option ((Int32 × xs_S) ⊕ ((xs_S))) := fun (w1, s) =>
(if (3 : Int32) ≤ w1 then
some (.inr (s))
else
(bif mo_in w1 3 then some (.inl ((w1 + (1 : Int32)), (xs_sA s 116 (upd (s.2.1 116) (w1).toNatClampNeg ((vp_nar .boolean (0 : Int32))))))) else none))
theorem x_l15 {q : xs_S} : ∃ s2, mo_loop xL15 ((0 : Int32), q) = some s2 ∧ xsF [] [116] q s2 ∧ ∀ i, i < 3 → s2.2.1 116 i = 0 := by
  have key : ∀ n w, n + w = 3 → ∀ p : xs_S, xsF [] [116] q p → (∀ i, i < w → p.2.1 116 i = 0) → ∃ s2, mo_loop xL15 (nI w, p) = some s2 ∧ xsF [] [116] q s2 ∧ ∀ i, i < 3 → s2.2.1 116 i = 0 := by
    intro n
    induction n with
    | zero =>
      intro w hw p h1 h2
      have hw : w = 3 := by omega
      subst hw
      refine ⟨p, mo_loop_inr (wO_iff.mp ?_), h1, h2⟩
      unfold xL15
      exact wO_pos (by decide) (wO_some rfl)
    | succ n ih =>
      intro w hw p h1 h2
      have st : xL15 (nI w, p) = some (.inl (nI (w + 1), xs_sA p 116 (upd (p.2.1 116) w 0))) := by
        refine wO_iff.mp ?_
        unfold xL15
        refine wO_neg (show ¬ nI 3 ≤ nI w from nI_ge (by omega) (by omega)) (wO_in (k := w) rfl (by omega) (by omega) ?_)
        rw [nI_clamp (by omega), nI_1]
        exact wO_some rfl
      rw [mo_loop_inl st]
      refine ih (w + 1) (by omega) _ (h1.tr (xsF.sA (by decide))) (fun i hi => ?_)
      show upd (p.2.1 116) w 0 i = 0
      by_cases e : i = w
      · rw [e, upd_eq]
      · rw [upd_ne e]
        exact h2 i (by omega)
  obtain ⟨s2, e2, f2, g2⟩ := key 3 0 rfl q xsF.rf (fun i hi => by omega)
  exact ⟨s2, e2, f2, g2⟩
/-- the class's new beginning: a standing v, a pair a b -/
def xBi : List Nat := [400, 401, 402, 403, 404, 434, 1924, 1873, 1874, 1875]
def xBa : List Nat := [26, 116, 138, 118]
noncomputable def xBg (v a b : Int32) (s : xs_S) : Option xs_S := ((xf_7_fill_53178_26 (xs_sI (xs_sI (xs_sI (xs_sI (xs_sI s 400 v) 401 a) 402 b) 403 ((0 : Int32))) 404 ((0 : Int32))) ((0 : Int32))).bind fun s_1 =>
((mo_loop xL15 ((0 : Int32), (xs_sI (xs_sI s_1 434 ((0 : Int32))) 1924 ((0 : Int32))))).bind fun s_4 =>
((xf_7_fill_53178_138 s_4 ((-1 : Int32))).bind fun s_5 =>
((xf_7_fill_53178_118 (xs_sI (xs_sI (xs_sI s_5 1873 (s_5.1 401)) 1874 (s_5.1 402)) 1875 (((s_5.1 1875) + (1 : Int32)))) ((-1 : Int32))).bind fun s_7 =>
some s_7))))
theorem x_bg {v a b : Int32} {c : Nat} {s : xs_S} (hc : s.1 1875 = nI c) : ∃ s2, xBg v a b s = some s2 ∧ xsF xBi xBa s s2 ∧ s2.1 400 = v ∧ s2.1 401 = a ∧ s2.1 402 = b ∧ s2.1 403 = 0 ∧ s2.1 404 = 0 ∧ s2.1 434 = 0 ∧ s2.1 1924 = 0 ∧ s2.1 1873 = a ∧ s2.1 1874 = b ∧ s2.1 1875 = nI (c + 1) ∧ (∀ i, i < 5 → s2.2.1 26 i = 0) ∧ (∀ i, i < 3 → s2.2.1 116 i = 0) ∧ (∀ i, i < 25 → s2.2.1 138 i = -1) ∧ ∀ i, i < 294 → s2.2.1 118 i = -1 := by
  generalize h0 : xs_sI (xs_sI (xs_sI (xs_sI (xs_sI s 400 v) 401 a) 402 b) 403 ((0 : Int32))) 404 ((0 : Int32)) = s0
  have f0 : xsF xBi xBa s s0 := by
    rw [← h0]
    exact (xsF.sI (by decide)).tr ((xsF.sI (by decide)).tr ((xsF.sI (by decide)).tr ((xsF.sI (by decide)).tr (xsF.sI (by decide)))))
  have i0 : s0.1 400 = v ∧ s0.1 401 = a ∧ s0.1 402 = b ∧ s0.1 403 = 0 ∧ s0.1 404 = 0 := by
    rw [← h0]
    exact ⟨rfl, rfl, rfl, rfl, rfl⟩
  obtain ⟨s1, e1, f1, g1⟩ := x_fill26 (q := s0)
  generalize h2 : xs_sI (xs_sI s1 434 ((0 : Int32))) 1924 ((0 : Int32)) = s2
  have f2 : xsF [434, 1924] [] s1 s2 := by
    rw [← h2]
    exact (xsF.sI (by decide)).tr (xsF.sI (by decide))
  have i2 : s2.1 434 = 0 ∧ s2.1 1924 = 0 := by
    rw [← h2]
    exact ⟨rfl, rfl⟩
  obtain ⟨s4, e4, f4, g4⟩ := x_l15 (q := s2)
  obtain ⟨s5, e5, f5, g5⟩ := x_fill138 (q := s4)
  generalize h6 : xs_sI (xs_sI (xs_sI s5 1873 (s5.1 401)) 1874 (s5.1 402)) 1875 (((s5.1 1875) + (1 : Int32))) = s6
  have f6 : xsF [1873, 1874, 1875] [] s5 s6 := by
    rw [← h6]
    exact (xsF.sI (by decide)).tr ((xsF.sI (by decide)).tr (xsF.sI (by decide)))
  obtain ⟨s7, e7, f7, g7⟩ := x_fill118 (s := s6) (v := -1)
  have F5 : xsF [434, 1924] [26, 116, 138] s0 s5 := (f1.wk (by decide) (by decide)).tr ((f2.wk (by decide) (by decide)).tr ((f4.wk (by decide) (by decide)).tr (f5.wk (by decide) (by decide))))
  have i5 : ∀ j, ¬ j ∈ [434, 1924] → s5.1 j = s0.1 j := F5.1
  have c5 : s5.1 1875 = nI c := by rw [i5 1875 (by decide), ← h0]; exact hc
  have i6 : s6.1 1873 = a ∧ s6.1 1874 = b ∧ s6.1 1875 = nI (c + 1) := by
    rw [← h6]
    refine ⟨(i5 401 (by decide)).trans i0.2.1, (i5 402 (by decide)).trans i0.2.2.1, ?_⟩
    show s5.1 1875 + 1 = nI (c + 1)
    rw [c5]
    exact nI_1 c
  have l7 : ∀ j, s7.1 j = s6.1 j := fun j => f7.1 j (fun q => (by cases q))
  have l6 : ∀ j, ¬ j ∈ [1873, 1874, 1875] → s6.1 j = s5.1 j := f6.1
  refine ⟨s7, wO_iff.mp ?_, f0.tr ((F5.wk (by decide) (by decide)).tr ((f6.wk (by decide) (by decide)).tr (f7.wk (by decide) (by decide)))), ?_, ?_, ?_, ?_, ?_, ?_, ?_, ?_, ?_, ?_, ?_, ?_, ?_, g7⟩
  · unfold xBg
    rw [h0]
    refine wO_eq e1 ?_
    rw [h2]
    refine wO_eq e4 (wO_eq e5 ?_)
    rw [h6]
    exact wO_eq e7 (wO_some rfl)
  · rw [l7, l6 400 (by decide), i5 400 (by decide)]; exact i0.1
  · rw [l7, l6 401 (by decide), i5 401 (by decide)]; exact i0.2.1
  · rw [l7, l6 402 (by decide), i5 402 (by decide)]; exact i0.2.2.1
  · rw [l7, l6 403 (by decide), i5 403 (by decide)]; exact i0.2.2.2.1
  · rw [l7, l6 404 (by decide), i5 404 (by decide)]; exact i0.2.2.2.2
  · rw [l7, l6 434 (by decide), f5.1 434 (by decide), f4.1 434 (by decide)]; exact i2.1
  · rw [l7, l6 1924 (by decide), f5.1 1924 (by decide), f4.1 1924 (by decide)]; exact i2.2
  · rw [l7]; exact i6.1
  · rw [l7]; exact i6.2.1
  · rw [l7]; exact i6.2.2
  · intro i hi
    rw [f7.2.1 26 (by decide), f6.2.1 26 (by decide), f5.2.1 26 (by decide), f4.2.1 26 (by decide), f2.2.1 26 (by decide)]
    exact g1 i hi
  · intro i hi
    rw [f7.2.1 116 (by decide), f6.2.1 116 (by decide), f5.2.1 116 (by decide)]
    exact g4 i hi
  · intro i hi
    rw [f7.2.1 138 (by decide), f6.2.1 138 (by decide)]
    exact g5 i hi
