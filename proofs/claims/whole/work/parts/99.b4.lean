/-! things done: undo, hold, restore, hire -/
theorem RR_lay {n : Nat} {g : gT} {lv : Nat} {po po2 : Option (Nat × Nat)} {st st2 ti : Nat} {s s1 : xs_S} {m n1 : ms_S} (hn : n < 512) (hx : XC g po st s) (h2 : XK g po ti (64 * n + 8) s) (h3 : RS g lv po st ti s m) (i1 : ∀ j, ¬ (400 ≤ j ∧ j < 405) → ¬ (433 ≤ j ∧ j < 1760) → s1.1 j = s.1 j) (a1 : ∀ j, ¬ j = 26 → ¬ (30 ≤ j ∧ j < 111) → ¬ j = 15 → ¬ j = 16 → s1.2.1 j = s.2.1 j) (hG : RG g po2 st2 s1 n1) (hP : RP g s1 n1) (hm : msF mdA m n1) : wO (xf_1_lay_9 s1 (s1.1 401) (s1.1 402)) (fun t => RR (n + 1) t n1) := by
  have nI2 : ∀ j, j ∈ [147, 148, 193, 1873, 1874, 2018, 2022, 2023, 2024, 1875] → ¬ (400 ≤ j ∧ j < 405) ∧ ¬ (433 ≤ j ∧ j < 1760) := by decide
  have nA2 : ∀ j, j ∈ [10, 11, 13, 14, 118, 119, 127, 128, 129, 130] → ¬ j = 26 ∧ ¬ (30 ≤ j ∧ j < 111) ∧ ¬ j = 15 ∧ ¬ j = 16 := by decide
  obtain ⟨y1, y2⟩ := XC.pt (t := s1) hx (fun j hj => i1 j (nI2 j hj).1 (nI2 j hj).2) (fun j hj => a1 j (nA2 j hj).1 (nA2 j hj).2.1 (nA2 j hj).2.2.1 (nA2 j hj).2.2.2)
  obtain ⟨k1, k2, k3, k4, c, k5, k6⟩ := h2
  refine wO_mono (x_lay (po2 := po2) y1 y2 ((i1 1875 (by omega) (by omega)).trans k6) (by omega) hG.2.2.1) ?_
  rintro t ⟨f, t1, t2, b2, hb, t3⟩
  have xl : ∀ j ∈ xKl, j = 1873 ∨ j = 1874 ∨ j = 1875 := by decide
  have fi : ∀ j, j < 1840 → t.1 j = s1.1 j := fun j hj => f.1 j (fun hq => by have := xl j hq; omega)
  have fa : ∀ j, ¬ j = 118 → t.2.1 j = s1.2.1 j := fun j hj => f.2.1 j (fun hq => hj (List.mem_singleton.mp hq))
  refine ⟨g, lv, po2, st2, ti, ⟨t1, t2, (fi 400 (by omega)).trans hG.2.1, hG.1⟩, ⟨?_, k2, ?_, ?_, b2, by omega, t3⟩, ?_⟩
  · exact (fi 151 (by omega)).trans ((i1 151 (by omega) (by omega)).trans k1)
  · rw [fi 401 (by omega), fi 402 (by omega)]; exact hG.2.2.1
  · rw [fa 138 (by omega), a1 138 (by omega) (by omega) (by omega) (by omega)]; exact k4
  · have nI3 : ∀ j, j ∈ [4, 17, 152, 1924] → ¬ (400 ≤ j ∧ j < 405) ∧ ¬ (433 ≤ j ∧ j < 1760) ∧ ¬ j ∈ xKl := by decide
    have nA3 : ∀ j, j ∈ [2, 121, 122, 123] → ¬ j = 26 ∧ ¬ (30 ≤ j ∧ j < 111) ∧ ¬ j = 15 ∧ ¬ j = 16 ∧ ¬ j = 118 := by decide
    refine h3.dn (fun j hj => (f.1 j (nI3 j hj).2.2).trans (i1 j (nI3 j hj).1 (nI3 j hj).2.1)) (fun j h4 h5 => (fi j (by omega)).trans (i1 j (by omega) (by omega))) (fun j hj => (fa j (nA3 j hj).2.2.2.2).trans (a1 j (nA3 j hj).1 (nA3 j hj).2.1 (nA3 j hj).2.2.1 (nA3 j hj).2.2.2.1)) (fun j h4 h5 => (fa j (by omega)).trans (a1 j (by omega) (by omega) (by omega) (by omega))) hm ?_ ?_
    · exact hG.mv (fun k hk => fi _ (by omega)) (fa 26 (by omega)) rfl
    · exact hP.mv (fun j h4 h5 => fi j (by omega)) (fun j h4 h5 => fa j (by omega)) rfl rfl
theorem R_s11 : lw_s11 RR := fun n s m h hn => by
  obtain ⟨g, lv, po, st, ti, h1, h2, h3⟩ := id h
  obtain ⟨x, z, p1, p2, p3, p4, p5, p6⟩ := id h3.2.2.2.2.2.1
  by_cases hz : z = 0
  · subst hz
    refine ⟨0, s, m, wO_iff.mp ?_, wO_iff.mp ?_, R_up h⟩
    · unfold xf_11_undo xf_5_takeBack_25
      refine wO_eq (x := ((0 : Int32), s)) (if_pos p3) (wO_pos rfl (wO_some rfl))
    · unfold mf_undo
      exact wO_pos p4 (wO_some rfl)
  · have hz0 : ¬ s.1 434 = 0 := fun e => hz ((nI_eq (b := 0) (by omega) (by omega)).mp (p3.symm.trans e))
    have ey : ((s.1 433 + (40 : Int32)) - (1 : Int32)) - ((s.1 433 + (40 : Int32)) - (1 : Int32)) / (40 : Int32) * (40 : Int32) = nI ((x + 39) % 40) := by
      have e1 : (s.1 433 + (40 : Int32)) - (1 : Int32) = nI (x + 39) := by
        rw [p1, show nI x + (40 : Int32) = nI (x + 40) from nI_add x 40]
        exact pu_sub (a := x + 40) (b := 1) (by omega)
      rw [e1]
      exact pu_modn (m := 40) (by omega) (by omega)
    generalize hy : (x + 39) % 40 = y at ey
    have hy40 : y < 40 := by omega
    have et := x_takeF hy40 hz0 ey
    rw [ey, show s.1 434 - (1 : Int32) = nI (z - 1) from by rw [p3]; exact pu_sub (a := z) (b := 1) (by omega)] at et
    generalize hs1 : xcp (xtI s (nI y) (nI (z - 1))) (464 + 32 * y) (30 + 2 * y) 400 26 = s1 at et
    have ti1 : ∀ j, ¬ j = 433 → ¬ j = 434 → (xtI s (nI y) (nI (z - 1))).1 j = s.1 j := fun j h1 h2 => (mm_up_ne h2).trans (mm_up_ne h1)
    have o1 : ∀ j, ¬ (400 ≤ j ∧ j < 405) → s1.1 j = (xtI s (nI y) (nI (z - 1))).1 j := fun j hj => by rw [← hs1]; exact xcp_o (by omega)
    have c1 : ∀ k, k < 5 → s1.1 (400 + k) = s.1 (464 + 32 * y + k) := fun k hk => by
      rw [← hs1]
      exact (xcp_i hk).trans (ti1 _ (by omega) (by omega))
    have r1 : ∀ k, k < 5 → s1.2.1 26 k = s.2.1 (30 + 2 * y) k := fun k hk => by
      rw [← hs1]
      exact xcp_a hk
    have ro1 : ∀ j, ¬ j = 26 → s1.2.1 j = s.2.1 j := fun j hj => by
      rw [← hs1]
      exact xcp_ao hj
    have e54 : (m.1 54 - (1 : Int32)) = nI (z - 1) := by rw [p4]; exact pu_sub (a := z) (b := 1) (by omega)
    have mu : wO (mf_undo m) (fun q => q.1 = 1 ∧ msF [47, 54] m q.2 ∧ q.2.1 54 = nI (z - 1) ∧ ∀ k, k < 12 → q.2.2.1 47 k = m.2.1 55 (12 * (z - 1) + k)) := by
      unfold mf_undo
      refine wO_neg (fun e => hz ((nI_eq (b := 0) (by omega) (by omega)).mp (p4.symm.trans e))) ?_
      rw [e54]
      have f0 : msF [54] m (ms_sI m 54 (nI (z - 1))) := msF.sI (by decide)
      refine wO_bd (wO_cp 47 0 12 (fun k => m.2.1 55 (12 * (z - 1) + k)) (fun i u hi hF _ => ?_) (fun u => ?_)) ?_
      · have e : (12 : Int32) * u.1 54 + nI i = nI (12 * (z - 1) + i) := by
          rw [hF.i 54 (by decide), show (ms_sI m 54 (nI (z - 1))).1 54 = nI (z - 1) from rfl, show (12 : Int32) * nI (z - 1) = nI (12 * (z - 1)) from pu_mul 12 (z - 1), nI_add]
        unfold mf_undo_l13
        refine wO_neg (show ¬ (12 : Int32) ≤ nI i from nI_ge (b := 12) hi (by omega)) ?_
        refine wO_agv (k := 12 * (z - 1) + i) (v := m.2.1 55 (12 * (z - 1) + i)) e (by omega) (by omega) (by rw [hF.a 55 (by decide)]; rfl) ?_
        refine wO_in (k := i) rfl (by omega) (by omega) ?_
        rw [nI_clamp (by omega), nI_1, Nat.zero_add]
        exact wO_some rfl
      · unfold mf_undo_l13
        exact wO_pos (Int32.le_refl _) (wO_some rfl)
      · rintro t ⟨f1, d1, d2⟩
        refine wO_some ⟨rfl, (f0.wk (by decide)).tr (f1.wk (by decide)), f1.i 54 (by decide), fun k hk => ?_⟩
        have := d1 k hk
        rw [Nat.zero_add] at this
        exact this
    obtain ⟨⟨v, n1⟩, em, v1, f1, e1, d1⟩ := mu
    have v1 : v = 1 := v1
    subst v1
    have f1 : msF [47, 54] m n1 := f1
    have e1 : n1.1 54 = nI (z - 1) := e1
    have d1 : ∀ k, k < 12 → n1.2.1 47 k = m.2.1 55 (12 * (z - 1) + k) := d1
    obtain ⟨po2, st2, hg⟩ := p6 (z - 1) (by omega)
    have ep : gpos x z (z - 1) = y := by
      unfold gpos
      omega
    rw [ep] at hg
    have hG : RG g po2 st2 s1 n1 := hg.cg c1 r1 d1
    have hP : RP g s1 n1 := by
      refine ⟨y, z - 1, ?_, hy40, ?_, e1, by omega, fun i hi => ?_⟩
      · rw [o1 433 (by omega)]
        rfl
      · rw [o1 434 (by omega)]
        rfl
      · have eq : gpos y (z - 1) i = gpos x z i := by
          unfold gpos
          omega
        have hp : gpos x z i < 40 := Nat.mod_lt _ (by omega)
        rw [eq]
        obtain ⟨po3, st3, hg3⟩ := p6 i (by omega)
        refine ⟨po3, st3, hg3.cg (fun k hk => ?_) (fun k hk => ?_) (fun k hk => ?_)⟩
        · exact (o1 _ (by omega)).trans (ti1 _ (by omega) (by omega))
        · rw [ro1 _ (by omega)]
        · show n1.2.1 55 (12 * i + k) = _
          rw [f1.a 55 (by decide)]
    obtain ⟨t, e2, hR⟩ := RR_lay hn h1 h2 h3 (fun j h4 h5 => (o1 j h4).trans (ti1 j (by omega) (by omega))) (fun j h4 _ _ _ => ro1 j h4) hG hP (f1.wk (by decide))
    refine ⟨1, t, n1, wO_iff.mp ?_, em, hR⟩
    unfold xf_11_undo
    exact wO_eq et (wO_neg pu_10 (wO_eq e2 (wO_some rfl)))
theorem vp_b1 : vp_nar .boolean (1 : Int32) = 1 := by decide
theorem m_in2 {a : Int32} (ha : a < 0 ∨ nI 3 ≤ a) : mf_in a 0 2 = some 0 := m_in_no (n := 3) (by omega) ha
theorem R_s33 : lw_s33 RR := fun n s m a h hn => by
  obtain ⟨g, lv, po, st, ti, h1, h2, h3⟩ := id h
  rcases pu_small a 3 (by omega) with ⟨w, hw, rfl⟩ | ha
  · have hm : wO (mf_hold m (nI w)) (fun q => q.1 = 1 ∧ msF [70, 71] m q.2 ∧ q.2.2.1 70 = upd (m.2.1 70) w 1 ∧ (∀ k, k < 12 → q.2.2.1 71 (12 * w + k) = m.2.1 47 k) ∧ ∀ j, j < 12 * w ∨ 12 * w + 12 ≤ j → q.2.2.1 71 j = m.2.1 71 j) := by
      unfold mf_hold
      refine wO_eq (m_in_yes (n := 3) hw (by omega)) (wO_neg pu_10 ?_)
      refine wO_in (k := w) rfl hw (by omega) ?_
      rw [nI_clamp (by omega), vp_b1]
      have f0 : msF [70] m (ms_sA m 70 (upd (m.2.1 70) w 1)) := msF.sA (by decide)
      refine wO_bd (wO_cp 71 (12 * w) 12 (m.2.1 47) (fun i u hi hF _ => ?_) (fun u => ?_)) ?_
      · have e : (12 : Int32) * nI w + nI i = nI (12 * w + i) := by
          rw [show (12 : Int32) * nI w = nI (12 * w) from pu_mul 12 w, nI_add]
        unfold mf_hold_l14
        refine wO_neg (show ¬ (12 : Int32) ≤ nI i from nI_ge (b := 12) hi (by omega)) ?_
        refine wO_agv (k := i) (v := m.2.1 47 i) rfl (by omega) (by omega) (by rw [hF.a 47 (by decide)]; rfl) ?_
        refine wO_in (k := 12 * w + i) e (by omega) (by omega) ?_
        rw [e, nI_clamp (by omega), nI_1]
        exact wO_some rfl
      · unfold mf_hold_l14
        exact wO_pos (Int32.le_refl _) (wO_some rfl)
      · rintro t ⟨f1, d1, d2⟩
        exact wO_some ⟨rfl, (f0.wk (by decide)).tr (f1.wk (by decide)), f1.a 70 (by decide), d1, d2⟩
    obtain ⟨⟨v, n1⟩, em, v1, f1, e70, d1, d2⟩ := hm
    have v1 : v = 1 := v1
    subst v1
    have f1 : msF [70, 71] m n1 := f1
    have e70 : n1.2.1 70 = upd (m.2.1 70) w 1 := e70
    have d1 : ∀ k, k < 12 → n1.2.1 71 (12 * w + k) = m.2.1 47 k := d1
    have d2 : ∀ j, j < 12 * w ∨ 12 * w + 12 ≤ j → n1.2.1 71 j = m.2.1 71 j := d2
    have ex : xf_11_hold s (nI w) = some (1, xs_sA (xcp s 400 26 (1760 + 32 * w) (111 + 2 * w)) 116 (upd ((xcp s 400 26 (1760 + 32 * w) (111 + 2 * w)).2.1 116) w 1)) := by
      refine wO_iff.mp ?_
      unfold xf_11_hold
      refine wO_neg (pu_nn (by omega)) (wO_pos (show nI w < (3 : Int32) from nI_lt (b := 3) hw (by omega)) ?_)
      rcases (show w = 0 ∨ w = 1 ∨ w = 2 by omega) with rfl | rfl | rfl
      · refine wO_pos rfl (wO_eq (x := xcp s 400 26 1760 111) rfl (wO_in (k := 0) rfl (by omega) (by omega) (wO_some ?_)))
        rw [vp_b1]
        rfl
      · refine wO_neg pu_10 (wO_pos rfl (wO_eq (x := xcp s 400 26 1792 113) rfl (wO_in (k := 1) rfl (by omega) (by omega) (wO_some ?_))))
        rw [vp_b1]
        rfl
      · refine wO_neg (show ¬ (2 : Int32) = 0 by decide) (wO_neg (show ¬ (2 : Int32) = 1 by decide) (wO_pos rfl (wO_eq (x := xcp s 400 26 1824 115) rfl (wO_in (k := 2) rfl (by omega) (by omega) (wO_some ?_)))))
        rw [vp_b1]
        rfl
    generalize hs1 : xs_sA (xcp s 400 26 (1760 + 32 * w) (111 + 2 * w)) 116 (upd ((xcp s 400 26 (1760 + 32 * w) (111 + 2 * w)).2.1 116) w 1) = s1 at ex
    have i1 : ∀ j, j < 1760 + 32 * w ∨ 1760 + 32 * w + 5 ≤ j → s1.1 j = s.1 j := fun j hj => by rw [← hs1]; exact xcp_o (c := 26) (d := 111 + 2 * w) hj
    have c1 : ∀ k, k < 5 → s1.1 (1760 + 32 * w + k) = s.1 (400 + k) := fun k hk => by rw [← hs1]; exact xcp_i (c := 26) (d := 111 + 2 * w) hk
    have r1 : ∀ k, k < 5 → s1.2.1 (111 + 2 * w) k = s.2.1 26 k := fun k hk => by
      rw [← hs1]
      refine (congrFun (mm_up_ne (by omega)) k).trans (xcp_a hk)
    have ro1 : ∀ j, ¬ j = 111 + 2 * w → ¬ j = 116 → s1.2.1 j = s.2.1 j := fun j h4 h5 => by
      rw [← hs1]
      exact (mm_up_ne h5).trans (xcp_ao h4)
    have r116 : s1.2.1 116 = upd (s.2.1 116) w 1 := by
      rw [← hs1]
      show upd ((xcp s 400 26 (1760 + 32 * w) (111 + 2 * w)).2.1 116) w 1 = _
      rw [xcp_ao (by omega)]
    obtain ⟨b1, b2, b3, b4, b5, b6, b7, b8, b9, b10⟩ := id h3
    have nI2 : ∀ j, j ∈ [147, 148, 193, 1873, 1874, 2018, 2022, 2023, 2024, 1875] → j < 1760 ∨ 1840 ≤ j := by decide
    have nA2 : ∀ j, j ∈ [10, 11, 13, 14, 118, 119, 127, 128, 129, 130] → ¬ (111 ≤ j ∧ j < 117) := by decide
    obtain ⟨y1, y2⟩ := XC.pt (t := s1) h1 (fun j hj => i1 j (by have := nI2 j hj; omega)) (fun j hj => ro1 j (by have := nA2 j hj; omega) (by have := nA2 j hj; omega))
    refine ⟨1, s1, n1, ex, em, g, lv, po, st, ti, ⟨y1, y2, (i1 400 (by omega)).trans h1.2.2.1, h1.2.2.2⟩, (h2.fr (i1 151 (by omega)) (i1 401 (by omega)) (i1 402 (by omega)) (ro1 138 (by omega) (by omega)) (i1 1875 (by omega))).up (by omega), ?_⟩
    refine ⟨b1.mv f1 (by decide), by rw [f1.a 29 (by decide)]; exact b2, by rw [i1 152 (by omega), f1.a 30 (by decide)]; exact b3, by rw [i1 4 (by omega), f1.i 17 (by decide)]; exact b4, b5.mv (fun k hk => i1 _ (by omega)) (ro1 26 (by omega) (by omega)) (f1.a 47 (by decide)), b6.mv (fun j h4 h5 => i1 j (by omega)) (fun j h4 h5 => ro1 j (by omega) (by omega)) (f1.i 54 (by decide)) (f1.a 55 (by decide)), fun i hi => ?_, b8.mv (i1 1924 (by omega)) (fun j h4 h5 => ro1 j (by omega) (by omega)) (f1.i 63 (by decide)) (fun j h4 h5 => ?_), b9.mv (i1 17 (by omega)) (ro1 2 (by omega) (by omega)) (f1.i 2 (by decide)) (f1.a 1 (by decide)), fun k hk => by rw [f1.2]; exact b10 k hk⟩
    · rw [e70, r116]
      by_cases he : i = w
      · subst he
        rw [upd_eq, upd_eq]
        exact ⟨rfl, Or.inr ⟨rfl, po, st, GS.cg b5 c1 r1 d1⟩⟩
      · rw [upd_ne he, upd_ne he]
        obtain ⟨q1, q2⟩ := b7 i hi
        refine ⟨q1, q2.imp id (fun ⟨q3, po3, st3, hg⟩ => ⟨q3, po3, st3, hg.cg (fun k hk => i1 _ (by omega)) (fun k _ => by rw [ro1 _ (by omega) (by omega)]) (fun k hk => d2 _ (by omega))⟩)⟩
    · rcases (show j = 64 ∨ j = 65 ∨ j = 66 by omega) with rfl | rfl | rfl
      · exact f1.a 64 (by decide)
      · exact f1.a 65 (by decide)
      · exact f1.a 66 (by decide)
  · refine ⟨0, s, m, wO_iff.mp ?_, wO_iff.mp ?_, R_up h⟩
    · unfold xf_11_hold
      by_cases c0 : a < 0
      · exact wO_pos c0 (wO_some rfl)
      · exact wO_neg c0 (wO_neg (Int32.not_lt.mpr (ha.resolve_left c0)) (wO_some rfl))
    · unfold mf_hold
      exact wO_eq (m_in2 ha) (wO_pos rfl (wO_some rfl))
theorem R_s34 : lw_s34 RR := fun n s m a h hn => by
  obtain ⟨g, lv, po, st, ti, h1, h2, h3⟩ := id h
  rcases pu_small a 3 (by omega) with ⟨w, hw, rfl⟩ | ha
  · obtain ⟨q1, q2⟩ := h3.2.2.2.2.2.2.1 w hw
    have xh : ∀ (v : Int32) P, s.2.1 116 w = v → wO (if v = 0 then some ((0 : Int32), s) else (xf_1_lay_9 (xs_sI (xcp s (1760 + 32 * w) (111 + 2 * w) 400 26) 434 0) ((xcp s (1760 + 32 * w) (111 + 2 * w) 400 26).1 401) ((xcp s (1760 + 32 * w) (111 + 2 * w) 400 26).1 402)).bind fun s_7 => some ((1 : Int32), s_7)) P → wO (xf_11_restore s (nI w)) P := fun v P hv hP => by
      unfold xf_11_restore
      refine wO_neg (pu_nn (by omega)) (wO_neg (show ¬ (3 : Int32) ≤ nI w from nI_ge (b := 3) hw (by omega)) (wO_agv (k := w) rfl hw (by omega) hv ?_))
      by_cases c0 : v = 0
      · rw [if_pos c0] at hP ⊢
        exact hP
      · rw [if_neg c0] at hP ⊢
        rcases (show w = 0 ∨ w = 1 ∨ w = 2 by omega) with rfl | rfl | rfl
        · exact wO_pos rfl (wO_eq (x := xcp s 1760 111 400 26) rfl hP)
        · exact wO_neg pu_10 (wO_pos rfl (wO_eq (x := xcp s 1792 113 400 26) rfl hP))
        · exact wO_neg (show ¬ (2 : Int32) = 0 by decide) (wO_neg (show ¬ (2 : Int32) = 1 by decide) (wO_pos rfl (wO_eq (x := xcp s 1824 115 400 26) rfl hP)))
    rcases q2 with q2 | ⟨q2, po2, st2, hg⟩
    · refine ⟨0, s, m, wO_iff.mp (xh 0 _ q2 (wO_pos rfl (wO_some rfl))), wO_iff.mp ?_, R_up h⟩
      unfold mf_restore
      exact wO_eq (m_in_yes (n := 3) hw (by omega)) (wO_neg pu_10 (wO_agv (k := w) rfl hw (by omega) (q1.trans q2) (wO_pos rfl (wO_some rfl))))
    · have hm : wO (mf_restore m (nI w)) (fun q => q.1 = 1 ∧ msF [47, 54] m q.2 ∧ q.2.1 54 = 0 ∧ ∀ k, k < 12 → q.2.2.1 47 k = m.2.1 71 (12 * w + k)) := by
        unfold mf_restore
        refine wO_eq (m_in_yes (n := 3) hw (by omega)) (wO_neg pu_10 (wO_agv (k := w) rfl hw (by omega) (q1.trans q2) (wO_neg pu_10 ?_)))
        refine wO_bd (wO_cp 47 0 12 (fun k => m.2.1 71 (12 * w + k)) (fun i u hi hF _ => ?_) (fun u => ?_)) ?_
        · have e : (12 : Int32) * nI w + nI i = nI (12 * w + i) := by
            rw [show (12 : Int32) * nI w = nI (12 * w) from pu_mul 12 w, nI_add]
          unfold mf_restore_l14
          refine wO_neg (show ¬ (12 : Int32) ≤ nI i from nI_ge (b := 12) hi (by omega)) ?_
          refine wO_agv (k := 12 * w + i) (v := m.2.1 71 (12 * w + i)) e (by omega) (by omega) (by rw [hF.a 71 (by decide)]) ?_
          refine wO_in (k := i) rfl (by omega) (by omega) ?_
          rw [nI_clamp (by omega), nI_1, Nat.zero_add]
          exact wO_some rfl
        · unfold mf_restore_l14
          exact wO_pos (Int32.le_refl _) (wO_some rfl)
        · rintro t ⟨f1, d1, d2⟩
          refine wO_some ⟨rfl, (f1.wk (by decide)).tr (msF.sI (by decide)), rfl, fun k hk => ?_⟩
          have := d1 k hk
          rw [Nat.zero_add] at this
          exact this
      obtain ⟨⟨v, n1⟩, em, v1, f1, e54, d1⟩ := hm
      have v1 : v = 1 := v1
      subst v1
      have f1 : msF [47, 54] m n1 := f1
      have e54 : n1.1 54 = 0 := e54
      have d1 : ∀ k, k < 12 → n1.2.1 47 k = m.2.1 71 (12 * w + k) := d1
      generalize hs0 : xcp s (1760 + 32 * w) (111 + 2 * w) 400 26 = s0 at xh
      have o1 : ∀ j, ¬ (400 ≤ j ∧ j < 405) → s0.1 j = s.1 j := fun j hj => by rw [← hs0]; exact xcp_o (by omega)
      have c1 : ∀ k, k < 5 → s0.1 (400 + k) = s.1 (1760 + 32 * w + k) := fun k hk => by rw [← hs0]; exact xcp_i hk
      have r1 : ∀ k, k < 5 → s0.2.1 26 k = s.2.1 (111 + 2 * w) k := fun k hk => by rw [← hs0]; exact xcp_a hk
      have ro1 : ∀ j, ¬ j = 26 → s0.2.1 j = s.2.1 j := fun j hj => by rw [← hs0]; exact xcp_ao hj
      have hi : ∀ j, ¬ j = 434 → (xs_sI s0 434 0).1 j = s0.1 j := fun j hj => mm_up_ne hj
      have hG : RG g po2 st2 (xs_sI s0 434 0) n1 := hg.cg (fun k hk => (hi _ (by omega)).trans (c1 k hk)) r1 d1
      have hP : RP g (xs_sI s0 434 0) n1 := by
        obtain ⟨x, z, p1, p2, p3, p4, p5, p6⟩ := h3.2.2.2.2.2.1
        exact ⟨x, 0, (hi 433 (by omega)).trans ((o1 433 (by omega)).trans p1), p2, rfl, e54, by omega, fun i hi => absurd hi (by omega)⟩
      obtain ⟨t, e2, hR⟩ := RR_lay hn h1 h2 h3 (fun j h4 h5 => (hi j (by omega)).trans (o1 j h4)) (fun j h4 _ _ _ => ro1 j h4) hG hP (f1.wk (by decide))
      refine ⟨1, t, n1, wO_iff.mp (xh 1 _ q2 (wO_neg pu_10 (wO_eq e2 (wO_some rfl)))), em, hR⟩
  · refine ⟨0, s, m, wO_iff.mp ?_, wO_iff.mp ?_, R_up h⟩
    · unfold xf_11_restore
      by_cases c0 : a < 0
      · exact wO_pos c0 (wO_some rfl)
      · exact wO_neg c0 (wO_pos (ha.resolve_left c0) (wO_some rfl))
    · unfold mf_restore
      exact wO_eq (m_in2 ha) (wO_pos rfl (wO_some rfl))
