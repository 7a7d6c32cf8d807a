/-! things done: say, pass, set -/
theorem XC.pt {g : gT} {po : Option (Nat × Nat)} {st : Nat} {s t : xs_S} (h : XC g po st s) (i : ∀ j, j ∈ [147, 148, 193, 1873, 1874, 2018, 2022, 2023, 2024, 1875] → t.1 j = s.1 j) (r : ∀ j, j ∈ [10, 11, 13, 14, 118, 119, 127, 128, 129, 130] → t.2.1 j = s.2.1 j) : XG g t po ∧ gFs g po t := by
  refine ⟨⟨?_, h.1.2.1.mv (i 1873 (by decide)) (i 1874 (by decide)), ?_⟩, ?_⟩
  · have hT := h.1.1
    unfold XT XL at hT ⊢
    rw [i 147 (by decide), i 148 (by decide), i 193 (by decide), r 10 (by decide), r 11 (by decide), r 13 (by decide), r 14 (by decide)]
    exact hT
  · rw [r 118 (by decide), r 119 (by decide)]; exact h.1.2.2
  · unfold gFs gLy gFc
    rw [i 2024 (by decide), i 2023 (by decide), i 1875 (by decide), i 2022 (by decide), i 2018 (by decide), r 118 (by decide), r 119 (by decide), r 127 (by decide), r 128 (by decide), r 129 (by decide), r 130 (by decide)]
    exact h.2.1
def mdA : List Nat := [44, 45, 46, 48, 49, 50, 51, 52, 53, 56, 57, 58, 59, 60, 61, 62, 67, 68, 69, 47, 54, 55]
theorem RS.dn {g : gT} {lv : Nat} {po po2 : Option (Nat × Nat)} {st st2 ti : Nat} {s t : xs_S} {m n : ms_S} (h : RS g lv po st ti s m) (hi : ∀ j, j ∈ [4, 17, 152, 1924] → t.1 j = s.1 j) (hi2 : ∀ j, 1760 ≤ j → j < 1840 → t.1 j = s.1 j) (ha : ∀ j, j ∈ [2, 121, 122, 123] → t.2.1 j = s.2.1 j) (ha2 : ∀ j, 111 ≤ j → j < 117 → t.2.1 j = s.2.1 j) (hm : msF mdA m n) (hG : RG g po2 st2 t n) (hP : RP g t n) : RS g lv po2 st2 ti t n := by
  obtain ⟨b1, b2, b3, b4, b5, b6, b7, b8, b9, b10⟩ := h
  refine ⟨b1.mv hm (by decide), by rw [hm.a 29 (by decide)]; exact b2, by rw [hi 152 (by decide), hm.a 30 (by decide)]; exact b3, by rw [hi 4 (by decide), hm.i 17 (by decide)]; exact b4, hG, hP, b7.mv hi2 ha2 (hm.a 70 (by decide)) (hm.a 71 (by decide)), ?_, b9.mv (hi 17 (by decide)) (ha 2 (by decide)) (hm.i 2 (by decide)) (hm.a 1 (by decide)), ?_⟩
  · refine b8.mv (hi 1924 (by decide)) (fun j h1 h2 => ?_) (hm.i 63 (by decide)) (fun j h1 h2 => ?_)
    · rcases (show j = 121 ∨ j = 122 ∨ j = 123 by omega) with rfl | rfl | rfl
      · exact ha 121 (by decide)
      · exact ha 122 (by decide)
      · exact ha 123 (by decide)
    · rcases (show j = 64 ∨ j = 65 ∨ j = 66 by omega) with rfl | rfl | rfl
      · exact hm.a 64 (by decide)
      · exact hm.a 65 (by decide)
      · exact hm.a 66 (by decide)
  · intro k hk
    rw [hm.2]
    exact b10 k hk
theorem RR_st {n : Nat} {g : gT} {lv : Nat} {po : Option (Nat × Nat)} {st ti : Nat} {s s2 : xs_S} {m m2 : ms_S} (h2 : XK g po ti (64 * n + 8) s) (h3 : RS g lv po st ti s m) (hx : XC g po st s2) (f : xsF xQi xQa s s2) (hm : msF mqA m m2) : RR (n + 1) s2 m2 := ⟨g, lv, po, st, ti, hx, (h2.fr (f.1 151 (by decide)) (f.1 401 (by decide)) (f.1 402 (by decide)) (f.2.1 138 (by decide)) (f.1 1875 (by decide))).up (by omega), h3.mv (f.g (by decide) (by decide)) hm⟩
theorem xQi_hi : ∀ j ∈ xQi, 2018 ≤ j := by decide
theorem xQa_out : ∀ j ∈ xQa, (j = 15 ∨ j = 16 ∨ 118 ≤ j) ∧ ¬ (121 ≤ j ∧ j < 124) ∧ ¬ j = 138 := by decide
theorem gNx_w {g : gT} {po : Option (Nat × Nat)} {wo st w u : Nat} (h : gNx g po wo st w = some u) (hw : w < 6) : ∃ l r, po = some (l, r) ∧ w < g.1.2 ∧ u / 14 = gSl g l r (st / 14) (st / 7 % 2) (st % 7) w ∧ u / 7 % 2 = 1 - st / 7 % 2 ∧ u % 7 = w := by
  unfold gNx at h
  cases po with
  | none => cases h
  | some p =>
    obtain ⟨l, r⟩ := p
    simp only at h
    rw [if_pos hw] at h
    cases hc : (decide (w < g.1.2) && gCan g (some (l, r)) wo (st / 14) (st / 7 % 2) (st % 7) w) with
    | false => rw [hc] at h; cases h
    | true =>
      rw [hc] at h
      have h2 := Option.some.inj h
      rw [Bool.and_eq_true, decide_eq_true_eq] at hc
      refine ⟨l, r, rfl, hc.1, ?_, ?_, ?_⟩ <;> omega
theorem gNx_6 {g : gT} {po : Option (Nat × Nat)} {wo st u : Nat} (h : gNx g po wo st 6 = some u) : ∃ l r, po = some (l, r) ∧ u / 14 = gSr g l r (st / 14) (st / 7 % 2) (st % 7) ∧ u / 7 % 2 = 1 - st / 7 % 2 ∧ u % 7 = 6 := by
  unfold gNx at h
  cases po with
  | none => cases h
  | some p =>
    obtain ⟨l, r⟩ := p
    simp only at h
    rw [if_neg (by omega), if_pos trivial] at h
    cases hc : (decide (0 < st / 14) && (decide (st / 14 < 20) && decide (gBs (gCan g (some (l, r)) wo (st / 14) (st / 7 % 2) (st % 7)) g.1.2 = 0))) with
    | false => rw [hc] at h; cases h
    | true =>
      rw [hc] at h
      have h2 := Option.some.inj h
      refine ⟨l, r, rfl, ?_, ?_, ?_⟩ <;> omega
theorem m_says_u {g : gT} {lv : Nat} {m : ms_S} {po : Option (Nat × Nat)} {wo st w u : Nat} (h : MW g lv m po wo (st / 14) (st / 7 % 2) (st % 7)) (hw : w < 6) (hu : gNx g po wo st w = some u) : wO (mf_says m (nI w)) (fun t => msF gKr m t ∧ t.2.1 48 = gRw (m.2.1 48) (u / 14) (u / 7 % 2) (u % 7)) := by
  obtain ⟨l, r, rfl, h1, h2, h3, h4⟩ := gNx_w hu hw
  rw [h2, h3, h4]
  exact m_says h.mc h1
theorem m_passes_u {g : gT} {lv : Nat} {m : ms_S} {po : Option (Nat × Nat)} {wo st u : Nat} (h : MW g lv m po wo (st / 14) (st / 7 % 2) (st % 7)) (hu : gNx g po wo st 6 = some u) : wO (mf_passes m) (fun t => msF gKr m t ∧ t.2.1 48 = gRw (m.2.1 48) (u / 14) (u / 7 % 2) (u % 7)) := by
  obtain ⟨l, r, rfl, h2, h3, h4⟩ := gNx_6 hu
  rw [h2, h3, h4]
  exact m_passes h.mc
theorem GS.tn {g : gT} {po : Option (Nat × Nat)} {st u : Nat} {c hr row c2 hr2 row2 : Nat → Int32} (h : GS g po st c hr row) (hu : gSt g.1.2 u) (h0 : c2 0 = nI (gph u)) (hc : ∀ k, 1 ≤ k → k < 5 → c2 k = c k) (hh : ∀ k, k < 5 → hr2 k = hr k) (hr3 : ∀ k, k < 12 → row2 k = gRw row (u / 14) (u / 7 % 2) (u % 7) k) : GS g po u c2 hr2 row2 := by
  obtain ⟨a1, a2, a3, a4, a5, a6, a7, a8, a9, a10⟩ := h
  have r3 : ∀ k, 3 ≤ k → k < 12 → row2 k = row k := fun k k1 k2 => (hr3 k k2).trans (gRw_ge k k1)
  refine ⟨hu, h0, ?_, hr3 0 (by omega), hr3 1 (by omega), hr3 2 (by omega), ?_, ?_, ?_, fun j hj => ?_⟩
  · rw [hc 1 (by omega) (by omega), hc 2 (by omega) (by omega)]; exact a3
  · rw [r3 3 (by omega) (by omega), r3 4 (by omega) (by omega)]; exact a7
  · rw [hc 3 (by omega) (by omega), r3 5 (by omega) (by omega)]; exact a8
  · rw [hc 4 (by omega) (by omega), r3 6 (by omega) (by omega)]; exact a9
  · rw [hh j hj, r3 (7 + j) (by omega) (by omega)]; exact a10 j hj
/-- kept, then the standing is another -/
theorem x_keep_u {g : gT} {po : Option (Nat × Nat)} {st u : Nat} {s : xs_S} {m : ms_S} (hx : XC g po st s) (hP : RP g s m) (hG : RG g po st s m) (hu : gSt g.1.2 u) : ∃ s1, xf_5_keep_25 s = some s1 ∧ (∀ j, ¬ (433 ≤ j ∧ j < 1760) → s1.1 j = s.1 j) ∧ (∀ j, ¬ (30 ≤ j ∧ j < 111) → s1.2.1 j = s.2.1 j) ∧ s1.2.2 = s.2.2 ∧ XC g po u (xs_sI s1 400 (nI (gph u))) ∧ ∀ m1 : ms_S, m1.1 54 = m.1 54 → m1.2.1 55 = m.2.1 55 → m1.2.1 47 = m.2.1 47 → (∀ k, k < 12 → m1.2.1 48 k = gRw (m.2.1 47) (u / 14) (u / 7 % 2) (u % 7) k) → wO (mf_records m1) (fun n1 => msF [47, 54, 55] m1 n1 ∧ n1.2.1 47 0 = nI (u / 14) ∧ RG g po u (xs_sI s1 400 (nI (gph u))) n1 ∧ RP g (xs_sI s1 400 (nI (gph u))) n1) := by
  obtain ⟨s1, e1, i1, a1, l1, k1⟩ := x_keep hP hG
  have hi : ∀ j, ¬ j = 400 → (xs_sI s1 400 (nI (gph u))).1 j = s1.1 j := fun j hj => mm_up_ne hj
  refine ⟨s1, e1, i1, a1, l1, ?_, fun m1 d1 d2 d3 d4 => ?_⟩
  · have nI2 : ∀ j, j ∈ [147, 148, 193, 1873, 1874, 2018, 2022, 2023, 2024, 1875] → ¬ j = 400 ∧ ¬ (433 ≤ j ∧ j < 1760) := by decide
    have nA2 : ∀ j, j ∈ [10, 11, 13, 14, 118, 119, 127, 128, 129, 130] → ¬ (30 ≤ j ∧ j < 111) := by decide
    obtain ⟨y1, y2⟩ := XC.pt (t := xs_sI s1 400 (nI (gph u))) hx (fun j hj => (hi j (nI2 j hj).1).trans (i1 j (nI2 j hj).2)) (fun j hj => a1 j (nA2 j hj))
    exact ⟨y1, y2, rfl, hu⟩
  · refine wO_mono (k1 m1 d1 d2 d3) ?_
    rintro n1 ⟨f, d5, d6⟩
    refine ⟨f, (d5 0 (by omega)).trans (d4 0 (by omega)), ?_, d6.mv (fun j h1 h2 => hi j (by omega)) (fun j _ _ => rfl) rfl rfl⟩
    refine GS.tn hG hu rfl (fun k h1 h2 => ?_) (fun k _ => ?_) (fun k hk => (d5 k hk).trans (d4 k hk))
    · exact (hi (400 + k) (by omega)).trans (i1 (400 + k) (by omega))
    · show s1.2.1 26 k = s.2.1 26 k
      rw [a1 26 (by omega)]
theorem RR_do {n : Nat} {g : gT} {lv : Nat} {po : Option (Nat × Nat)} {st u ti : Nat} {s s1 : xs_S} {m n1 : ms_S} (h2 : XK g po ti (64 * n + 8) s) (h3 : RS g lv po st ti s m) (i1 : ∀ j, ¬ (433 ≤ j ∧ j < 1760) → ¬ j ∈ xQi → s1.1 j = s.1 j) (a1 : ∀ j, ¬ (30 ≤ j ∧ j < 111) → ¬ j ∈ xQa → s1.2.1 j = s.2.1 j) (hx : XC g po u (xs_sI s1 400 (nI (gph u)))) (hm : msF mdA m n1) (hG : RG g po u (xs_sI s1 400 (nI (gph u))) n1) (hP : RP g (xs_sI s1 400 (nI (gph u))) n1) : RR (n + 1) (xs_sI s1 400 (nI (gph u))) n1 := by
  have hi : ∀ j, ¬ j = 400 → ¬ (433 ≤ j ∧ j < 1760) → ¬ j ∈ xQi → (xs_sI s1 400 (nI (gph u))).1 j = s.1 j := fun j hj hj2 hj3 => (mm_up_ne hj).trans (i1 j hj2 hj3)
  refine ⟨g, lv, po, u, ti, hx, (h2.fr (hi 151 (by omega) (by omega) (by decide)) (hi 401 (by omega) (by omega) (by decide)) (hi 402 (by omega) (by omega) (by decide)) (a1 138 (by omega) (by decide)) (hi 1875 (by omega) (by omega) (by decide))).up (by omega), ?_⟩
  have nI3 : ∀ j, j ∈ [4, 17, 152, 1924] → ¬ j = 400 ∧ ¬ (433 ≤ j ∧ j < 1760) ∧ ¬ j ∈ xQi := by decide
  have nA3 : ∀ j, j ∈ [2, 121, 122, 123] → ¬ (30 ≤ j ∧ j < 111) ∧ ¬ j ∈ xQa := by decide
  refine h3.dn (fun j hj => hi j (nI3 j hj).1 (nI3 j hj).2.1 (nI3 j hj).2.2) (fun j h4 h5 => hi j (by omega) (by omega) (fun hq => by have := xQi_hi j hq; omega)) (fun j hj => a1 j (nA3 j hj).1 (nA3 j hj).2) (fun j h4 h5 => a1 j (by omega) (fun hq => by have := xQa_out j hq; omega)) hm hG hP
theorem x_turn_yes {g : gT} {po : Option (Nat × Nat)} {st w u : Nat} {s : xs_S} {m : ms_S} (hx : XC g po st s) (hP : RP g s m) (hG : RG g po st s m) (hw : w < 7) (hu : gNx g po 0 st w = some u) : ∃ s1, xf_11_takeTurn s (nI w) = some (nI (u / 14), xs_sI s1 400 (nI (gph u))) ∧ (∀ j, ¬ (433 ≤ j ∧ j < 1760) → ¬ j ∈ xQi → s1.1 j = s.1 j) ∧ (∀ j, ¬ (30 ≤ j ∧ j < 111) → ¬ j ∈ xQa → s1.2.1 j = s.2.1 j) ∧ XC g po u (xs_sI s1 400 (nI (gph u))) ∧ ∀ m1 : ms_S, m1.1 54 = m.1 54 → m1.2.1 55 = m.2.1 55 → m1.2.1 47 = m.2.1 47 → (∀ k, k < 12 → m1.2.1 48 k = gRw (m.2.1 47) (u / 14) (u / 7 % 2) (u % 7) k) → wO (mf_records m1) (fun n1 => msF [47, 54, 55] m1 n1 ∧ n1.2.1 47 0 = nI (u / 14) ∧ RG g po u (xs_sI s1 400 (nI (gph u))) n1 ∧ RP g (xs_sI s1 400 (nI (gph u))) n1) := by
  have hn := hx.1.1.2.1
  have hs := hx.2.2.2
  have hu2 : gSt g.1.2 u := gNx_ok hn hs.1 hu
  obtain ⟨t, et, f1, c1, o1⟩ := x_opens hx hs
  have hP1 : RP g t m := hP.mv (fun j h1 h2 => f1.1 j (fun hq => by have := xQi_hi j hq; omega)) (fun j h1 h2 => f1.2.1 j (fun hq => by have := xQa_out j hq; omega)) rfl rfl
  have hG1 : RG g po st t m := hG.mv (fun k hk => f1.1 _ (fun hq => by have := xQi_hi _ hq; omega)) (f1.2.1 26 (by decide)) rfl
  obtain ⟨s1, e1, i1, a1, l1, x1, k1⟩ := x_keep_u c1 hP1 hG1 hu2
  refine ⟨s1, wO_iff.mp ?_, fun j h1 h2 => (i1 j h1).trans (f1.1 j h2), fun j h1 h2 => (a1 j h1).trans (f1.2.1 j h2), x1, k1⟩
  unfold xf_11_takeTurn
  rw [hx.2.2.1]
  refine wO_eq et ?_
  rw [c1.2.2.1]
  refine wO_eq (x_after (wo := 0) hn hs o1 hw (by omega)) ?_
  rw [hu]
  refine wO_neg (show ¬ nI (gph u) = (-1 : Int32) from pu_n1 (by have := gph_lt hu2.1; omega)) ?_
  refine wO_eq e1 ?_
  exact wO_eq (x_slope hu2.1) (wO_some rfl)
theorem x_turn_no {g : gT} {po : Option (Nat × Nat)} {st w : Nat} {s : xs_S} (hx : XC g po st s) (hw : w < 7) (hu : gNx g po 0 st w = none) : ∃ s2, xf_11_takeTurn s (nI w) = some (-1, s2) ∧ xsF xQi xQa s s2 ∧ XC g po st s2 := by
  have hn := hx.1.1.2.1
  have hs := hx.2.2.2
  obtain ⟨t, et, f1, c1, o1⟩ := x_opens hx hs
  refine ⟨t, wO_iff.mp ?_, f1, c1⟩
  unfold xf_11_takeTurn
  rw [hx.2.2.1]
  refine wO_eq et ?_
  rw [c1.2.2.1]
  refine wO_eq (x_after (wo := 0) hn hs o1 hw (by omega)) ?_
  rw [hu]
  exact wO_pos rfl (wO_some rfl)
/-- the reference: what is recorded behind a turn -/
theorem m_rec_u {g : gT} {po : Option (Nat × Nat)} {u : Nat} {s1 : xs_S} {m m1 m2 : ms_S} (hm1 : msF mqA m m1) (r1 : ∀ j, j < 12 → m1.2.1 48 j = m.2.1 47 j) (hm2 : msF gKr m1 m2) (r2 : m2.2.1 48 = gRw (m1.2.1 48) (u / 14) (u / 7 % 2) (u % 7)) (k1 : ∀ m1 : ms_S, m1.1 54 = m.1 54 → m1.2.1 55 = m.2.1 55 → m1.2.1 47 = m.2.1 47 → (∀ k, k < 12 → m1.2.1 48 k = gRw (m.2.1 47) (u / 14) (u / 7 % 2) (u % 7) k) → wO (mf_records m1) (fun n1 => msF [47, 54, 55] m1 n1 ∧ n1.2.1 47 0 = nI (u / 14) ∧ RG g po u s1 n1 ∧ RP g s1 n1)) : wO (mf_records m2) (fun n1 => msF mdA m n1 ∧ n1.2.1 47 0 = nI (u / 14) ∧ RG g po u s1 n1 ∧ RP g s1 n1) := by
  have ft : msF mqA m m2 := hm1.tr (hm2.wk (by decide))
  refine wO_mono (k1 m2 (ft.i 54 (by decide)) (ft.a 55 (by decide)) (ft.a 47 (by decide)) (fun k hk => ?_)) ?_
  · rw [r2]
    unfold gRw
    rw [r1 k hk]
  · rintro n1 ⟨f, d⟩
    exact ⟨(ft.wk (by decide)).tr (f.wk (by decide)), d⟩
theorem R_s6 : lw_s6 RR := fun n s m a h hn => by
  obtain ⟨g, lv, po, st, ti, h1, h2, h3⟩ := id h
  have hn6 := h1.1.1.2.1
  have h148 := h1.1.1.2.2.2.1
  obtain ⟨m1, em, fm, rm, lm, wm⟩ := m_copies h3.mn
  have fm2 : msF mqA m m1 := fm.wk (by decide)
  rcases pu_small a g.1.2 (by omega) with ⟨w, hw, rfl⟩ | ha
  · obtain ⟨⟨c, m2⟩, ec, vc, fc⟩ := m_canSay wm hw
    have vc : c = (bif gCan g po 0 (st / 14) (st / 7 % 2) (st % 7) w then 1 else 0) := vc
    have fc : msF gKs m1 m2 := fc
    have hcan := gNx_can (po := po) (wo := 0) (st := st) hn6 hw
    have xhead : ∀ (v : Int32) (s2 : xs_S), xf_11_takeTurn s (nI w) = some (v, s2) → xf_11_say s (nI w) = some (v, s2) := fun v s2 hP => wO_iff.mp (by
      unfold xf_11_say
      refine wO_eq (x_hasWord h148 hn6 (by omega)) ?_
      rw [decide_eq_true hw]
      exact wO_neg pu_10 (wO_eq hP (wO_some rfl)))
    cases hu : gNx g po 0 st w with
    | none =>
      obtain ⟨s2, e2, f2, x2⟩ := x_turn_no h1 (by omega) hu
      have hc0 : gCan g po 0 (st / 14) (st / 7 % 2) (st % 7) w = false := by rw [← hcan, hu]; rfl
      rw [hc0] at vc
      refine ⟨-1, s2, m2, xhead _ _ e2, wO_iff.mp ?_, RR_st h2 h3 x2 f2 (fm2.tr (fc.wk (by decide)))⟩
      unfold mf_say
      refine wO_eq em (wO_eq (m_isWord_yes wm.1 hw) (wO_neg pu_10 (wO_eq ec (wO_pos ?_ (wO_some rfl)))))
      exact vc
    | some u =>
      obtain ⟨s1, e1, i1, a1, x1, k1⟩ := x_turn_yes h1 h3.2.2.2.2.2.1 h3.2.2.2.2.1 (by omega) hu
      have hc0 : gCan g po 0 (st / 14) (st / 7 % 2) (st % 7) w = true := by rw [← hcan, hu]; rfl
      rw [hc0] at vc
      obtain ⟨m3, e3, f3, r3⟩ := m_says_u (wm.mv fc) (by omega) hu
      obtain ⟨n1, e4, f4, v4, g4, p4⟩ := m_rec_u (fm2.tr (fc.wk (by decide))) (fun j hj => by rw [fc.a 48 (by decide)]; exact rm j hj) f3 r3 k1
      refine ⟨nI (u / 14), xs_sI s1 400 (nI (gph u)), n1, xhead _ _ e1, wO_iff.mp ?_, RR_do h2 h3 i1 a1 x1 f4 g4 p4⟩
      unfold mf_say
      refine wO_eq em (wO_eq (m_isWord_yes wm.1 hw) (wO_neg pu_10 (wO_eq ec (wO_neg ?_ (wO_eq e3 (wO_eq e4 (wO_some ?_)))))))
      · show ¬ c = 0
        rw [vc]
        exact pu_10
      · rw [v4]
  · refine ⟨-1, s, m1, wO_iff.mp ?_, wO_iff.mp ?_, RR_st h2 h3 h1 xsF.rf fm2⟩
    · unfold xf_11_say
      exact wO_eq (x_hasWord_no h148 ha) (wO_pos rfl (wO_some rfl))
    · unfold mf_say
      exact wO_eq em (wO_eq (m_isWord_no wm.1 ha) (wO_pos rfl (wO_some rfl)))
theorem m_canPass {g : gT} {lv : Nat} {m : ms_S} {po : Option (Nat × Nat)} {st : Nat} (hst : st < 294) (h : MW g lv m po 0 (st / 14) (st / 7 % 2) (st % 7)) : wO (mf_canPass m) (fun q => q.1 = (bif (gNx g po 0 st 6).isSome then 1 else 0) ∧ msF gKs m q.2) := by
  have hns := h.1.2.2.1
  have hnw := h.1.2.2.2.1
  unfold mf_canPass
  refine wO_eq (m_areThere h.2.1 hns) ?_
  cases po with
  | none => exact wO_pos rfl (wO_some ⟨rfl, msF.rf⟩)
  | some p =>
    obtain ⟨l, r⟩ := p
    refine wO_neg pu_10 (wO_eq (m_isAsleep h.2.2.2.2.1 h.2.2.2.2.2.2.2.1) ?_)
    cases hc : (decide (0 < st / 14) && decide (st / 14 < 20)) with
    | false =>
      refine wO_pos rfl (wO_some ⟨?_, msF.rf⟩)
      have : gNx g (some (l, r)) 0 st 6 = none := by
        unfold gNx
        simp only
        rw [if_neg (by omega), if_pos trivial, ← Bool.and_assoc, hc]
        rfl
      rw [this]
      rfl
    | true =>
      refine wO_neg pu_10 (wO_bd (m_canBits h) ?_)
      rintro ⟨v, m2⟩ ⟨e1, f1⟩
      have e1 : v = nI (gBs (gCan g (some (l, r)) 0 (st / 14) (st / 7 % 2) (st % 7)) g.1.2) := e1
      have f1 : msF gKs m m2 := f1
      subst e1
      have hB : gBs (gCan g (some (l, r)) 0 (st / 14) (st / 7 % 2) (st % 7)) g.1.2 < 64 := gBs_lt64 hnw
      have hx : (gNx g (some (l, r)) 0 st 6).isSome = decide (gBs (gCan g (some (l, r)) 0 (st / 14) (st / 7 % 2) (st % 7)) g.1.2 = 0) := by
        unfold gNx
        simp only
        rw [if_neg (by omega), if_pos trivial, ← Bool.and_assoc, hc, Bool.true_and]
        cases decide (gBs (gCan g (some (l, r)) 0 (st / 14) (st / 7 % 2) (st % 7)) g.1.2 = 0) <;> rfl
      rw [hx]
      by_cases hz : gBs (gCan g (some (l, r)) 0 (st / 14) (st / 7 % 2) (st % 7)) g.1.2 = 0
      · rw [hz]
        exact wO_pos rfl (wO_some ⟨rfl, f1⟩)
      · rw [decide_eq_false hz]
        exact wO_neg (fun e => hz ((nI_eq (b := 0) (by omega) (by omega)).mp e)) (wO_some ⟨rfl, f1⟩)
theorem R_s7 : lw_s7 RR := fun n s m h hn => by
  obtain ⟨g, lv, po, st, ti, h1, h2, h3⟩ := id h
  have hn6 := h1.1.1.2.1
  obtain ⟨m1, em, fm, rm, lm, wm⟩ := m_copies h3.mn
  have fm2 : msF mqA m m1 := fm.wk (by decide)
  obtain ⟨⟨c, m2⟩, ec, vc, fc⟩ := m_canPass h1.2.2.2.1 wm
  have vc : c = (bif (gNx g po 0 st 6).isSome then 1 else 0) := vc
  have fc : msF gKs m1 m2 := fc
  cases hu : gNx g po 0 st 6 with
  | none =>
    obtain ⟨s2, e2, f2, x2⟩ := x_turn_no (w := 6) h1 (by omega) hu
    rw [hu] at vc
    refine ⟨-1, s2, m2, wO_iff.mp ?_, wO_iff.mp ?_, RR_st h2 h3 x2 f2 (fm2.tr (fc.wk (by decide)))⟩
    · unfold xf_11_pass
      exact wO_eq e2 (wO_some rfl)
    · unfold mf_pass
      exact wO_eq em (wO_eq ec (wO_pos vc (wO_some rfl)))
  | some u =>
    obtain ⟨s1, e1, i1, a1, x1, k1⟩ := x_turn_yes (w := 6) h1 h3.2.2.2.2.2.1 h3.2.2.2.2.1 (by omega) hu
    rw [hu] at vc
    obtain ⟨m3, e3, f3, r3⟩ := m_passes_u (wm.mv fc) hu
    obtain ⟨n1, e4, f4, v4, g4, p4⟩ := m_rec_u (fm2.tr (fc.wk (by decide))) (fun j hj => by rw [fc.a 48 (by decide)]; exact rm j hj) f3 r3 k1
    refine ⟨nI (u / 14), xs_sI s1 400 (nI (gph u)), n1, wO_iff.mp ?_, wO_iff.mp ?_, RR_do h2 h3 i1 a1 x1 f4 g4 p4⟩
    · unfold xf_11_pass
      exact wO_eq e1 (wO_some rfl)
    · unfold mf_pass
      refine wO_eq em (wO_eq ec (wO_neg ?_ (wO_eq e3 (wO_eq e4 (wO_some ?_)))))
      · show ¬ c = 0
        rw [vc]
        exact pu_10
      · rw [v4]
theorem x_even_st {s : xs_S} {ti : Nat} (h : s.1 151 = nI ti) : xf_7_evenStanding_9 s = some (nI (gph (14 * ti + 6)), s) := by
  unfold xf_7_evenStanding_9
  rw [h, show xf_11_standingOf (nI ti) (0 : Int32) (-1) = some (nI (14 * ti + 7 * 0)) from x_standingN ti 0, show gph (14 * ti + 6) = 14 * ti + 7 * 0 from gph_6 (a := ti) (b := 0)]
  rfl
theorem m_setsRow {s : ms_S} {lv ti : Nat} (hlv : lv ≤ 1) (h18 : s.1 18 = nI lv) (h29 : s.2.1 29 lv = nI ti) : wO (mf_setsRow s) (fun t => msF [48] s t ∧ t.2.1 48 = gRw (s.2.1 48) ti 0 6) := by
  unfold mf_setsRow
  refine wO_agv (k := lv) h18 (by omega) (by omega) h29 ?_
  refine wO_some ⟨msF.sA (by decide), ?_⟩
  funext j
  show upd (upd (upd (s.2.1 48) 0 (nI ti)) 1 0) 2 6 j = _
  unfold upd gRw
  by_cases h0 : j = 0
  · subst h0; rfl
  · by_cases h1 : j = 1
    · subst h1; rfl
    · by_cases h2 : j = 2
      · subst h2; rfl
      · rw [if_neg h0, if_neg h1, if_neg h2, if_neg h2, if_neg h1, if_neg h0]
theorem R_s9 : lw_s9 RR := fun n s m h hn => by
  obtain ⟨g, lv, po, st, ti, h1, h2, h3⟩ := id h
  have hs := h1.2.2.2
  have hti := h2.2.1
  obtain ⟨g1, g2, g3, g4, g5, g6, g7, -⟩ := id h3.2.2.2.2.1
  have hlv := h3.1.1
  have e29 := h3.2.1
  have hu : gSt g.1.2 (14 * ti + 6) := ⟨by omega, Or.inr (by omega)⟩
  have hst := hs.1
  have mhead : ∀ P, (st = 14 * ti + 6 → wO (some ((0 : Int32), m)) P) → (¬ st = 14 * ti + 6 → wO (mf_set_j23 m) P) → wO (mf_set m) P := fun P hy hno => by
    unfold mf_set
    refine wO_agv (k := lv) h3.1.2.1 (by omega) (by omega) e29 ?_
    refine wO_ite (fun c0 => ?_) (fun c0 => hno (fun e => c0 ?_))
    · have c0 : st / 14 = ti := (nI_eq (by omega) (by omega)).mp (g4.symm.trans c0)
      refine wO_ite (fun c1 => ?_) (fun c1 => hno (fun e => c1 ?_))
      · have c1 : st / 7 % 2 = 0 := (nI_eq (b := 0) (by omega) (by omega)).mp (g5.symm.trans c1)
        refine wO_ite (fun c2 => ?_) (fun c2 => hno (fun e => c2 ?_))
        · have c2 : st % 7 = 6 := (nI_eq (b := 6) (by omega) (by omega)).mp (g6.symm.trans c2)
          exact hy (by omega)
        · rw [g6, show st % 7 = 6 by omega]; rfl
      · rw [g5, show st / 7 % 2 = 0 by omega]; rfl
    · rw [g4, show st / 14 = ti by omega]
  by_cases he : st = 14 * ti + 6
  · refine ⟨0, s, m, wO_iff.mp ?_, wO_iff.mp (mhead _ (fun _ => wO_some rfl) (fun hne => absurd he hne)), R_up h⟩
    unfold xf_11_set
    exact wO_eq (x_even_st h2.1) (wO_pos (by rw [h1.2.2.1, he]) (wO_some rfl))
  · obtain ⟨s1, e1, i1, a1, l1, x1, k1⟩ := x_keep_u h1 h3.2.2.2.2.2.1 h3.2.2.2.2.1 hu
    obtain ⟨m1, em, fm, rm, lm, wm⟩ := m_copies h3.mn
    have fm2 : msF mqA m m1 := fm.wk (by decide)
    obtain ⟨m3, e3, f3, r3⟩ := m_setsRow (s := m1) (lv := lv) (ti := ti) hlv wm.1.2.1 (by rw [fm.a 29 (by decide)]; exact e29)
    have q1 : (14 * ti + 6) / 14 = ti := by omega
    have q2 : (14 * ti + 6) / 7 % 2 = 0 := by omega
    have q3 : (14 * ti + 6) % 7 = 6 := by omega
    obtain ⟨n1, e4, f4, v4, g4, p4⟩ := m_rec_u (u := 14 * ti + 6) fm2 rm (f3.wk (by decide)) (by rw [q1, q2, q3]; exact r3) k1
    refine ⟨1, xs_sI s1 400 (nI (gph (14 * ti + 6))), n1, wO_iff.mp ?_, wO_iff.mp (mhead _ (fun he2 => absurd he2 he) (fun _ => ?_)), RR_do h2 h3 (fun j hj _ => i1 j hj) (fun j hj _ => a1 j hj) x1 f4 g4 p4⟩
    · unfold xf_11_set
      refine wO_eq (x_even_st h2.1) (wO_neg (fun e => he ?_) ?_)
      · rw [h1.2.2.1] at e
        have l1 := gph_lt hst
        have l2 := gph_lt hu.1
        exact gph_inj ((nI_eq (by omega) (by omega)).mp e)
      · refine wO_eq e1 (wO_eq (x_even_st (by rw [i1 151 (by omega)]; exact h2.1)) (wO_some rfl))
    · unfold mf_set_j23
      exact wO_eq em (wO_eq e3 (wO_eq e4 (wO_some rfl)))
