/-! reading: a new name, a speaker's name -/
theorem gNm.mem {ns nw : Nat} {s : xs_S} {m : ms_S} {x : Int64} (h : gNm ns nw s m) : (∃ i, i < ns + nw ∧ m.2.2 21 i = x) ↔ ((∃ a, a < ns ∧ s.2.2.1 7 a = x) ∨ ∃ b, b < nw ∧ s.2.2.1 8 b = x) := by
  obtain ⟨h1, h2, h3, h4, h5, A, a1, a2, a3, a4⟩ := h
  constructor
  · rintro ⟨i, hi, e⟩
    rcases (a1 i hi).2 with ⟨q1, q2⟩ | ⟨q1, b, q2, q3⟩
    · exact Or.inl ⟨A i, q1, q2.symm.trans e⟩
    · exact Or.inr ⟨b, q2, q3.symm.trans e⟩
  · rintro (⟨a, ha, e⟩ | ⟨b, hb, e⟩)
    · obtain ⟨i, i1, i2⟩ := a2 a ha
      rcases (a1 i i1).2 with ⟨q1, q2⟩ | ⟨q1, -⟩
      · exact ⟨i, i1, by rw [q2, i2, e]⟩
      · omega
    · obtain ⟨i, i1, i2⟩ := a3 b hb
      exact ⟨i, i1, i2.trans e⟩
theorem gNm.mv {ns nw : Nat} {s t : xs_S} {m n : ms_S} (h : gNm ns nw s m) (h1 : t.1 275 = s.1 275) (h2 : t.1 276 = s.1 276) (h3 : t.2.2.1 = s.2.2.1) (h4 : n.1 20 = m.1 20) (h5 : n.2.1 22 = m.2.1 22) (h6 : n.2.2 = m.2.2) : gNm ns nw t n := by
  unfold gNm
  rw [h1, h2, h3, h4, h5, h6]
  exact h
theorem m_idem {P : Nat → Nat} {t f : Nat} {s : xs_S} {m m2 : ms_S} (ht : t ≤ 400) (h13 : m.1 13 = 0) (h6 : m.2.1 6 t = nI (P t)) (hp : P t ≤ 2000) (hf : 3 ≤ f) (hf2 : f ≤ 5) (hN : gNo P t s m) (h : mf_wrong m (nI f) (nI t) = some m2) : mf_wrong m2 (nI f) (nI t) = some m2 := by
  have n5 : ∀ f, f < 6 → 3 ≤ f → ¬ nI f = (0 : Int32) := by decide
  rcases hN with ⟨a1, a2⟩ | ⟨f0, p, a1, a2, a3, a4, a5, a6, a7, a8⟩
  · have e : mf_wrong m (nI f) (nI t) = some (ms_sI (ms_sI m 15 (nI f)) 16 (nI (P t))) := by
      refine wO_iff.mp ?_
      unfold mf_wrong
      exact wO_agv (k := t) rfl (by omega) (by omega) h6 (wO_neg (by rw [h13]; decide) (wO_pos a2 (wO_some rfl)))
    rw [e] at h
    have h := Option.some.inj h
    rw [← h]
    refine wO_iff.mp ?_
    unfold mf_wrong
    refine wO_agv (k := t) (v := nI (P t)) rfl (by omega) (by omega) h6 (wO_neg ?_ (wO_neg (n5 f (by omega) hf) (wO_neg (nI_nlt (Nat.le_refl _) (by omega)) (wO_pos rfl (wO_neg (nI_nlt (Nat.le_refl _) (by omega)) (wO_some rfl))))))
    show ¬ (0 : Int32) < m.1 13
    rw [h13]
    decide
  · have e : mf_wrong m (nI f) (nI t) = some m := by
      refine wO_iff.mp ?_
      unfold mf_wrong
      exact wO_agv (k := t) rfl (by omega) (by omega) h6 (wO_neg (by rw [h13]; decide) (wO_neg (by rw [a4]; exact n5 f0 (by omega) a1) (wO_pos (by rw [a6]; exact nI_lt a7 (by omega)) (wO_some rfl))))
    rw [e] at h
    have h := Option.some.inj h
    rw [← h]
    exact e
/-- the reference's loop over the names -/
theorem m_namedl {nn t : Nat} {m m2 : ms_S} {x : Int64} (hn : nn ≤ 11) (h20 : m.1 20 = nI nn) (ht : t ≤ 400) (h13 : m.1 13 = 0) (hx : m.2.2 8 t = x) (hw : mf_wrong m (nI 3) (nI t) = some m2) (hi : mf_wrong m2 (nI 3) (nI t) = some m2) (hF : msF [15, 16] m m2) : mo_loop (mf_named_l8 (nI t)) (nI 0, m) = some m ∧ (∀ i, i < nn → ¬ m.2.2 21 i = x) ∨ mo_loop (mf_named_l8 (nI t)) (nI 0, m) = some m2 ∧ ∃ i, i < nn ∧ m.2.2 21 i = x := by
  have g20 : m2.1 20 = nI nn := (hF.i 20 (by decide)).trans h20
  have g13 : m2.1 13 = 0 := (hF.i 13 (by decide)).trans h13
  have gl : m2.2.2 = m.2.2 := hF.2
  have B : ∀ n w, n + w = nn → mo_loop (mf_named_l8 (nI t)) (nI w, m2) = some m2 := by
    intro n
    induction n with
    | zero =>
      intro w hw0
      refine mo_loop_inr (wO_iff.mp ?_)
      unfold mf_named_l8
      exact wO_pos (by rw [g20]; exact nI_le (by omega) (by omega)) (wO_some rfl)
    | succ n ih =>
      intro w hw0
      have st : mf_named_l8 (nI t) (nI w, m2) = some (.inl (nI (w + 1), m2)) := by
        have j : mf_named_j29 m2 (nI t) (nI w) = some (.inl (nI (w + 1), m2)) := by
          unfold mf_named_j29
          rw [nI_1]
        refine wO_iff.mp ?_
        unfold mf_named_l8
        refine wO_neg (by rw [g20]; exact nI_ge (by omega) (by omega)) (wO_pos g13 (wO_al (k := w) rfl (by omega) (by omega) (wO_al (k := t) rfl (by omega) (by omega) ?_)))
        by_cases c : m2.2.2 21 w = m2.2.2 8 t
        · exact wO_pos (lg0.mpr c) (wO_eq hi (wO_iff.mpr j))
        · exact wO_neg (fun e => c (lg0.mp e)) (wO_iff.mpr j)
      rw [mo_loop_inl st]
      exact ih (w + 1) (by omega)
  have key : ∀ n w, n + w = nn → (∀ i, i < w → ¬ m.2.2 21 i = x) → mo_loop (mf_named_l8 (nI t)) (nI w, m) = some m ∧ (∀ i, i < nn → ¬ m.2.2 21 i = x) ∨ mo_loop (mf_named_l8 (nI t)) (nI w, m) = some m2 ∧ ∃ i, i < nn ∧ m.2.2 21 i = x := by
    intro n
    induction n with
    | zero =>
      intro w hw0 hb
      have hw0 : w = nn := by omega
      subst hw0
      refine Or.inl ⟨mo_loop_inr (wO_iff.mp ?_), hb⟩
      unfold mf_named_l8
      exact wO_pos (by rw [h20]; exact nI_le (Nat.le_refl _) (by omega)) (wO_some rfl)
    | succ n ih =>
      intro w hw0 hb
      by_cases c : m.2.2 21 w = x
      · have st : mf_named_l8 (nI t) (nI w, m) = some (.inl (nI (w + 1), m2)) := by
          refine wO_iff.mp ?_
          unfold mf_named_l8
          refine wO_neg (by rw [h20]; exact nI_ge (by omega) (by omega)) (wO_pos h13 (wO_al (k := w) rfl (by omega) (by omega) (wO_al (k := t) rfl (by omega) (by omega) (wO_pos (lg0.mpr (c.trans hx.symm)) (wO_eq hw ?_)))))
          unfold mf_named_j29
          rw [nI_1]
          exact wO_some rfl
        rw [mo_loop_inl st]
        exact Or.inr ⟨B n (w + 1) (by omega), w, by omega, c⟩
      · have st : mf_named_l8 (nI t) (nI w, m) = some (.inl (nI (w + 1), m)) := by
          refine wO_iff.mp ?_
          unfold mf_named_l8
          refine wO_neg (by rw [h20]; exact nI_ge (by omega) (by omega)) (wO_pos h13 (wO_al (k := w) rfl (by omega) (by omega) (wO_al (k := t) rfl (by omega) (by omega) (wO_neg (fun e => c ((lg0.mp e).trans hx)) ?_))))
          unfold mf_named_j29
          rw [nI_1]
          exact wO_some rfl
        rw [mo_loop_inl st]
        exact ih (w + 1) (by omega) (fun a ha => by
          by_cases e : a = w
          · rw [e]; exact c
          · exact hb a (by omega))
  exact key nn 0 (by omega) (fun i hi => by omega)
theorem m_namedl_bad {nn f p : Nat} {v : Int32} {m : ms_S} (h : gFm2 f p m) (h20 : m.1 20 = nI nn) : mo_loop (mf_named_l8 v) (nI 0, m) = some m := by
  refine mo_loop_inr (wO_iff.mp ?_)
  unfold mf_named_l8
  by_cases c : m.1 20 ≤ nI 0
  · exact wO_pos c (wO_some rfl)
  · exact wO_neg c (wO_neg (by rw [h.2.2.1]; exact nI_ne0 h.1 (by have := h.2.1; omega)) (wO_some rfl))
theorem e_name {K P V : Nat → Nat} {W : Nat → Int64} {N t ns nw : Nat} {s : xs_S} {m : ms_S} (hT : gTok K P V W N s m) (hH : gHl N t s m) (hN : gNo P t s m) (hM : gNm ns nw s m) : ∃ s2 m2 r, xf_6_takeNewName s = some (r, s2) ∧ mf_named m = some (nI t, m2) ∧ xsF [100, 101, 103, 104] [] s s2 ∧ msF [11, 13, 14, 15, 16] m m2 ∧ ((K t = 21 ∧ r = W t ∧ m2.2.2 8 t = W t ∧ gHl N (t + 1) s2 m2 ∧ gNo P (t + 1) s2 m2) ∨ ∃ f, gFx P N f (P t) s2 ∧ gFm2 f (P t) m2) := by
  have hN4 := hT.1
  have ht := hH.1
  have h11 := hH.2.2.2.1
  have hval := x_val hT hH
  have hpl := x_place hT hH
  obtain ⟨M1, M2, M3, M4, M5, -⟩ := id hM
  obtain ⟨s1, m1, e1, f1, fm1, o1⟩ := b_take (k := 21) hT hH (by omega)
  have hM1 : gNm ns nw s1 m1 := hM.mv (f1.1 275 (by decide)) (f1.1 276 (by decide)) f1.2.2.1 (fm1.i 20 (by decide)) (fm1.a 22 (by decide)) fm1.2
  rcases o1 with ⟨o1, o2, o3, o4⟩ | ⟨o3, -, f, o5, o6⟩
  rotate_left
  · refine ⟨s1, m1, s.2.2.1 5 t, wO_iff.mp ?_, wO_iff.mp ?_, f1.wk (by decide) (by decide), fm1.wk (by decide), Or.inr ⟨f, o5, o6⟩⟩
    · unfold xf_6_takeNewName
      exact wO_eq hval (wO_eq hpl (wO_eq o3 (wO_pos rfl (wO_some rfl))))
    · unfold mf_named
      rw [h11]
      exact wO_eq e1 (wO_eq (m_namedl_bad o6 hM1.2.2.2.2.1) (wO_some rfl))
  obtain ⟨-, -, -, hp, -, h6, -, hw⟩ := hT.2.2.2.2 t ht
  obtain ⟨w1, w2⟩ := hw o1
  have hT1 : gTok K P V W N s1 m1 := hT.mv (f1.1 21 (by decide)) (f1.2.1 3 (by decide)) (f1.2.1 4 (by decide)) (by rw [f1.2.2.1]) (fm1.a 5 (by decide)) (fm1.a 6 (by decide)) (fm1.a 7 (by decide)) (by rw [fm1.2])
  have hN1 : gNo P t s1 m1 := hN.mv (Nat.le_refl _) (f1.1 103 (by decide)) (f1.1 104 (by decide)) (fm1.i 15 (by decide)) (fm1.i 16 (by decide))
  have h13 : m1.1 13 = 0 := o4.2.2.2.2
  have hlt := hT.lt o4.1
  obtain ⟨s2, m2, b1, b2, b3, b4, b5, b6⟩ := b_note (f := 3) hT1 ht h13 hN1 (by omega) (by omega)
  have hid := m_idem (P := P) (f := 3) (by omega) h13 (by rw [fm1.a 6 (by decide)]; exact h6) hp (by omega) (by omega) hN1 b2
  have hx1 : m1.2.2 8 t = W t := by rw [fm1.2]; exact w2
  obtain ⟨r, q1, q2⟩ := x_told M1 M2 hM1.2.2.1 hM1.2.2.2.1 (W t)
  rcases m_namedl (x := W t) (by omega) hM1.2.2.2.2.1 (by omega) h13 hx1 b2 hid b4 with ⟨l1, l2⟩ | ⟨l1, l2⟩
  · -- new
    have r0 : r = 0 := by
      rcases q2 with ⟨-, q⟩ | ⟨q, -⟩
      · obtain ⟨i, i1, i2⟩ := hM1.mem.mpr q
        exact absurd i2 (l2 i i1)
      · exact q
    refine ⟨s1, m1, W t, wO_iff.mp ?_, wO_iff.mp ?_, f1.wk (by decide) (by decide), fm1.wk (by decide), Or.inl ⟨o1, rfl, hx1, o4, hN1.mv (by omega) rfl rfl rfl rfl⟩⟩
    · unfold xf_6_takeNewName
      refine wO_eq hval (wO_eq hpl (wO_eq o3 (wO_neg pu_10 ?_)))
      rw [w1]
      exact wO_eq q1 (wO_pos r0 (wO_some rfl))
    · unfold mf_named
      rw [h11]
      exact wO_eq e1 (wO_eq l1 (wO_some rfl))
  · -- told before
    have r1 : ¬ r = 0 := by
      rcases q2 with ⟨q, -⟩ | ⟨-, q3, q4⟩
      · rw [q]; decide
      · rcases hM1.mem.mp l2 with ⟨a, a1, a2⟩ | ⟨a, a1, a2⟩
        · exact absurd a2 (q3 a a1)
        · exact absurd a2 (q4 a a1)
    refine ⟨s2, m2, W t, wO_iff.mp ?_, wO_iff.mp ?_, (f1.wk (by decide) (by decide)).tr (b3.wk (by decide) (by decide)), (fm1.wk (by decide)).tr (b4.wk (by decide)), Or.inl ⟨o1, rfl, by rw [b4.2]; exact hx1, ⟨o4.1, (b3.1 100 (by decide)).trans o4.2.1, (b3.1 101 (by decide)).trans o4.2.2.1, (b4.i 11 (by decide)).trans o4.2.2.2.1, (b4.i 13 (by decide)).trans h13⟩, b5 (t + 1) hlt⟩⟩
    · unfold xf_6_takeNewName
      refine wO_eq hval (wO_eq hpl (wO_eq o3 (wO_neg pu_10 ?_)))
      rw [w1]
      exact wO_eq q1 (wO_neg r1 (wO_eq b1 (wO_some rfl)))
    · unfold mf_named
      rw [h11]
      exact wO_eq e1 (wO_eq l1 (wO_some rfl))
