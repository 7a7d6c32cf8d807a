/-! reading: a speaker's name in the pair -/
theorem gOi_m1 {ns : Nat} {o : Option Nat} (hn : ns ≤ 5) (h : ∀ a, o = some a → a < ns) : gOi o = (-1 : Int32) ↔ o = none := by
  cases o with
  | none => exact ⟨fun _ => rfl, fun _ => rfl⟩
  | some a =>
    have q : ∀ a, a < 5 → ¬ nI a = (-1 : Int32) := by decide
    have := h a rfl
    exact ⟨fun e => absurd e (q a (by omega)), fun e => by cases e⟩
theorem e_spk {K P V : Nat → Nat} {W : Nat → Int64} {N t ns nw : Nat} {s : xs_S} {m : ms_S} (a0 : Int32) (hT : gTok K P V W N s m) (hH : gHl N t s m) (hN : gNo P t s m) (hM : gNm ns nw s m) : ∃ s2 m1 m2 r q, xf_6_takeSpeaker s a0 = some (r, s2) ∧ mf_known m = some (q, m1) ∧ xsF [100, 101, 103, 104] [] s s2 ∧ msF [11, 13, 14, 15, 16] m m1 ∧ msF [15, 16] m1 m2 ∧ ((∃ o, r = gOi o ∧ q = gOi o ∧ (∀ a, o = some a → a < ns) ∧ (o = none → ¬ m2.1 15 = 0) ∧ (¬ o = none → gOi o = a0 → ¬ m2.1 15 = 0) ∧ (((o = none ∨ ¬ gOi o = a0) ∧ m2 = m1) ∨ ((¬ o = none ∧ gOi o = a0) ∧ mf_wrong m1 (nI 3) (nI t) = some m2)) ∧ gHl N (t + 1) s2 m2 ∧ gNo P (t + 1) s2 m2) ∨ ∃ f, gFx P N f (P t) s2 ∧ gFm2 f (P t) m1) := by
  have hN4 := hT.1
  have ht := hH.1
  have h11 := hH.2.2.2.1
  have hval := x_val hT hH
  have hpl := x_place hT hH
  obtain ⟨M1, M2, M3, M4, M5, -⟩ := id hM
  obtain ⟨o0, g0, x0⟩ := x_named M1 M3 (s.2.2.1 5 t)
  obtain ⟨s1, m1, e1, f1, fm1, o1⟩ := b_take (k := 21) hT hH (by omega)
  have hM1 : gNm ns nw s1 m1 := hM.mv (f1.1 275 (by decide)) (f1.1 276 (by decide)) f1.2.2.1 (fm1.i 20 (by decide)) (fm1.a 22 (by decide)) fm1.2
  rcases o1 with ⟨o1, o2, o3, o4⟩ | ⟨o3, -, f, o5, o6⟩
  rotate_left
  · refine ⟨s1, m1, m1, gOi o0, -1, wO_iff.mp ?_, wO_iff.mp ?_, f1.wk (by decide) (by decide), fm1.wk (by decide), msF.rf, Or.inr ⟨f, o5, o6⟩⟩
    · unfold xf_6_takeSpeaker
      exact wO_eq hval (wO_eq x0 (wO_eq hpl (wO_eq o3 (wO_pos rfl (wO_some rfl)))))
    · unfold mf_known
      exact wO_eq e1 (wO_neg (by rw [o6.2.2.1]; exact gF12 o6.1 o6.2.1) (wO_some rfl))
  obtain ⟨-, -, -, hp, -, h6, -, hw⟩ := hT.2.2.2.2 t ht
  obtain ⟨w1, w2⟩ := hw o1
  have hT1 : gTok K P V W N s1 m1 := hT.mv (f1.1 21 (by decide)) (f1.2.1 3 (by decide)) (f1.2.1 4 (by decide)) (by rw [f1.2.2.1]) (fm1.a 5 (by decide)) (fm1.a 6 (by decide)) (fm1.a 7 (by decide)) (by rw [fm1.2])
  have hN1 : gNo P t s1 m1 := hN.mv (Nat.le_refl _) (f1.1 103 (by decide)) (f1.1 104 (by decide)) (fm1.i 15 (by decide)) (fm1.i 16 (by decide))
  have h13 : m1.1 13 = 0 := o4.2.2.2.2
  have hlt := hT.lt o4.1
  have hx1 : m1.2.2 8 t = W t := by rw [fm1.2]; exact w2
  have h0 : m1.1 13 ≤ 0 := by rw [h13]; decide
  rw [w1] at x0
  obtain ⟨on, gn, xn⟩ := x_named M1 M3 (W t)
  have fx : gOi o0 = gOi on := by
    have := x0.symm.trans xn
    exact congrArg Prod.fst (Option.some.inj this)
  rcases m_knownl hM1 (by omega) hx1 with ⟨i, a, k1, k2, k3, k4⟩ | ⟨k1, k2⟩
  · -- known
    have ka : gIsn ns s (W t) (some a) := by
      have q : s1.2.2.1 7 = s.2.2.1 7 := by rw [f1.2.2.1]
      obtain ⟨z1, z2, z3⟩ := k1
      exact ⟨z1, by rw [← q]; exact z2, fun a2 h2 => by rw [← q]; exact z3 a2 h2⟩
    have hon : on = some a := by
      cases on with
      | none => exact absurd ka.2.1 (gn a ka.1)
      | some b =>
        rcases Nat.lt_trichotomy a b with c | c | c
        · exact absurd ka.2.1 (gn.2.2 a c)
        · rw [c]
        · exact absurd gn.2.1 (ka.2.2 b c)
    have x1 : xf_6_speakerNamed s (W t) = some (nI a, s) := by rw [xn, hon]; rfl
    have hlta : ∀ a2, some a = some a2 → a2 < ns := fun a2 e => by cases e; exact ka.1
    have qa : ∀ a, a < 5 → ¬ nI a = (-1 : Int32) := by decide
    have nm1 := qa a (by have := ka.1; omega)
    have Mk : mf_known m = some (nI a, m1) := by
      refine wO_iff.mp ?_
      unfold mf_known
      rw [h11]
      exact wO_eq e1 (wO_pos h0 (wO_eq k4 (wO_agv (k := i) rfl k2 (by omega) k3 (wO_some rfl))))
    by_cases ca : nI a = a0
    · obtain ⟨s2, m2, b1, b2, b3, b4, b5, b6⟩ := b_note (f := 3) hT1 ht h13 hN1 (by omega) (by omega)
      refine ⟨s2, m1, m2, nI a, nI a, wO_iff.mp ?_, Mk, (f1.wk (by decide) (by decide)).tr (b3.wk (by decide) (by decide)), fm1.wk (by decide), b4, Or.inl ⟨some a, rfl, rfl, hlta, fun e => (by cases e), fun _ _ => b6, Or.inr ⟨⟨fun e => (by cases e), ca⟩, b2⟩, ⟨o4.1, (b3.1 100 (by decide)).trans o4.2.1, (b3.1 101 (by decide)).trans o4.2.2.1, (b4.i 11 (by decide)).trans o4.2.2.2.1, (b4.i 13 (by decide)).trans h13⟩, b5 (t + 1) hlt⟩⟩
      unfold xf_6_takeSpeaker
      refine wO_eq hval ?_
      rw [w1]
      exact wO_eq x1 (wO_eq hpl (wO_eq o3 (wO_neg pu_10 (wO_neg nm1 (wO_pos ca (wO_eq b1 (wO_some rfl)))))))
    · refine ⟨s1, m1, m1, nI a, nI a, wO_iff.mp ?_, Mk, f1.wk (by decide) (by decide), fm1.wk (by decide), msF.rf, Or.inl ⟨some a, rfl, rfl, hlta, fun e => (by cases e), fun _ e => absurd e ca, Or.inl ⟨Or.inr ca, rfl⟩, o4, hN1.mv (by omega) rfl rfl rfl rfl⟩⟩
      unfold xf_6_takeSpeaker
      refine wO_eq hval ?_
      rw [w1]
      exact wO_eq x1 (wO_eq hpl (wO_eq o3 (wO_neg pu_10 (wO_neg nm1 (wO_neg ca (wO_some rfl))))))
  · -- not known
    have hon : on = none := by
      cases on with
      | none => rfl
      | some b =>
        have q : s1.2.2.1 7 = s.2.2.1 7 := by rw [f1.2.2.1]
        exact absurd (by rw [q]; exact gn.2.1) (k1 b gn.1)
    have x1 : xf_6_speakerNamed s (W t) = some (-1, s) := by rw [xn, hon]; rfl
    obtain ⟨s2, m2, b1, b2, b3, b4, b5, b6⟩ := b_note (f := 4) hT1 ht h13 hN1 (by omega) (by omega)
    refine ⟨s2, m2, m2, -1, -1, wO_iff.mp ?_, wO_iff.mp ?_, (f1.wk (by decide) (by decide)).tr (b3.wk (by decide) (by decide)), (fm1.wk (by decide)).tr (b4.wk (by decide)), msF.rf, Or.inl ⟨none, rfl, rfl, fun a e => (by cases e), fun _ => b6, fun e => absurd rfl e, Or.inl ⟨Or.inl rfl, rfl⟩, ⟨o4.1, (b3.1 100 (by decide)).trans o4.2.1, (b3.1 101 (by decide)).trans o4.2.2.1, (b4.i 11 (by decide)).trans o4.2.2.2.1, (b4.i 13 (by decide)).trans h13⟩, b5 (t + 1) hlt⟩⟩
    · unfold xf_6_takeSpeaker
      refine wO_eq hval ?_
      rw [w1]
      exact wO_eq x1 (wO_eq hpl (wO_eq o3 (wO_neg pu_10 (wO_pos rfl (wO_eq b1 (wO_some rfl))))))
    · unfold mf_known
      rw [h11]
      exact wO_eq e1 (wO_pos h0 (wO_eq k2 (wO_eq b2 (wO_some rfl))))
