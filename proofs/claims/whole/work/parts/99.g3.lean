/-! reading: tilt and seed -/
theorem b_word {K P V : Nat → Nat} {W : Nat → Int64} {N t k : Nat} {s : xs_S} {m : ms_S} (hT : gTok K P V W N s m) (h : gHl N t s m) (hk : k < 32) (hK : K t = k) : ∃ s2 m2 r, xf_6_take s (nI k) = some (r, s2) ∧ mf_goesOn m = some m2 ∧ xsF [100, 101] [] s s2 ∧ msF [11, 13, 14] m m2 ∧ (gHl N (t + 1) s2 m2 ∨ ∃ f, gFx P N f (P t) s2 ∧ gFm2 f (P t) m2) := by
  obtain ⟨s1, m1, e1, f1, fm1, o1⟩ := b_take (k := k) hT h hk
  have g1 : mf_goesOn m = some m1 := by
    have q := m_is (k := k) hT h (by omega)
    rw [if_pos hK] at q
    unfold mf_must at e1
    rw [q] at e1
    have e1 : (if (1 : Int32) = 0 then (mf_fail m 1).bind fun s_3 => some s_3 else (mf_goesOn m).bind fun s_4 => some s_4) = some m1 := e1
    rw [if_neg (by decide)] at e1
    cases hg : mf_goesOn m with
    | none => rw [hg] at e1; cases e1
    | some n => rw [hg] at e1; exact e1
  rcases o1 with ⟨-, -, o3, o4⟩ | ⟨o3, -, f, o5, o6⟩
  · exact ⟨s1, m1, 1, o3, g1, f1, fm1, Or.inl o4⟩
  · exact ⟨s1, m1, 0, o3, g1, f1, fm1, Or.inr ⟨f, o5, o6⟩⟩
theorem gXb_of2 {K P V : Nat → Nat} {W : Nat → Int64} {N f p : Nat} {s s2 : xs_S} {m : ms_S} (hT : gTok K P V W N s m) (hE : gEm1 s) (hF : xsF [100, 101, 103, 104] [] s s2) (h : gFx P N f p s2) : gXb P N f p s2 := by
  obtain ⟨z, z1, z2⟩ := hE
  obtain ⟨C, c1, c2, c3⟩ := hT.2.1
  exact ⟨h, ⟨z, z1, (hF.1 321 (by decide)).trans z2⟩, C, c1, c2, (hF.1 21 (by decide)).trans c3⟩
theorem gTok.fr {K P V : Nat → Nat} {W : Nat → Int64} {N : Nat} {s s2 : xs_S} {m m2 : ms_S} (hT : gTok K P V W N s m) (hF : xsF [100, 101, 103, 104] [] s s2) (hG : msF [11, 13, 14, 15, 16] m m2) : gTok K P V W N s2 m2 := hT.mv (hF.1 21 (by decide)) (hF.2.1 3 (by decide)) (hF.2.1 4 (by decide)) (by rw [hF.2.2.1]) (hG.a 5 (by decide)) (hG.a 6 (by decide)) (hG.a 7 (by decide)) (by rw [hG.2])
noncomputable def mNum (j : Nat) (m : ms_S) (lo hi : Int32) : Option ms_S := (mf_goesOn m).bind fun s_47 => (mf_bounded s_47 lo hi).bind fun (v_48, s_48) => bif mo_in (s_47.1 19) 2 then ((mf_must (ms_sA s_48 j (upd (s_48.2.1 j) ((s_47.1 19)).toNatClampNeg (v_48))) (4 : Int32)).bind fun s_50 => some s_50) else none
theorem e_num {K P V : Nat → Nat} {W : Nat → Int64} {N t k j lo hi sd : Nat} {s : xs_S} {m : ms_S} (hT : gTok K P V W N s m) (hH : gHl N t s m) (hN : gNo P t s m) (hE : gEm1 s) (h19 : m.1 19 = nI sd) (hsd : sd ≤ 1) (hk : k < 32) (hK : K t = k) (hj : j = 29 ∨ j = 30) (hlo : lo < 10000) (hhi : hi < 10000) : ∃ s2 m2 r x, xf_6_tellNumber s (nI k) (nI lo) (nI hi) = some (r, s2) ∧ mNum j m (nI lo) (nI hi) = some m2 ∧ xsF [100, 101, 103, 104] [] s s2 ∧ msF [11, 13, 14, 15, 16, 29, 30] m m2 ∧ m2.2.1 j = upd (m.2.1 j) sd x ∧ m2.2.1 (59 - j) = m.2.1 (59 - j) ∧ ((∃ v t2, r = nI v ∧ x = nI v ∧ t < t2 ∧ gHl N t2 s2 m2 ∧ gNo P t2 s2 m2 ∧ (m2.1 15 = 0 → lo ≤ v ∧ v ≤ hi)) ∨ ∃ f p, gXb P N f p s2 ∧ gFm2 f p m2) := by
  obtain ⟨s1, m1, r1, e1, em1, f1, fm1, o1⟩ := b_word hT hH hk hK
  have F1 : xsF [100, 101, 103, 104] [] s s1 := f1.wk (by decide) (by decide)
  have G1 : msF [11, 13, 14, 15, 16] m m1 := fm1.wk (by decide)
  have i19 : m1.1 19 = nI sd := (fm1.i 19 (by decide)).trans h19
  have jx : ∀ q : ms_S, ∀ A : Nat → Int32, (ms_sA q j A).2.1 j = A ∧ (ms_sA q j A).2.1 (59 - j) = q.2.1 (59 - j) := by
    intro q A
    rcases hj with rfl | rfl
    · exact ⟨rfl, rfl⟩
    · exact ⟨rfl, rfl⟩
  have jm : j ∈ [11, 13, 14, 15, 16, 29, 30] := by
    rcases hj with rfl | rfl
    · decide
    · decide
  have jn : ¬ j ∈ [11, 13, 14, 15, 16] ∧ ¬ (59 - j) ∈ [11, 13, 14, 15, 16] := by
    rcases hj with rfl | rfl
    · decide
    · decide
  have jt : ¬ 5 = j ∧ ¬ 6 = j ∧ ¬ 7 = j := by omega
  have Mx : ∀ (q : Int32) (n n2 : ms_S), mf_bounded m1 (nI lo) (nI hi) = some (q, n) → mf_must (ms_sA n j (upd (n.2.1 j) sd q)) 4 = some n2 → mNum j m (nI lo) (nI hi) = some n2 := by
    intro q n n2 h1 h2
    refine wO_iff.mp ?_
    unfold mNum
    refine wO_eq em1 (wO_eq h1 ?_)
    rw [i19]
    refine wO_in (k := sd) rfl (by omega) (by omega) ?_
    rw [nI_clamp (by omega)]
    exact wO_eq h2 (wO_some rfl)
  rcases o1 with h1 | ⟨f, o5, o6⟩
  rotate_left
  · have gx := gXb_of2 hT hE F1 o5
    obtain ⟨r2, e2⟩ := x_int_bad (lo := nI lo) (hi := nI hi) gx
    have gm : gFm2 f (P t) (ms_sA m1 j (upd (m1.2.1 j) sd (nI lo))) := o6
    refine ⟨s1, ms_sA m1 j (upd (m1.2.1 j) sd (nI lo)), r2, nI lo, wO_iff.mp ?_, Mx _ _ _ (m_bounded_bad o6) (m_must_bad gm _), F1, (fm1.wk (by decide)).tr (msF.sA jm), ?_, ?_, Or.inr ⟨f, P t, gx, gm⟩⟩
    · unfold xf_6_tellNumber
      exact wO_eq e1 (wO_eq e2 (wO_eq (x_take_bad gx.1 _) (wO_some rfl)))
    · rw [(jx _ _).1, G1.a j jn.1]
    · rw [(jx _ _).2, G1.a _ jn.2]
  have hT1 := hT.fr F1 G1
  have hlt := hT.lt h1.1
  have hN1 : gNo P (t + 1) s1 m1 := hN.mv (by omega) (f1.1 103 (by decide)) (f1.1 104 (by decide)) (fm1.i 15 (by decide)) (fm1.i 16 (by decide))
  obtain ⟨s2, m2, r2, q2, e2, em2, f2, fm2, o2⟩ := e_int hT1 h1 hN1 hlo hhi
  have F2 : xsF [100, 101, 103, 104] [] s s2 := F1.tr f2
  have G2 : msF [11, 13, 14, 15, 16] m m2 := G1.tr fm2
  generalize hn2 : ms_sA m2 j (upd (m2.2.1 j) sd q2) = n2
  have gn2 : msF [j] m2 n2 := by rw [← hn2]; exact msF.sA (List.mem_cons_self ..)
  have rj : n2.2.1 j = upd (m.2.1 j) sd q2 := by rw [← hn2, (jx _ _).1, G2.a j jn.1]
  have rj2 : n2.2.1 (59 - j) = m.2.1 (59 - j) := by rw [← hn2, (jx _ _).2, G2.a _ jn.2]
  have Gn : msF [11, 13, 14, 15, 16, 29, 30] m n2 := (G2.wk (by decide)).tr (by rw [← hn2]; exact msF.sA jm)
  rcases o2 with ⟨v, u1, u2, u3, h2, u4, u5⟩ | ⟨f, o5, o6⟩
  rotate_left
  · have gx := gXb_of2 hT hE F2 o5
    have gm : gFm2 f (P (t + 1)) n2 := by rw [← hn2]; exact o6
    refine ⟨s2, n2, r2, q2, wO_iff.mp ?_, Mx _ _ _ em2 (by rw [hn2]; exact m_must_bad gm _), F2, Gn, rj, rj2, Or.inr ⟨f, _, gx, gm⟩⟩
    unfold xf_6_tellNumber
    exact wO_eq e1 (wO_eq e2 (wO_eq (x_take_bad gx.1 _) (wO_some rfl)))
  have hT2 : gTok K P V W N s2 n2 := (hT.fr F2 G2).mv rfl rfl rfl rfl (by rw [← hn2]; exact mm_up_ne jt.1) (by rw [← hn2]; exact mm_up_ne jt.2.1) (by rw [← hn2]; exact mm_up_ne jt.2.2) (by rw [gn2.2])
  have h2n : gHl N (t + 1 + 1) s2 n2 := by rw [← hn2]; exact h2
  obtain ⟨s3, m3, e3, f3, fm3, o3⟩ := b_take (k := 23) hT2 h2n (by omega)
  have em3 : mf_must n2 4 = some m3 := e3
  have F3 : xsF [100, 101, 103, 104] [] s s3 := F2.tr (f3.wk (by decide) (by decide))
  have j3 : ¬ j ∈ [11, 13, 14] ∧ ¬ (59 - j) ∈ [11, 13, 14] := by
    rcases hj with rfl | rfl
    · decide
    · decide
  have X3 : ∀ a, xf_6_take s2 (nI 23) = some (a, s3) → xf_6_tellNumber s (nI k) (nI lo) (nI hi) = some (r2, s3) := by
    intro a ha
    refine wO_iff.mp ?_
    unfold xf_6_tellNumber
    exact wO_eq e1 (wO_eq e2 (wO_eq (show xf_6_take s2 23 = some (a, s3) from ha) (wO_some rfl)))
  have G3 : msF [11, 13, 14, 15, 16, 29, 30] m m3 := Gn.tr (fm3.wk (by decide))
  have n15 : n2.1 15 = m2.1 15 := by rw [← hn2]; rfl
  have n16 : n2.1 16 = m2.1 16 := by rw [← hn2]; rfl
  rcases o3 with ⟨-, -, x3, h3⟩ | ⟨x3, -, f, o5, o6⟩
  · have hlt2 : P (t + 1 + 1) < P (t + 1 + 1 + 1) := hT2.lt (t := t + 1 + 1) h3.1
    exact ⟨s3, m3, r2, q2, X3 _ x3, Mx _ _ _ em2 (by rw [hn2]; exact em3), F3, G3, by rw [fm3.a j j3.1]; exact rj, by rw [fm3.a _ j3.2]; exact rj2, Or.inl ⟨v, t + 1 + 1 + 1, u1, u2, by omega, h3, u4.mv (Nat.le_of_lt hlt2) (f3.1 103 (by decide)) (f3.1 104 (by decide)) ((fm3.i 15 (by decide)).trans n15) ((fm3.i 16 (by decide)).trans n16), fun q => u5 (n15.symm.trans ((fm3.i 15 (by decide)).symm.trans q))⟩⟩
  · exact ⟨s3, m3, r2, q2, X3 _ x3, Mx _ _ _ em2 (by rw [hn2]; exact em3), F3, G3, by rw [fm3.a j j3.1]; exact rj, by rw [fm3.a _ j3.2]; exact rj2, Or.inr ⟨f, _, gXb_of2 hT hE F3 o5, o6⟩⟩
