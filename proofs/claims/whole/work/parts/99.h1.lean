/-! reading: the pair told -/
noncomputable def mPar (s : ms_S) : Option ms_S :=
((mf_goesOn s ).bind fun s_26 =>
((mf_known s_26 ).bind fun (v_27, s_27) =>
(bif mo_in (s_26.1 19) 2 then ((mf_known (ms_sA s_27 27 (upd (s_27.2.1 27) ((s_26.1 19)).toNatClampNeg (v_27))) ).bind fun (v_29, s_29) =>
(bif mo_in (s_27.1 19) 2 then (if (s_29.1 13) = (0 : Int32) then
((mo_ag 2 (s_29.2.1 27) (s_29.1 19)).bind fun x_32 =>
(if x_32 < (0 : Int32) then
(mf_tellOne_j151 ((ms_sA s_29 28 (upd (s_29.2.1 28) ((s_27.1 19)).toNatClampNeg (v_29)))))
else
((mo_ag 2 (s_29.2.1 27) (s_29.1 19)).bind fun x_35 =>
((mo_ag 2 (upd (s_29.2.1 28) ((s_27.1 19)).toNatClampNeg (v_29)) (s_29.1 19)).bind fun x_36 =>
(if x_35 = x_36 then
((mf_wrong (ms_sA s_29 28 (upd (s_29.2.1 28) ((s_27.1 19)).toNatClampNeg (v_29))) ((3 : Int32)) ((s_27.1 11))).bind fun s_38 =>
(mf_tellOne_j151 (s_38)))
else
(mf_tellOne_j151 ((ms_sA s_29 28 (upd (s_29.2.1 28) ((s_27.1 19)).toNatClampNeg (v_29))))))))))
else
(mf_tellOne_j151 ((ms_sA s_29 28 (upd (s_29.2.1 28) ((s_27.1 19)).toNatClampNeg (v_29)))))) else none)) else none)))
noncomputable def mPt (s_27 s_29 : ms_S) (v_29 : Int32) : Option ms_S :=
(if (s_29.1 13) = (0 : Int32) then
((mo_ag 2 (s_29.2.1 27) (s_29.1 19)).bind fun x_32 =>
(if x_32 < (0 : Int32) then
(mf_tellOne_j151 ((ms_sA s_29 28 (upd (s_29.2.1 28) ((s_27.1 19)).toNatClampNeg (v_29)))))
else
((mo_ag 2 (s_29.2.1 27) (s_29.1 19)).bind fun x_35 =>
((mo_ag 2 (upd (s_29.2.1 28) ((s_27.1 19)).toNatClampNeg (v_29)) (s_29.1 19)).bind fun x_36 =>
(if x_35 = x_36 then
((mf_wrong (ms_sA s_29 28 (upd (s_29.2.1 28) ((s_27.1 19)).toNatClampNeg (v_29))) ((3 : Int32)) ((s_27.1 11))).bind fun s_38 =>
(mf_tellOne_j151 (s_38)))
else
(mf_tellOne_j151 ((ms_sA s_29 28 (upd (s_29.2.1 28) ((s_27.1 19)).toNatClampNeg (v_29))))))))))
else
(mf_tellOne_j151 ((ms_sA s_29 28 (upd (s_29.2.1 28) ((s_27.1 19)).toNatClampNeg (v_29))))))
def xKp : List Nat := [100, 101, 103, 104, 277, 278]
def mKp : List Nat := [11, 13, 14, 15, 16, 27, 28]
theorem mPt_bad {sd f p : Nat} {m2 m3 : ms_S} {q : Int32} (hsd : sd ≤ 1) (h19 : m2.1 19 = nI sd) (h : gFm2 f p m3) : mPt m2 m3 q = some (ms_sA m3 28 (upd (m3.2.1 28) sd q)) := by
  refine wO_iff.mp ?_
  unfold mPt
  rw [h19, nI_clamp (by omega)]
  refine wO_neg (gF2 h) ?_
  unfold mf_tellOne_j151
  exact wO_eq (m_must_bad (show gFm2 f p (ms_sA m3 28 (upd (m3.2.1 28) sd q)) from h) _) (wO_some rfl)
theorem gOi_neg : ∀ a, a < 5 → ¬ nI a < (0 : Int32) := by decide
theorem mPt_ok {sd ns u : Nat} {m2 m3 m4 m5 : ms_S} {o1 o2 : Option Nat} (hn : ns ≤ 5) (hsd : sd ≤ 1) (h19 : m2.1 19 = nI sd) (h11 : m2.1 11 = nI u) (k19 : m3.1 19 = nI sd) (h13 : m3.1 13 = 0) (h27 : m3.2.1 27 sd = gOi o1) (b1 : ∀ a, o1 = some a → a < ns) (b2 : ∀ a, o2 = some a → a < ns) (hw : ((o2 = none ∨ ¬ gOi o2 = gOi o1) ∧ m4 = m3) ∨ ((¬ o2 = none ∧ gOi o2 = gOi o1) ∧ mf_wrong m3 (nI 3) (nI u) = some m4)) (hm : mf_must (ms_sA m4 28 (upd (m3.2.1 28) sd (gOi o2))) 4 = some m5) : mPt m2 m3 (gOi o2) = some m5 := by
  refine wO_iff.mp ?_
  unfold mPt
  rw [h19, h11, nI_clamp (by omega)]
  have j : ∀ n, mf_must n 4 = some m5 → wO (mf_tellOne_j151 n) (fun r => r = m5) := by
    intro n hn
    unfold mf_tellOne_j151
    exact wO_eq hn (wO_some rfl)
  have n1 := gOi_m1 hn b1
  have n2 := gOi_m1 hn b2
  refine wO_pos h13 (wO_agv (k := sd) k19 (by omega) (by omega) h27 ?_)
  have k28 : upd (m3.2.1 28) sd (gOi o2) sd = gOi o2 := upd_eq
  rcases hw with ⟨c, rfl⟩ | ⟨⟨c1, c2⟩, c3⟩
  · cases o1 with
    | none => exact wO_pos (show (-1 : Int32) < 0 by decide) (j _ hm)
    | some a =>
      refine wO_neg (gOi_neg a (by have := b1 a rfl; omega)) (wO_agv (k := sd) k19 (by omega) (by omega) h27 (wO_agv (k := sd) k19 (by omega) (by omega) k28 (wO_neg (fun e => ?_) (j _ hm))))
      rcases c with c | c
      · subst c
        have := n1.mp e
        cases this
      · exact c e.symm
  · have d1 : ¬ o1 = none := fun e => c1 (n2.mp (c2.trans (n1.mpr e)))
    cases o1 with
    | none => exact absurd rfl d1
    | some a =>
      refine wO_neg (gOi_neg a (by have := b1 a rfl; omega)) (wO_agv (k := sd) k19 (by omega) (by omega) h27 (wO_agv (k := sd) k19 (by omega) (by omega) k28 (wO_pos c2.symm (wO_eq (m_wrong28 c3) (j _ hm)))))
theorem e_tpar {K P V : Nat → Nat} {W : Nat → Int64} {N t ns nw sd : Nat} {s : xs_S} {m : ms_S} (hT : gTok K P V W N s m) (hH : gHl N t s m) (hN : gNo P t s m) (hM : gNm ns nw s m) (hE : gEm1 s) (h19 : m.1 19 = nI sd) (hsd : sd ≤ 1) (hK : K t = 2) : ∃ s2 m2, xf_6_tellPair s = some s2 ∧ mPar m = some m2 ∧ xsF xKp [] s s2 ∧ msF mKp m m2 ∧ gSq sd m m2 ∧ ((∃ t2 o1 o2, t < t2 ∧ gHl N t2 s2 m2 ∧ gNo P t2 s2 m2 ∧ s2.1 277 = gOi o1 ∧ s2.1 278 = gOi o2 ∧ m2.2.1 27 sd = gOi o1 ∧ m2.2.1 28 sd = gOi o2 ∧ (m2.1 15 = 0 → m.1 15 = 0 ∧ ∃ a b, o1 = some a ∧ o2 = some b ∧ a < ns ∧ b < ns ∧ ¬ a = b)) ∨ ∃ f p, gXb P N f p s2 ∧ gFm2 f p m2) := by
  have hN4 := hT.1
  obtain ⟨M1, M2, M3, M4, M5, -⟩ := id hM
  have h13 := hH.2.2.2.2
  have tf : ∀ (c : xs_S) (n : ms_S), xsF xKp [] s c → msF mKp m n → gTok K P V W N c n := fun c n F G => hT.mv (F.1 21 (by decide)) (F.2.1 3 (by decide)) (F.2.1 4 (by decide)) (by rw [F.2.2.1]) (G.a 5 (by decide)) (G.a 6 (by decide)) (G.a 7 (by decide)) (by rw [G.2])
  have xb : ∀ (c : xs_S) (f p : Nat), xsF xKp [] s c → gFx P N f p c → gXb P N f p c := by
    intro c f p F h
    obtain ⟨z, z1, z2⟩ := hE
    obtain ⟨C, c1, c2, c3⟩ := hT.2.1
    exact ⟨h, ⟨z, z1, (F.1 321 (by decide)).trans z2⟩, C, c1, c2, (F.1 21 (by decide)).trans c3⟩
  have gs : ∀ (n : ms_S) (j : Nat) (q : Int32), j ∈ [23, 25, 27, 28, 29, 30] → gSq sd n (ms_sA n j (upd (n.2.1 j) sd q)) := fun n j q hj => gSq.s1 hj (fun k hk => mm_up_ne hk) (fun i hi => by
    show mm_up n.2.1 j (upd (n.2.1 j) sd q) j i = _
    rw [mm_up_eq, upd_ne hi])
  obtain ⟨s1, m1, r1, e1, em1, f1, fm1, o1⟩ := b_word (k := 2) hT hH (by omega) hK
  have F1 : xsF xKp [] s s1 := f1.wk (by decide) (by decide)
  have G1 : msF mKp m m1 := fm1.wk (by decide)
  have Q1 : gSq sd m m1 := fm1.sq (by decide)
  have i19 : m1.1 19 = nI sd := (fm1.i 19 (by decide)).trans h19
  have Xe : ∀ (a b c : xs_S) (r2 r3 r4 : Int32), xf_6_takeSpeaker s1 (-1) = some (r2, a) → xf_6_takeSpeaker (xs_sI a 277 r2) r2 = some (r3, b) → xf_6_take (xs_sI b 278 r3) 23 = some (r4, c) → xf_6_tellPair s = some c := by
    intro a b c r2 r3 r4 h1 h2 h3
    refine wO_iff.mp ?_
    unfold xf_6_tellPair
    exact wO_eq e1 (wO_eq h1 (wO_eq h2 (wO_eq h3 (wO_some rfl))))
  have Me : ∀ (q2 q3 : Int32) (n2 n3 n4 : ms_S), mf_known m1 = some (q2, n2) → n2.1 19 = nI sd → mf_known (ms_sA n2 27 (upd (n2.2.1 27) sd q2)) = some (q3, n3) → mPt n2 n3 q3 = some n4 → mPar m = some n4 := by
    intro q2 q3 n2 n3 n4 k1 k2 k3 k4
    refine wO_iff.mp ?_
    unfold mPar
    refine wO_eq em1 (wO_eq k1 (wO_in (k := sd) i19 (by omega) (by omega) ?_))
    rw [i19, nI_clamp (by omega)]
    exact wO_eq k3 (wO_in (k := sd) k2 (by omega) (by omega) (wO_iff.mpr k4))
  rcases o1 with h1 | ⟨f, o5, o6⟩
  rotate_left
  · have gx := xb _ _ _ F1 o5
    obtain ⟨r2, q2⟩ := x_spk_bad (a0 := -1) M1 ((F1.1 275 (by decide)).trans M3) gx
    have F2 : xsF xKp [] s (xs_sI s1 277 r2) := F1.tr (xsF.sI (by decide))
    have gx2 : gXb P N f (P t) (xs_sI s1 277 r2) := gx.mh rfl rfl rfl rfl
    obtain ⟨r3, q3⟩ := x_spk_bad (a0 := r2) M1 ((F2.1 275 (by decide)).trans M3) gx2
    have F3 : xsF xKp [] s (xs_sI (xs_sI s1 277 r2) 278 r3) := F2.tr (xsF.sI (by decide))
    have gx3 : gXb P N f (P t) (xs_sI (xs_sI s1 277 r2) 278 r3) := gx2.mh rfl rfl rfl rfl
    have gm : gFm2 f (P t) (ms_sA m1 27 (upd (m1.2.1 27) sd (-1))) := o6
    refine ⟨_, _, Xe _ _ _ r2 r3 0 q2 q3 (x_take_bad gx3.1 _), Me _ _ _ _ _ (m_known_bad o6) i19 (m_known_bad gm) (mPt_bad hsd i19 gm), F3, (G1.tr (msF.sA (by decide))).tr (msF.sA (by decide)), (Q1.tr (gs _ 27 _ (by decide))).tr (gs _ 28 _ (by decide)), Or.inr ⟨f, P t, gx3, gm⟩⟩
  have hT1 := tf _ _ F1 G1
  have hlt := hT.lt h1.1
  have hN1 : gNo P (t + 1) s1 m1 := hN.mv (by omega) (f1.1 103 (by decide)) (f1.1 104 (by decide)) (fm1.i 15 (by decide)) (fm1.i 16 (by decide))
  have hM1 : gNm ns nw s1 m1 := hM.mv (f1.1 275 (by decide)) (f1.1 276 (by decide)) f1.2.2.1 (fm1.i 20 (by decide)) (fm1.a 22 (by decide)) fm1.2
  obtain ⟨s2, m2, m2b, r2, q2, e2, em2, f2, fm2, fm2b, u2⟩ := e_spk (-1) hT1 h1 hN1 hM1
  have F2 : xsF xKp [] s s2 := F1.tr (f2.wk (by decide) (by decide))
  have G2 : msF mKp m m2 := G1.tr (fm2.wk (by decide))
  have Q2 : gSq sd m m2 := Q1.tr (fm2.sq (by decide))
  have i19b : m2.1 19 = nI sd := (G2.i 19 (by decide)).trans h19
  generalize hA : xs_sI s2 277 r2 = A
  have FA : xsF xKp [] s A := by rw [← hA]; exact F2.tr (xsF.sI (by decide))
  generalize hB : ms_sA m2 27 (upd (m2.2.1 27) sd q2) = B
  have GB : msF mKp m B := by rw [← hB]; exact G2.tr (msF.sA (by decide))
  have QB : gSq sd m B := by rw [← hB]; exact Q2.tr (gs _ 27 _ (by decide))
  have B27 : B.2.1 27 sd = q2 := by
    rw [← hB]
    show upd (m2.2.1 27) sd q2 sd = q2
    exact upd_eq
  have BB : B.1 = m2.1 := by rw [← hB]; rfl
  rcases u2 with ⟨oa, a1, a2, a3, a4, -, a6, h2, hN2⟩ | ⟨f, o5, o6⟩
  rotate_left
  · have gx := xb _ _ _ F2 o5
    have gx2 : gXb P N f (P (t + 1)) A := by rw [← hA]; exact gx.mh rfl rfl rfl rfl
    obtain ⟨r3, q3⟩ := x_spk_bad (a0 := r2) M1 ((FA.1 275 (by decide)).trans M3) gx2
    have F3 : xsF xKp [] s (xs_sI A 278 r3) := FA.tr (xsF.sI (by decide))
    have gx3 : gXb P N f (P (t + 1)) (xs_sI A 278 r3) := gx2.mh rfl rfl rfl rfl
    have gm : gFm2 f (P (t + 1)) B := by rw [← hB]; exact o6
    refine ⟨_, _, Xe _ _ _ r2 r3 0 e2 (by rw [hA]; exact q3) (x_take_bad gx3.1 _), Me _ _ _ _ _ em2 i19b (by rw [hB]; exact m_known_bad gm) (mPt_bad hsd i19b gm), F3, GB.tr (msF.sA (by decide)), QB.tr (gs _ 28 _ (by decide)), Or.inr ⟨f, _, gx3, gm⟩⟩
  have m2e : m2b = m2 := by
    rcases a6 with ⟨-, e⟩ | ⟨⟨c1, c2⟩, -⟩
    · exact e
    · exact absurd ((gOi_m1 M1 a3).mp c2) c1
  subst m2e
  subst a1 a2
  have hTA : gTok K P V W N A B := tf _ _ FA GB
  have hHA : gHl N (t + 1 + 1) A B := by
    obtain ⟨z1, z2, z3, z4, z5⟩ := h2
    exact ⟨z1, by rw [← hA]; exact z2, by rw [← hA]; exact z3, by rw [BB]; exact z4, by rw [BB]; exact z5⟩
  have hNA : gNo P (t + 1 + 1) A B := hN2.mv (Nat.le_refl _) (by rw [← hA]; rfl) (by rw [← hA]; rfl) (by rw [BB]) (by rw [BB])
  have hMA : gNm ns nw A B := hM.mv (FA.1 275 (by decide)) (FA.1 276 (by decide)) FA.2.2.1 (GB.i 20 (by decide)) (GB.a 22 (by decide)) GB.2
  obtain ⟨s3, m3, m4, r3, q3, e3, em3, f3, fm3, fm3b, u3⟩ := e_spk (gOi oa) hTA hHA hNA hMA
  have F3 : xsF xKp [] s s3 := FA.tr (f3.wk (by decide) (by decide))
  have G3 : msF mKp m m3 := GB.tr (fm3.wk (by decide))
  have Q3 : gSq sd m m3 := QB.tr (fm3.sq (by decide))
  have F3b : xsF xKp [] s (xs_sI s3 278 r3) := F3.tr (xsF.sI (by decide))
  have i19c : m3.1 19 = nI sd := (G3.i 19 (by decide)).trans h19
  rcases u3 with ⟨ob, b1, b2, b3, b4, b5, b6, h3, hN3⟩ | ⟨f, o5, o6⟩
  rotate_left
  · have gx := xb _ _ _ F3 o5
    have gx3 : gXb P N f (P (t + 1 + 1)) (xs_sI s3 278 r3) := gx.mh rfl rfl rfl rfl
    refine ⟨_, _, Xe _ _ _ _ r3 0 e2 (by rw [hA]; exact e3) (x_take_bad gx3.1 _), Me _ _ _ _ _ em2 i19b (by rw [hB]; exact em3) (mPt_bad hsd i19b o6), F3b, G3.tr (msF.sA (by decide)), Q3.tr (gs _ 28 _ (by decide)), Or.inr ⟨f, _, gx3, o6⟩⟩
  subst b1 b2
  have G4 : msF mKp m m4 := G3.tr (fm3b.wk (by decide))
  have Q4 : gSq sd m m4 := Q3.tr (fm3b.sq (by decide))
  generalize hC : xs_sI s3 278 (gOi ob) = C at F3b
  have e28 : m4.2.1 28 = m3.2.1 28 := fm3b.a 28 (by decide)
  generalize hD : ms_sA m4 28 (upd (m3.2.1 28) sd (gOi ob)) = D
  have GD : msF mKp m D := by rw [← hD]; exact G4.tr (msF.sA (by decide))
  have QD : gSq sd m D := by
    rw [← hD, ← e28]
    exact Q4.tr (gs _ 28 _ (by decide))
  have DD : D.1 = m4.1 := by rw [← hD]; rfl
  have hTC : gTok K P V W N C D := tf _ _ F3b GD
  have hHC : gHl N (t + 1 + 1 + 1) C D := by
    obtain ⟨z1, z2, z3, z4, z5⟩ := h3
    exact ⟨z1, by rw [← hC]; exact z2, by rw [← hC]; exact z3, by rw [DD]; exact z4, by rw [DD]; exact z5⟩
  have hNC : gNo P (t + 1 + 1 + 1) C D := hN3.mv (Nat.le_refl _) (by rw [← hC]; rfl) (by rw [← hC]; rfl) (by rw [DD]) (by rw [DD])
  have h13c : m3.1 13 = 0 := (fm3b.i 13 (by decide)).symm.trans h3.2.2.2.2
  have h27c : m3.2.1 27 sd = gOi oa := by rw [fm3.a 27 (by decide)]; exact B27
  obtain ⟨s4, m5, e4, f4, fm4, o4⟩ := b_take (k := 23) hTC hHC (by omega)
  have em4 : mf_must D 4 = some m5 := e4
  have Mx := Me _ _ _ _ _ em2 i19b (by rw [hB]; exact em3) (mPt_ok (m5 := m5) M1 hsd i19b h2.2.2.2.1 i19c h13c h27c a3 b3 b6 (by rw [hD]; exact em4))
  have F4 : xsF xKp [] s s4 := F3b.tr (f4.wk (by decide) (by decide))
  have G4 : msF mKp m m5 := GD.tr (fm4.wk (by decide))
  have Q4 : gSq sd m m5 := QD.tr (fm4.sq (by decide))
  rcases o4 with ⟨-, -, x4, h4⟩ | ⟨x4, -, f, o5, o6⟩
  rotate_left
  · exact ⟨s4, m5, Xe _ _ _ _ _ 0 e2 (by rw [hA]; exact e3) (by rw [hC]; exact x4), Mx, F4, G4, Q4, Or.inr ⟨f, _, xb _ _ _ F4 o5, o6⟩⟩
  have hlt4 : P (t + 1 + 1 + 1) < P (t + 1 + 1 + 1 + 1) := hTC.lt h4.1
  refine ⟨s4, m5, Xe _ _ _ _ _ 1 e2 (by rw [hA]; exact e3) (by rw [hC]; exact x4), Mx, F4, G4, Q4, Or.inl ⟨t + 1 + 1 + 1 + 1, oa, ob, by omega, h4, ?_, ?_, ?_, ?_, ?_, fun e => ?_⟩⟩
  · exact hNC.mv (Nat.le_of_lt hlt4) (f4.1 103 (by decide)) (f4.1 104 (by decide)) (fm4.i 15 (by decide)) (fm4.i 16 (by decide))
  · rw [f4.1 277 (by decide), ← hC]
    show s3.1 277 = _
    rw [f3.1 277 (by decide), ← hA]
    rfl
  · rw [f4.1 278 (by decide), ← hC]
    rfl
  · rw [fm4.a 27 (by decide), ← hD]
    show m4.2.1 27 sd = _
    rw [fm3b.a 27 (by decide)]
    exact h27c
  · rw [fm4.a 28 (by decide), ← hD]
    show upd (m3.2.1 28) sd (gOi ob) sd = _
    exact upd_eq
  · have z4 : m4.1 15 = 0 := by
      have := (fm4.i 15 (by decide)).symm.trans e
      rw [DD] at this
      exact this
    have z3 : m3.1 15 = 0 := by
      rcases b6 with ⟨-, q⟩ | ⟨-, q⟩
      · rw [← q]; exact z4
      · exact q15_wrong (f := 3) (by omega) (by omega) _ q z4
    have zB : B.1 15 = 0 := q15_known _ em3 z3
    have z2 : m2b.1 15 = 0 := by rw [← BB]; exact zB
    have z1 : m1.1 15 = 0 := q15_known _ em2 z2
    refine ⟨(fm1.i 15 (by decide)).symm.trans z1, ?_⟩
    cases oa with
    | none => exact absurd z2 (a4 rfl)
    | some a =>
      cases ob with
      | none => exact absurd z4 (b4 rfl)
      | some b =>
        exact ⟨a, b, rfl, rfl, a3 a rfl, b3 b rfl, fun q => b5 (fun w => (by cases w)) (by rw [q]) z4⟩
