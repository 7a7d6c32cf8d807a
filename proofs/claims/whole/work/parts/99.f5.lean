/-! reading: a whole law -/
/-- what a law may have written, of the reference -/
def gFl (sd : Nat) (m n : ms_S) : Prop := msF (31 :: 32 :: gKl) m n ∧ (∀ j, j ∈ [34, 35, 36, 37, 38] → ∀ i, ¬ (130 * sd ≤ i ∧ i < 130 * sd + 130) → n.2.1 j i = m.2.1 j i) ∧ gCq sd m n ∧ ∀ j, j ∈ [31, 32] → ∀ i, ¬ (4 * sd ≤ i ∧ i < 4 * sd + 4) → n.2.1 j i = m.2.1 j i
theorem gFl.tr {sd : Nat} {a b c : ms_S} (h : gFl sd a b) (k : gFl sd b c) : gFl sd a c := ⟨h.1.tr k.1, fun j hj i hi => (k.2.1 j hj i hi).trans (h.2.1 j hj i hi), h.2.2.1.tr k.2.2.1, fun j hj i hi => (k.2.2.2 j hj i hi).trans (h.2.2.2 j hj i hi)⟩
theorem gFsd.fl {sd : Nat} {a b : ms_S} (h : gFsd sd a b) : gFl sd a b := by
  have q : ∀ j, j ∈ [31, 32] → ¬ j ∈ gKl := by decide
  refine ⟨h.1.wk (by decide), h.2.1, h.2.2, fun j hj i _ => ?_⟩
  rw [h.1.a j (q j hj)]
theorem gFsd.mu {sd : Nat} {a b : ms_S} (h : msF [11, 13, 14] a b) : gFsd sd a b := by
  have q : ∀ j, j ∈ [34, 35, 36, 37, 38] → ¬ j ∈ [11, 13, 14] := by decide
  refine ⟨h.wk (by decide), fun j hj i _ => ?_, gCq.of h (by decide) (by decide)⟩
  rw [h.a j (q j hj)]
theorem gF12 {f : Nat} (h1 : 1 ≤ f) (h2 : f ≤ 2) : ¬ nI f ≤ (0 : Int32) := by
  have q : ∀ f, f < 3 → 1 ≤ f → ¬ nI f ≤ (0 : Int32) := by decide
  exact q f (by omega) h1
theorem x_j100_bad {P : Nat → Nat} {N f p k : Nat} {v2 : Int32} {s : xs_S} (hk : k < 4) (g : gXb P N f p s) : ∃ s2, xf_6_tellLaw_j100 s (nI k) v2 = some s2 ∧ xsF xKei [21, 22] s s2 ∧ gXb P N f p s2 := by
  obtain ⟨s1, e1, f1, g1⟩ := x_sum_bad (n := 7) (a := 0) g
  obtain ⟨s2, e2, f2, g2⟩ := x_emit_any (v := 20005) g1.2.1
  have gg := g1.mv f2 g2
  refine ⟨xs_sA s2 22 (upd (s2.2.1 22) k v2), ?_, (f1.wk (by decide) (by decide)).tr ((f2.wk (by decide) (by decide)).tr (xsF.sA (by decide))), gg⟩
  unfold xf_6_tellLaw_j100
  rw [e1]
  show (xf_6_take s1 23).bind (fun x => (xf_3_emit_20 x.2 20005).bind fun s_26 => bif mo_in (nI k) 4 then some (xs_sA s_26 22 (upd (s_26.2.1 22) (nI k).toNatClampNeg v2)) else none) = _
  rw [x_take_bad g1.1]
  show (xf_3_emit_20 s1 20005).bind (fun s_26 => bif mo_in (nI k) 4 then some (xs_sA s_26 22 (upd (s_26.2.1 22) (nI k).toNatClampNeg v2)) else none) = _
  rw [e2]
  show (bif mo_in (nI k) 4 then some (xs_sA s2 22 (upd (s2.2.1 22) (nI k).toNatClampNeg v2)) else none) = _
  rw [pu_in (k := k) rfl hk (by omega), nI_clamp (by omega)]
  rfl
theorem m_j67_bad {f p B sd : Nat} {v1 v2 : Int32} {m : ms_S} (h : gMb f p B m) (hB0 : 130 * sd ≤ B) (hB : B < 130 * sd + 130) (hsd : sd ≤ 1) : ∃ m2, mf_tellLaw_j67 m v1 v2 = some m2 ∧ gFsd sd m m2 ∧ gFm2 f p m2 := by
  have hn : gMb f p B (ms_sA m 34 (upd (m.2.1 34) B (vp_nar .boolean (0 : Int32)))) := h
  obtain ⟨m1, e1, f1, g1⟩ := m_term_bad hn (by omega)
  have ff : gFq B m m1 := (gFq.up (by decide) (fun i hi => upd_ne hi)).tr f1
  have fs : gFsq sd B m m1 := ff.fs
  refine ⟨m1, ?_, fs.sd hB0 hB, g1.1⟩
  unfold mf_tellLaw_j67
  rw [h.2, pu_in (k := B) rfl (by omega) (by omega), nI_clamp (by omega)]
  show (mf_term (ms_sA m 34 (upd (m.2.1 34) B (vp_nar .boolean (0 : Int32))))).bind _ = _
  rw [e1]
  show (mf_must m1 4).bind _ = _
  rw [m_must_bad g1.1]
  show (if m1.1 13 ≤ 0 then _ else some m1) = _
  rw [if_neg]
  rw [g1.1.2.2.1]
  exact gF12 g1.1.1 g1.1.2.1
theorem e_last {K P V : Nat → Nat} {W : Nat → Int64} {N sd t z c B k z0 B0 : Nat} {s : xs_S} {m : ms_S} (h : gLpp K P V W N sd t z c B s m) (hz : z ≤ t) (hB0 : 130 * sd ≤ B) (hB : B < 130 * sd + 120) (h19 : m.1 19 = nI sd) (hk : k < 4) : ∃ s2 m2, xf_6_tellLaw_j100 s (nI k) (nI z0) = some s2 ∧ mf_tellLaw_j67 m (nI k) (nI B0) = some m2 ∧ xsF xKei [21, 22] s s2 ∧ gFl sd m m2 ∧ ((∃ F t2, t + 2 ≤ t2 ∧ t + F.length + 1 ≤ t2 ∧ gLpp K P V W N sd t2 (z + F.length + 1) (c + F.length) (B + 1) s2 m2 ∧ gWfr 20 F 0 1 ∧ gArw z (F.map gCst ++ [nI 20005]) s s2 ∧ s2.2.1 22 = upd (s.2.1 22) k (nI z0) ∧ gBr2 (420 * sd) (c + F.length) false [] [] F B m2 ∧ gHc c B m m2 ∧ m2.2.1 31 = upd (m.2.1 31) (4 * sd + k) (nI B0) ∧ m2.2.1 32 = upd (m.2.1 32) (4 * sd + k) (nI (B + 1))) ∨ ∃ f p, gXb P N f p s2 ∧ gFm2 f p m2) := by
  have hsd : sd ≤ 1 := h.2.2.2.2.2.2.2.2
  have h33 := h.2.2.2.2.2.2.2.1
  generalize hn1 : ms_sA m 34 (upd (m.2.1 34) B 0) = n1
  have fn1 : gFq B m n1 := by
    rw [← hn1]
    exact gFq.up (by decide) (fun i hi => upd_ne hi)
  have ln1 : gLpp K P V W N sd t z c B s n1 := by rw [← hn1]; exact h
  obtain ⟨s1, m1, e1, em1, f1, fm1, q1, w7, w8, o1⟩ := e_term ln1 hz (by omega)
  have g1 : gFsq sd B n1 m1 := by
    refine ⟨fm1, fun j hj i hi => ?_, q1⟩
    have q : ∀ j, j ∈ [34, 35, 36, 37, 38] → j ∈ [34, 35, 36] ∨ j = 37 ∨ j = 38 := by decide
    rcases q j hj with q | rfl | rfl
    · rw [w7 j q]
    · exact (w8 i hi).1
    · exact (w8 i hi).2
  have fs1 : gFsq sd B m n1 := fn1.fs
  have gA : gFsq sd B m m1 := fs1.tr g1
  have gAd := gA.sd hB0 (by omega)
  have X1 : xf_6_tellLaw_j100 s (nI k) (nI z0) = (xf_6_take s1 23).bind (fun x => (xf_3_emit_20 x.2 20005).bind fun s_26 => bif mo_in (nI k) 4 then some (xs_sA s_26 22 (upd (s_26.2.1 22) (nI k).toNatClampNeg (nI z0))) else none) := by
    unfold xf_6_tellLaw_j100
    rw [e1]
    rfl
  have M1 : mf_tellLaw_j67 m (nI k) (nI B0) = (mf_must m1 4).bind fun s_22 => if (s_22.1 13) ≤ (0 : Int32) then (bif mo_in (((4 : Int32) * (s_22.1 19)) + nI k) 8 then (bif mo_in (((4 : Int32) * (s_22.1 19)) + nI k) 8 then some (ms_sA (ms_sA s_22 31 (upd (s_22.2.1 31) ((((4 : Int32) * (s_22.1 19)) + nI k)).toNatClampNeg (nI B0))) 32 (upd (s_22.2.1 32) ((((4 : Int32) * (s_22.1 19)) + nI k)).toNatClampNeg ((s_22.1 33)))) else none) else none) else some s_22 := by
    unfold mf_tellLaw_j67
    rw [h33, pu_in (k := B) rfl (by omega) (by omega), nI_clamp (by omega)]
    show (mf_term (ms_sA m 34 (upd (m.2.1 34) B 0))).bind _ = _
    rw [hn1, em1]
    rfl
  have xbad : ∀ {f p : Nat} {q : xs_S}, gXb P N f p q → ∃ s2, ((xf_3_emit_20 q 20005).bind fun s_26 => bif mo_in (nI k) 4 then some (xs_sA s_26 22 (upd (s_26.2.1 22) (nI k).toNatClampNeg (nI z0))) else none) = some s2 ∧ xsF xKei [21, 22] q s2 ∧ gXb P N f p s2 := by
    intro f p q g
    obtain ⟨s2, e2, f2, g2⟩ := x_emit_any (v := 20005) g.2.1
    have gg := g.mv f2 g2
    refine ⟨xs_sA s2 22 (upd (s2.2.1 22) k (nI z0)), ?_, (f2.wk (by decide) (by decide)).tr (xsF.sA (by decide)), gg⟩
    rw [e2]
    show (bif mo_in (nI k) 4 then some (xs_sA s2 22 (upd (s2.2.1 22) (nI k).toNatClampNeg (nI z0))) else none) = _
    rw [pu_in (k := k) rfl hk (by omega), nI_clamp (by omega)]
    rfl
  have mbad : ∀ {f p : Nat} {q : ms_S}, gFm2 f p q → (if (q.1 13) ≤ (0 : Int32) then (bif mo_in (((4 : Int32) * (q.1 19)) + nI k) 8 then (bif mo_in (((4 : Int32) * (q.1 19)) + nI k) 8 then some (ms_sA (ms_sA q 31 (upd (q.2.1 31) ((((4 : Int32) * (q.1 19)) + nI k)).toNatClampNeg (nI B0))) 32 (upd (q.2.1 32) ((((4 : Int32) * (q.1 19)) + nI k)).toNatClampNeg ((q.1 33)))) else none) else none) else some q) = some q := by
    intro f p q g
    rw [if_neg]
    rw [g.2.2.1]
    exact gF12 g.1 g.2.1
  rcases o1 with ⟨F, t1, u1, u2, u3, h1, u4, u5, u6, u7⟩ | ⟨f, p, gx, gm⟩
  rotate_left
  · obtain ⟨s2, a1, a2, a3⟩ := xbad gx
    refine ⟨s2, m1, ?_, ?_, (f1.wk (by decide) (by decide)).tr a2, gAd.fl, Or.inr ⟨f, p, a3, gm.1⟩⟩
    · rw [X1, x_take_bad gx.1]
      exact a1
    · rw [M1, m_must_bad gm.1]
      exact mbad gm.1
  obtain ⟨s2, m2, r2, e2, em2, f2, fm2, o2⟩ := l_take (k := 23) h1 (by omega) (by omega)
  have ht1 := h1.t4
  have gBd : gFsd sd m m2 := gAd.tr (gFsd.mu fm2)
  rcases o2 with ⟨-, h2⟩ | ⟨f, p, gx, gm⟩
  rotate_left
  · obtain ⟨s3, a1, a2, a3⟩ := xbad gx
    refine ⟨s3, m2, ?_, ?_, (f1.wk (by decide) (by decide)).tr ((f2.wk (by decide) (by decide)).tr a2), gBd.fl, Or.inr ⟨f, p, a3, gm.1⟩⟩
    · rw [X1, show (23 : Int32) = nI 23 from rfl, e2]
      exact a1
    · rw [M1, show (4 : Int32) = nI (gMk2 23) from rfl, em2]
      exact mbad gm.1
  obtain ⟨s3, e3, f3, g3⟩ := x_emitr (v := nI 20005) h2.2.2.1 (by omega)
  have i19 : m2.1 19 = nI sd := (fm2.i 19 (by decide)).trans ((fm1.i 19 (by decide)).trans (by rw [← hn1]; exact h19))
  have i33 : m2.1 33 = nI (B + 1) := h2.2.2.2.2.2.2.2.1
  have e4 : (4 : Int32) * nI sd + nI k = nI (4 * sd + k) := by rw [show (4 : Int32) * nI sd = nI (4 * sd) from pu_mul 4 sd, nI_add]
  generalize hs4 : xs_sA s3 22 (upd (s3.2.1 22) k (nI z0)) = s4
  generalize hm3 : ms_sA (ms_sA m2 31 (upd (m2.2.1 31) (4 * sd + k) (nI B0))) 32 (upd (m2.2.1 32) (4 * sd + k) (nI (B + 1))) = m3
  have fs4 : xsF xKei [21, 22] s3 s4 := by rw [← hs4]; exact xsF.sA (by decide)
  have f34 : xsF [321] [21, 22] s2 s4 := (f3.wk (by decide) (by decide)).tr (by rw [← hs4]; exact xsF.sA (by decide))
  have fm3 : msF [31, 32] m2 m3 := by rw [← hm3]; exact (msF.sA (by decide)).tr (msF.sA (by decide))
  have fl3 : gFl sd m2 m3 := by
    have q : ∀ j, j ∈ [34, 35, 36, 37, 38] → ¬ j ∈ [31, 32] := by decide
    refine ⟨fm3.wk (by decide), fun j hj i _ => by rw [fm3.a j (q j hj)], gCq.of fm3 (by decide) (by decide), fun j hj i hi => ?_⟩
    have q2 : ∀ j, j ∈ [31, 32] → j = 31 ∨ j = 32 := by decide
    have hne : ¬ i = 4 * sd + k := fun e => hi (by omega)
    rw [← hm3]
    rcases q2 j hj with rfl | rfl
    · exact upd_ne hne
    · exact upd_ne hne
  have r34 : m1.2.1 34 B = 0 := by
    rw [w7 34 (by decide), ← hn1]
    exact upd_eq
  refine ⟨s4, m3, ?_, ?_, (f1.wk (by decide) (by decide)).tr ((f2.wk (by decide) (by decide)).tr ((f3.wk (by decide) (by decide)).tr fs4)), gBd.fl.tr fl3, Or.inl ⟨F, t1 + 1, by omega, by omega, ?_, u3, ?_, ?_, ?_, ?_, ?_, ?_⟩⟩
  · rw [X1, show (23 : Int32) = nI 23 from rfl, e2]
    show (xf_3_emit_20 s2 (nI 20005)).bind (fun s_26 => bif mo_in (nI k) 4 then some (xs_sA s_26 22 (upd (s_26.2.1 22) (nI k).toNatClampNeg (nI z0))) else none) = _
    rw [e3]
    show (bif mo_in (nI k) 4 then some (xs_sA s3 22 (upd (s3.2.1 22) (nI k).toNatClampNeg (nI z0))) else none) = _
    rw [pu_in (k := k) rfl hk (by omega), nI_clamp (by omega), hs4]
    rfl
  · rw [M1, show mf_must m1 4 = some m2 from em2]
    show (if (m2.1 13) ≤ (0 : Int32) then _ else _) = _
    rw [if_pos (by rw [h2.2.1.2.2.2.2]; decide), i19, e4, i33, pu_in (k := 4 * sd + k) rfl (by omega) (by omega), nI_clamp (by omega), hm3]
    rfl
  · obtain ⟨a1, a2, a3, a4, a5, a6, a7, a8, a9⟩ := h2
    refine ⟨a1.mv (f34.1 21 (by decide)) (f34.2.1 3 (by decide)) (f34.2.1 4 (by decide)) (by rw [f34.2.2.1]) (fm3.a 5 (by decide)) (fm3.a 6 (by decide)) (fm3.a 7 (by decide)) (by rw [fm3.2]), ⟨a2.1, (f34.1 100 (by decide)).trans a2.2.1, (f34.1 101 (by decide)).trans a2.2.2.1, (fm3.i 11 (by decide)).trans a2.2.2.2.1, (fm3.i 13 (by decide)).trans a2.2.2.2.2⟩, ?_, (fm3.i 12 (by decide)).trans a4, (fm3.i 39 (by decide)).trans a5, a6, a7, (fm3.i 33 (by decide)).trans a8, a9⟩
    rw [← hs4]
    exact g3.1
  · have A2 : gArw (z + (F.map gCst).length) [nI 20005] s1 s3 := (g3.mv0 (by rw [f2.2.1 21 (by decide)])).len (by rw [gMapl])
    exact (u4.tr A2).mv (by rw [← hs4]; rfl) (by rw [← hs4]; rfl)
  · rw [← hs4]
    show upd (s3.2.1 22) k (nI z0) = _
    rw [f3.2.1 22 (by decide), f2.2.1 22 (by decide), f1.2.1 22 (by decide)]
  · have r : gBr2 (420 * sd) (c + F.length) false [] [] F B m1 := by
      exact ⟨c, h.2.2.2.2.2.1, (by simp), r34, (fun e => by cases e), u6, u7, (fun i x hx => by simp at hx), (fun i x hx => by simp at hx), u5.2.1⟩
    refine r.mv (Nat.le_refl _) (fun j hj => ?_) (fun j _ _ => ?_)
    · have q : ∀ j, j ∈ [34, 35, 36, 37, 38] → ¬ j ∈ [31, 32] ∧ ¬ j ∈ [11, 13, 14] := by decide
      rw [fm3.a j (q j hj).1, fm2.a j (q j hj).2]
    · rw [fm3.a 40 (by decide), fm2.a 40 (by decide), fm3.a 41 (by decide), fm2.a 41 (by decide)]
      exact ⟨rfl, rfl⟩
  · constructor
    · intro j hj i hi
      have q : ∀ j, j ∈ [34, 35, 36, 37, 38] → ¬ j ∈ [31, 32] ∧ ¬ j ∈ [11, 13, 14] := by decide
      rw [fm3.a j (q j hj).1, fm2.a j (q j hj).2]
      exact gA.2.1 j hj i (by omega)
    · intro j hj
      rw [fm3.a 40 (by decide), fm2.a 40 (by decide), fm3.a 41 (by decide), fm2.a 41 (by decide)]
      have := u5.2.2 j hj
      rw [← hn1] at this
      exact this
  · rw [← hm3]
    show upd (m2.2.1 31) (4 * sd + k) (nI B0) = _
    rw [fm2.a 31 (by decide), fm1.a 31 (by decide), ← hn1]
    rfl
  · rw [← hm3]
    show upd (m2.2.1 32) (4 * sd + k) (nI (B + 1)) = _
    rw [fm2.a 32 (by decide), fm1.a 32 (by decide), ← hn1]
    rfl
