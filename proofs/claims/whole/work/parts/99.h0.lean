/-! reading: a word -/
noncomputable def mWrd (s : ms_S) : Option ms_S :=
((mo_ag 2 (s.2.1 25) (s.1 19)).bind fun x_15 =>
((mf_roomFor s (x_15) ((6 : Int32))).bind fun s_16 =>
(if (s_16.1 13) ≤ (0 : Int32) then
((mf_named s_16 ).bind fun (v_18, s_18) =>
((mo_ag 2 (s_18.2.1 25) (s_18.1 19)).bind fun x_19 =>
((mf_bounded s_18 ((0 : Int32)) ((9 : Int32))).bind fun (v_20, s_20) =>
(bif mo_in (((6 : Int32) * (s_18.1 19)) + x_19) 12 then ((mf_endsName (ms_sA s_20 26 (upd (s_20.2.1 26) ((((6 : Int32) * (s_18.1 19)) + x_19)).toNatClampNeg (v_20))) (v_18) ((10 : Int32))).bind fun s_22 =>
(if (s_22.1 13) = (0 : Int32) then
((mo_ag 2 (s_22.2.1 25) (s_22.1 19)).bind fun x_24 =>
(bif mo_in (s_22.1 19) 2 then some (ms_sA s_22 25 (upd (s_22.2.1 25) ((s_22.1 19)).toNatClampNeg ((x_24 + (1 : Int32))))) else none))
else
some s_22)) else none))))
else
some s_16)))
noncomputable def xWp (s : xs_S) (nw : Nat) (x : Int64) (v : Int32) : xs_S := xs_sL (xs_sA (xs_sI s 276 (nI (nw + 1))) 19 (upd (s.2.1 19) nw v)) 8 (vp_updL (s.2.2.1 8) nw x)
theorem xWp_h {s : xs_S} {nw : Nat} {x : Int64} {v : Int32} : xsH [276] [19] [8] s (xWp s nw x v) := ⟨fun j hj => mm_up_ne (fun e => hj (by rw [e]; exact List.mem_cons_self ..)), fun j hj => mm_up_ne (fun e => hj (by rw [e]; exact List.mem_cons_self ..)), fun j hj => mm_up_ne (fun e => hj (by rw [e]; exact List.mem_cons_self ..)), rfl⟩
theorem xWp_e {s : xs_S} {nw : Nat} {x : Int64} {v : Int32} (h : s.1 276 = nI nw) (hn : nw < 6) : wO (bif mo_in (s.1 276) 6 then (bif mo_in (s.1 276) 6 then some (xs_sL (xs_sA (xs_sI s 276 (((s.1 276) + (1 : Int32)))) 19 (upd (s.2.1 19) ((s.1 276)).toNatClampNeg (v))) 8 (vp_updL (s.2.2.1 8) ((s.1 276)).toNatClampNeg (x))) else none) else none) (fun r => r = xWp s nw x v) := by
  rw [h]
  refine wO_in (k := nw) rfl hn (by omega) (wO_in (k := nw) rfl hn (by omega) (wO_some ?_))
  rw [nI_clamp (by omega), nI_1]
  rfl
/-- the reference's row of tongues written -/
noncomputable def mWp (m : ms_S) (k : Nat) (v : Int32) : ms_S := ms_sA m 26 (upd (m.2.1 26) k v)
theorem mWp_F {m : ms_S} {k : Nat} {v : Int32} : msF [26] m (mWp m k v) := msF.sA (List.mem_cons_self ..)
theorem mWp_q {m : ms_S} {sd nw : Nat} {v : Int32} (hn : nw < 6) : gSq sd m (mWp m (6 * sd + nw) v) := gSq.s26 (fun k hk => mm_up_ne hk) (fun i hi => by
  show upd (m.2.1 26) (6 * sd + nw) v i = _
  exact upd_ne (by omega))
theorem e_twrd {K P V : Nat → Nat} {W : Nat → Int64} {N t ns nw sd : Nat} {s : xs_S} {m : ms_S} (hT : gTok K P V W N s m) (hH : gHl N t s m) (hN : gNo P t s m) (hM : gNm ns nw s m) (hE : gEm1 s) (h19 : m.1 19 = nI sd) (hsd : sd ≤ 1) (hK : K t = 1) (h23 : m.2.1 25 sd = nI nw) : ∃ s2 m2, xf_6_tellWord s = some s2 ∧ mWrd m = some m2 ∧ xsH [100, 101, 103, 104, 276] [19] [8] s s2 ∧ msH [11, 13, 14, 15, 16, 20, 26] [11, 13, 14, 15, 16, 22, 25, 26] [21] m m2 ∧ gSq sd m m2 ∧ ((∃ t2 v, t < t2 ∧ gHl N t2 s2 m2 ∧ gNo P t2 s2 m2 ∧ gNm ns (nw + 1) s2 m2 ∧ nw < 6 ∧ m2.2.1 25 sd = nI (nw + 1) ∧ s2.2.1 19 = upd (s.2.1 19) nw (nI v) ∧ m2.2.1 26 = upd (m.2.1 26) (6 * sd + nw) (nI v) ∧ (m2.1 15 = 0 → m.1 15 = 0 ∧ v ≤ 9)) ∨ ∃ f p, gXb P N f p s2 ∧ gFm2 f p m2) := by
  have hN4 := hT.1
  obtain ⟨M1, M2, M3, M4, M5, -⟩ := id hM
  have h13 := hH.2.2.2.2
  by_cases c5 : nw = 6
  · subst c5
    obtain ⟨s2, x1, x2, x3⟩ := x_fail (K := K) (P := P) (V := V) (W := W) (f := 2) hH (by omega) (by omega)
    obtain ⟨m2, y1, y2, y3, -⟩ := m_fail (f := 2) hT hH (by omega) (by omega)
    refine ⟨s2, m2, wO_iff.mp ?_, wO_iff.mp ?_, x2.h (by decide) (by decide), y2.h (by decide) (by decide), y2.sq (by decide), Or.inr ⟨2, P t, gXb_of hT hE x2 x3, y3⟩⟩
    · unfold xf_6_tellWord
      exact wO_neg (by rw [M4]; decide) (wO_eq x1 (wO_some rfl))
    · unfold mWrd
      refine wO_agv (k := sd) h19 (by omega) (by omega) h23 (wO_eq (x := m2) (wO_iff.mp ?_) (wO_neg (gF1 y3) (wO_some rfl)))
      unfold mf_roomFor
      refine wO_pos rfl (wO_eq y1 ?_)
      unfold mf_roomFor_j6
      exact wO_neg (gF2 y3) (wO_some rfl)
  have hn5 : nw < 6 := by omega
  have e5 : (6 : Int32) * nI sd + nI nw = nI (6 * sd + nw) := by rw [show (6 : Int32) * nI sd = nI (6 * sd) from pu_mul 6 sd, nI_add]
  obtain ⟨s1, m1, r1, e1, em1, f1, fm1, o1⟩ := b_word (k := 1) hT hH (by omega) hK
  have F1 : xsF [100, 101, 103, 104] [] s s1 := f1.wk (by decide) (by decide)
  have G1 : msF [11, 13, 14, 15, 16] m m1 := fm1.wk (by decide)
  have hroom : mf_roomFor m (nI nw) 6 = some m1 := by
    refine wO_iff.mp ?_
    unfold mf_roomFor
    refine wO_neg (fun e => c5 ((nI_eq (b := 6) (by omega) (by omega)).mp e)) ?_
    unfold mf_roomFor_j6
    exact wO_pos h13 (wO_eq em1 (wO_some rfl))
  -- the class's end, from any state of it
  have Xe : ∀ (a b c : xs_S) (r2 : Int64) (r3 r4 : Int32), xf_6_takeNewName s1 = some (r2, a) → xf_6_takeInt a 0 9 = some (r3, b) → xf_6_take b 23 = some (r4, c) → c.1 276 = nI nw → xf_6_tellWord s = some (xWp c nw r2 r3) := by
    intro a b c r2 r3 r4 h1 h2 h3 h4
    refine wO_iff.mp ?_
    unfold xf_6_tellWord
    exact wO_pos (by rw [M4]; exact nI_lt (b := 6) hn5 (by omega)) (wO_eq e1 (wO_eq h1 (wO_eq h2 (wO_eq h3 (xWp_e h4 hn5)))))
  have Xh : ∀ (c : xs_S) (x : Int64) (v : Int32), xsF [100, 101, 103, 104] [] s c → xsH [100, 101, 103, 104, 276] [19] [8] s (xWp c nw x v) := fun c x v h => (h.h (by decide) (by decide)).tr (xWp_h.wk (by decide) (by decide) (by decide))
  have Xb : ∀ (c : xs_S) (x : Int64) (v : Int32) (f p : Nat), gXb P N f p c → gXb P N f p (xWp c nw x v) := fun c x v f p h => h.mh rfl rfl rfl rfl
  rcases o1 with h1 | ⟨f, o5, o6⟩
  rotate_left
  · have gx := gXb_of2 hT hE F1 o5
    obtain ⟨r2, q2⟩ := x_name_bad gx
    obtain ⟨r3, q3⟩ := x_int_bad (lo := 0) (hi := 9) gx
    refine ⟨xWp s1 nw r2 r3, m1, Xe s1 s1 s1 r2 r3 0 q2 q3 (x_take_bad gx.1 _) ((F1.1 276 (by decide)).trans M4), wO_iff.mp ?_, Xh _ _ _ F1, G1.h (by decide) (by decide), G1.sq (by decide), Or.inr ⟨f, P t, Xb _ _ _ _ _ gx, o6⟩⟩
    unfold mWrd
    exact wO_agv (k := sd) h19 (by omega) (by omega) h23 (wO_eq hroom (wO_neg (gF1 o6) (wO_some rfl)))
  have hT1 := hT.fr F1 G1
  have hlt := hT.lt h1.1
  have hN1 : gNo P (t + 1) s1 m1 := hN.mv (by omega) (f1.1 103 (by decide)) (f1.1 104 (by decide)) (fm1.i 15 (by decide)) (fm1.i 16 (by decide))
  have hM1 : gNm ns nw s1 m1 := hM.mv (f1.1 275 (by decide)) (f1.1 276 (by decide)) f1.2.2.1 (fm1.i 20 (by decide)) (fm1.a 22 (by decide)) fm1.2
  obtain ⟨s2, m2, r2, e2, em2, f2, fm2, o2⟩ := e_name hT1 h1 hN1 hM1
  have F2 : xsF [100, 101, 103, 104] [] s s2 := F1.tr f2
  have G2 : msF [11, 13, 14, 15, 16] m m2 := G1.tr fm2
  have i19 : m2.1 19 = nI sd := (G2.i 19 (by decide)).trans h19
  have i23 : m2.2.1 25 sd = nI nw := by rw [G2.a 25 (by decide)]; exact h23
  -- the reference's way, from any state of it
  have Me : ∀ (q : Int32) (n n2 n3 : ms_S), mf_bounded m2 0 9 = some (q, n) → mf_endsName (mWp n (6 * sd + nw) q) (nI (t + 1)) 10 = some n2 → (if (n2.1 13) = (0 : Int32) then ((mo_ag 2 (n2.2.1 25) (n2.1 19)).bind fun x_13 => (bif mo_in (n2.1 19) 2 then some (ms_sA n2 25 (upd (n2.2.1 25) ((n2.1 19)).toNatClampNeg ((x_13 + (1 : Int32))))) else none)) else some n2) = some n3 → mWrd m = some n3 := by
    intro q n n2 n3 k1 k4 k5
    refine wO_iff.mp ?_
    unfold mWrd
    refine wO_agv (k := sd) h19 (by omega) (by omega) h23 (wO_eq hroom (wO_pos (by rw [h1.2.2.2.2]; decide) (wO_eq em2 (wO_agv (k := sd) i19 (by omega) (by omega) i23 (wO_eq k1 ?_)))))
    rw [i19, e5]
    refine wO_in (k := 6 * sd + nw) rfl (by omega) (by omega) ?_
    rw [nI_clamp (by omega)]
    exact wO_eq k4 (wO_iff.mpr k5)
  have mH : ∀ (n : ms_S) (q : Int32), msF [11, 13, 14, 15, 16] m n → msH [11, 13, 14, 15, 16, 20, 26] [11, 13, 14, 15, 16, 22, 25, 26] [21] m (mWp n (6 * sd + nw) q) ∧ gSq sd m (mWp n (6 * sd + nw) q) := fun n q h => ⟨(h.h (by decide) (by decide)).tr (mWp_F.h (by decide) (by decide)), (h.sq (by decide)).tr (mWp_q hn5)⟩
  rcases o2 with ⟨u1, u2, u3, h2, u4⟩ | ⟨f, o5, o6⟩
  rotate_left
  · have gx := gXb_of2 hT hE F2 o5
    obtain ⟨r3, q3⟩ := x_int_bad (lo := 0) (hi := 9) gx
    have gm : gFm2 f (P (t + 1)) (mWp m2 (6 * sd + nw) 0) := o6
    refine ⟨xWp s2 nw r2 r3, mWp m2 (6 * sd + nw) 0, Xe s2 s2 s2 r2 r3 0 e2 q3 (x_take_bad gx.1 _) ((F2.1 276 (by decide)).trans M4), Me _ _ _ _ (m_bounded_bad o6) (m_ends_bad gm) (if_neg (gF2 gm)), Xh _ _ _ F2, (mH _ _ G2).1, (mH _ _ G2).2, Or.inr ⟨f, _, Xb _ _ _ _ _ gx, gm⟩⟩
  have hT2 := hT.fr F2 G2
  obtain ⟨s3, m3, r3, q3, e3, em3, f3, fm3, o3⟩ := e_int (lo := 0) (hi := 9) hT2 h2 u4 (by omega) (by omega)
  have F3 : xsF [100, 101, 103, 104] [] s s3 := F2.tr f3
  have G3 : msF [11, 13, 14, 15, 16] m m3 := G2.tr fm3
  have j19 : m3.1 19 = nI sd := (G3.i 19 (by decide)).trans h19
  have j23 : m3.2.1 25 sd = nI nw := by rw [G3.a 25 (by decide)]; exact h23
  rcases o3 with ⟨v, w1, w2, w3, h3, w4, w5⟩ | ⟨f, o5, o6⟩
  rotate_left
  · have gx := gXb_of2 hT hE F3 o5
    have gm : gFm2 f (P (t + 1 + 1)) (mWp m3 (6 * sd + nw) q3) := o6
    refine ⟨xWp s3 nw r2 r3, mWp m3 (6 * sd + nw) q3, Xe s2 s3 s3 r2 r3 0 e2 e3 (x_take_bad gx.1 _) ((F3.1 276 (by decide)).trans M4), Me _ _ _ _ em3 (m_ends_bad gm) (if_neg (gF2 gm)), Xh _ _ _ F3, (mH _ _ G3).1, (mH _ _ G3).2, Or.inr ⟨f, _, Xb _ _ _ _ _ gx, gm⟩⟩
  subst w1 w2
  have hT3 : gTok K P V W N s3 (mWp m3 (6 * sd + nw) (nI v)) := (hT.fr F3 G3).mv rfl rfl rfl rfl rfl rfl rfl rfl
  have h3n : gHl N (t + 1 + 1 + 1) s3 (mWp m3 (6 * sd + nw) (nI v)) := h3
  obtain ⟨s4, m4, e4, f4, fm4, o4⟩ := b_take (k := 23) hT3 h3n (by omega)
  have em4 : mf_must (mWp m3 (6 * sd + nw) (nI v)) 4 = some m4 := e4
  have F4 : xsF [100, 101, 103, 104] [] s s4 := F3.tr (f4.wk (by decide) (by decide))
  have H4 : msH [11, 13, 14, 15, 16, 20, 26] [11, 13, 14, 15, 16, 22, 25, 26] [21] m m4 := (mH _ _ G3).1.tr (fm4.h (by decide) (by decide))
  have Q4 : gSq sd m m4 := (mH _ _ G3).2.tr (fm4.sq (by decide))
  rcases o4 with ⟨-, -, x4, h4⟩ | ⟨x4, -, f, o5, o6⟩
  rotate_left
  · have gx := gXb_of2 hT hE F4 o5
    refine ⟨xWp s4 nw r2 (nI v), m4, Xe s2 s3 s4 r2 _ 0 e2 e3 x4 ((F4.1 276 (by decide)).trans M4), Me _ _ _ _ em3 ?_ (if_neg (gF2 o6)), Xh _ _ _ F4, H4, Q4, Or.inr ⟨f, _, Xb _ _ _ _ _ gx, o6⟩⟩
    refine wO_iff.mp ?_
    unfold mf_endsName
    exact wO_eq em4 (wO_neg (gF1 o6) (wO_some rfl))
  have k19 : m4.1 19 = nI sd := (H4.1 19 (by decide)).trans h19
  have k23 : m4.2.1 25 sd = nI nw := by rw [fm4.a 25 (by decide)]; exact j23
  have k20 : m4.1 20 = nI (ns + nw) := by
    rw [fm4.i 20 (by decide)]
    exact (G3.i 20 (by decide)).trans M5
  have k8 : m4.2.2 8 (t + 1) = W (t + 1) := by
    rw [fm4.2, show (mWp m3 (6 * sd + nw) (nI v)).2.2 = m3.2.2 from rfl, fm3.2]
    exact u3
  obtain ⟨m5, y1, y2, y3, y4, y5⟩ := m_endsName (K := K) (P := P) (V := V) (W := W) (N := N) (t := t) (s := s) (j := 25) (ns := nw) (a := nI 10) h4.2.2.2.2 em4 (by have := h1.1; omega) k8 k20 (by omega) (Or.inr rfl) hsd k19 k23
  have q4 : (mWp m3 (6 * sd + nw) (nI v)).1 15 = m3.1 15 := rfl
  have z4 : q15 m m4 := fun e => by
    have a1 : m3.1 15 = 0 := (fm4.i 15 (by decide)).symm.trans e
    have a2 : m2.1 15 = 0 := q15_bounded _ em3 a1
    have a3 : m1.1 15 = 0 := q15_named _ em2 a2
    exact (fm1.i 15 (by decide)).symm.trans a3
  have hlt4 : P (t + 1 + 1 + 1) < P (t + 1 + 1 + 1 + 1) := hT3.lt h4.1
  refine ⟨xWp s4 nw r2 (nI v), mNa m4 25 (ns + nw) sd (W (t + 1)) (nI 10) (nI (nw + 1)), Xe s2 s3 s4 r2 _ 1 e2 e3 x4 ((F4.1 276 (by decide)).trans M4), Me _ _ _ _ em3 y1 ?_, Xh _ _ _ F4, H4.tr (mNa_h.wk (by decide) (by decide) (by decide)), Q4.tr (mNa_q (by decide)), Or.inl ⟨t + 1 + 1 + 1 + 1, v, by omega, h4, ?_, ?_, hn5, ?_, ?_, ?_, fun e => ⟨z4 e, (w5 ((fm4.i 15 (by decide)).symm.trans e)).2⟩⟩⟩
  · rw [if_pos y2]
    refine wO_iff.mp (wO_agv (k := sd) y3 (by omega) (by omega) y4 ?_)
    rw [y3]
    refine wO_in (k := sd) rfl (by omega) (by omega) (wO_some ?_)
    rw [nI_clamp (by omega), nI_1]
    exact y5
  · exact w4.mv (Nat.le_of_lt hlt4) (f4.1 103 (by decide)) (f4.1 104 (by decide)) (fm4.i 15 (by decide)) (fm4.i 16 (by decide))
  · refine gNm.wrd (x := W (t + 1)) (hM.mv (s := s) (m := m) (t := s4) (n := m4) (F4.1 275 (by decide)) (F4.1 276 (by decide)) F4.2.2.1 (k20.trans M5.symm) ?_ ?_) hn5 rfl rfl ?_ rfl rfl rfl rfl
    · rw [fm4.a 22 (by decide)]
      exact G3.a 22 (by decide)
    · rw [fm4.2]
      exact G3.2
    · rw [u2]
      rfl
  · show upd (m4.2.1 25) sd _ sd = _
    exact upd_eq
  · show upd (s4.2.1 19) nw (nI v) = _
    rw [F4.2.1 19 (by decide)]
  · show m4.2.1 26 = _
    rw [fm4.a 26 (by decide)]
    show upd (m3.2.1 26) (6 * sd + nw) (nI v) = _
    rw [G3.a 26 (by decide)]
