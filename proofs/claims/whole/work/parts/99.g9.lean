/-! reading: a speaker -/
noncomputable def mSpk (s : ms_S) : Option ms_S :=
((mo_ag 2 (s.2.1 23) (s.1 19)).bind fun x_3 =>
((mf_roomFor s (x_3) ((5 : Int32))).bind fun s_4 =>
(if (s_4.1 13) ≤ (0 : Int32) then
((mf_named s_4 ).bind fun (v_6, s_6) =>
((mo_ag 2 (s_6.2.1 23) (s_6.1 19)).bind fun x_7 =>
((mf_bounded s_6 ((0 : Int32)) ((9 : Int32))).bind fun (v_8, s_8) =>
(bif mo_in (((5 : Int32) * (s_6.1 19)) + x_7) 10 then ((mo_ag 2 (s_8.2.1 23) (s_8.1 19)).bind fun x_10 =>
((mf_endsName (ms_sA s_8 24 (upd (s_8.2.1 24) ((((5 : Int32) * (s_6.1 19)) + x_7)).toNatClampNeg (v_8))) (v_6) (x_10)).bind fun s_11 =>
(if (s_11.1 13) = (0 : Int32) then
((mo_ag 2 (s_11.2.1 23) (s_11.1 19)).bind fun x_13 =>
(bif mo_in (s_11.1 19) 2 then some (ms_sA s_11 23 (upd (s_11.2.1 23) ((s_11.1 19)).toNatClampNeg ((x_13 + (1 : Int32))))) else none))
else
some s_11))) else none))))
else
some s_4)))
noncomputable def xSp (s : xs_S) (ns : Nat) (x : Int64) (v : Int32) : xs_S := xs_sL (xs_sA (xs_sI s 275 (nI (ns + 1))) 18 (upd (s.2.1 18) ns v)) 7 (vp_updL (s.2.2.1 7) ns x)
theorem xSp_h {s : xs_S} {ns : Nat} {x : Int64} {v : Int32} : xsH [275] [18] [7] s (xSp s ns x v) := ⟨fun j hj => mm_up_ne (fun e => hj (by rw [e]; exact List.mem_cons_self ..)), fun j hj => mm_up_ne (fun e => hj (by rw [e]; exact List.mem_cons_self ..)), fun j hj => mm_up_ne (fun e => hj (by rw [e]; exact List.mem_cons_self ..)), rfl⟩
theorem xSp_e {s : xs_S} {ns : Nat} {x : Int64} {v : Int32} (h : s.1 275 = nI ns) (hn : ns < 5) : wO (bif mo_in (s.1 275) 5 then (bif mo_in (s.1 275) 5 then some (xs_sL (xs_sA (xs_sI s 275 (((s.1 275) + (1 : Int32)))) 18 (upd (s.2.1 18) ((s.1 275)).toNatClampNeg (v))) 7 (vp_updL (s.2.2.1 7) ((s.1 275)).toNatClampNeg (x))) else none) else none) (fun r => r = xSp s ns x v) := by
  rw [h]
  refine wO_in (k := ns) rfl hn (by omega) (wO_in (k := ns) rfl hn (by omega) (wO_some ?_))
  rw [nI_clamp (by omega), nI_1]
  rfl
/-- the reference's row of tongues written -/
noncomputable def mSp (m : ms_S) (k : Nat) (v : Int32) : ms_S := ms_sA m 24 (upd (m.2.1 24) k v)
theorem mSp_F {m : ms_S} {k : Nat} {v : Int32} : msF [24] m (mSp m k v) := msF.sA (List.mem_cons_self ..)
theorem mSp_q {m : ms_S} {sd ns : Nat} {v : Int32} (hn : ns < 5) : gSq sd m (mSp m (5 * sd + ns) v) := gSq.s24 (fun k hk => mm_up_ne hk) (fun i hi => by
  show upd (m.2.1 24) (5 * sd + ns) v i = _
  exact upd_ne (by omega))
/-- and a name put down -/
noncomputable def mNa (m : ms_S) (j k sd : Nat) (x : Int64) (a b : Int32) : ms_S := ms_sA (ms_sL (ms_sA (ms_sI m 20 (nI (k + 1))) 22 (upd (m.2.1 22) k a)) 21 (vp_updL (m.2.2 21) k x)) j (upd (m.2.1 j) sd b)
theorem mNa_h {m : ms_S} {j k sd : Nat} {x : Int64} {a b : Int32} : msH [20] [22, j] [21] m (mNa m j k sd x a b) := ⟨fun i hi => mm_up_ne (fun e => hi (by rw [e]; exact List.mem_cons_self ..)), fun i hi => by
  show mm_up (mm_up m.2.1 22 _) j _ i = m.2.1 i
  rw [mm_up_ne (fun e => hi (by rw [e]; exact List.mem_cons_of_mem _ (List.mem_cons_self ..))), mm_up_ne (fun e => hi (by rw [e]; exact List.mem_cons_self ..))], fun i hi => mm_up_ne (fun e => hi (by rw [e]; exact List.mem_cons_self ..))⟩
theorem mNa_q {m : ms_S} {j k sd : Nat} {x : Int64} {a b : Int32} (hj : j ∈ [23, 25, 27, 28, 29, 30]) : gSq sd m (mNa m j k sd x a b) := by
  refine gSq.tr (n := ms_sA m 22 (upd (m.2.1 22) k a)) (gSq.fr (fun i hi => mm_up_ne (fun e => by subst e; exact absurd hi (by decide)))) (gSq.s1 hj (fun i hi => ?_) (fun i hi => ?_))
  · show mm_up (mm_up m.2.1 22 _) j _ i = mm_up m.2.1 22 _ i
    rw [mm_up_ne hi]
  · show mm_up (mm_up m.2.1 22 _) j (upd (m.2.1 j) sd b) j i = mm_up m.2.1 22 _ j i
    have e : ¬ j = 22 := fun e => by subst e; exact absurd hj (by decide)
    rw [mm_up_eq, upd_ne hi, mm_up_ne e]
theorem gXb.mh {P : Nat → Nat} {N f p : Nat} {s t : xs_S} (h : gXb P N f p s) (h1 : t.1 100 = s.1 100) (h2 : t.1 101 = s.1 101) (h3 : t.1 321 = s.1 321) (h4 : t.1 21 = s.1 21) : gXb P N f p t := by
  obtain ⟨⟨a1, a2, a3, u, u1, u2, u3⟩, ⟨z, z1, z2⟩, C, c1, c2, c3⟩ := h
  exact ⟨⟨a1, a2, h2.trans a3, u, u1, h1.trans u2, u3⟩, ⟨z, z1, h3.trans z2⟩, C, c1, c2, h4.trans c3⟩
/-- the end of a name told -/
theorem m_endsName {K P V : Nat → Nat} {W : Nat → Int64} {N t u sd j ns nn : Nat} {s : xs_S} {m m2 : ms_S} {x : Int64} {a : Int32} (h13 : m2.1 13 = 0) (hm : mf_must m 4 = some m2) (hu : u ≤ 400) (hw : m2.2.2 8 u = x) (h20 : m2.1 20 = nI nn) (hn : nn < 11) (hj : j = 23 ∨ j = 25) (hsd : sd ≤ 1) (h19 : m2.1 19 = nI sd) (hr : m2.2.1 j sd = nI ns) : ∃ m3, mf_endsName m (nI u) a = some m3 ∧ m3.1 13 = 0 ∧ m3.1 19 = nI sd ∧ m3.2.1 j sd = nI ns ∧ ms_sA m3 j (upd (m3.2.1 j) sd (nI (ns + 1))) = mNa m2 j nn sd x a (nI (ns + 1)) := by
  refine ⟨ms_sL (ms_sA (ms_sI m2 20 (nI (nn + 1))) 22 (upd (m2.2.1 22) nn a)) 21 (vp_updL (m2.2.2 21) nn x), wO_iff.mp ?_, h13, h19, ?_, ?_⟩
  · unfold mf_endsName
    refine wO_eq hm (wO_pos (by rw [h13]; decide) (wO_eq (x := x) ?_ ?_))
    · rw [pu_al (k := u) rfl (by omega) (by omega), hw]
    · rw [h20]
      refine wO_in (k := nn) rfl hn (by omega) (wO_in (k := nn) rfl hn (by omega) (wO_some ?_))
      rw [nI_clamp (by omega), nI_1]
  · rcases hj with rfl | rfl
    · exact hr
    · exact hr
  · rcases hj with rfl | rfl
    · rfl
    · rfl
theorem e_tspk {K P V : Nat → Nat} {W : Nat → Int64} {N t ns nw sd : Nat} {s : xs_S} {m : ms_S} (hT : gTok K P V W N s m) (hH : gHl N t s m) (hN : gNo P t s m) (hM : gNm ns nw s m) (hE : gEm1 s) (h19 : m.1 19 = nI sd) (hsd : sd ≤ 1) (hK : K t = 0) (h23 : m.2.1 23 sd = nI ns) : ∃ s2 m2, xf_6_tellSpeaker s = some s2 ∧ mSpk m = some m2 ∧ xsH [100, 101, 103, 104, 275] [18] [7] s s2 ∧ msH [11, 13, 14, 15, 16, 20, 24] [11, 13, 14, 15, 16, 22, 23, 24] [21] m m2 ∧ gSq sd m m2 ∧ ((∃ t2 v, t < t2 ∧ gHl N t2 s2 m2 ∧ gNo P t2 s2 m2 ∧ gNm (ns + 1) nw s2 m2 ∧ ns < 5 ∧ m2.2.1 23 sd = nI (ns + 1) ∧ s2.2.1 18 = upd (s.2.1 18) ns (nI v) ∧ m2.2.1 24 = upd (m.2.1 24) (5 * sd + ns) (nI v) ∧ (m2.1 15 = 0 → m.1 15 = 0 ∧ v ≤ 9)) ∨ ∃ f p, gXb P N f p s2 ∧ gFm2 f p m2) := by
  have hN4 := hT.1
  obtain ⟨M1, M2, M3, M4, M5, -⟩ := id hM
  have h13 := hH.2.2.2.2
  by_cases c5 : ns = 5
  · subst c5
    obtain ⟨s2, x1, x2, x3⟩ := x_fail (K := K) (P := P) (V := V) (W := W) (f := 2) hH (by omega) (by omega)
    obtain ⟨m2, y1, y2, y3, -⟩ := m_fail (f := 2) hT hH (by omega) (by omega)
    refine ⟨s2, m2, wO_iff.mp ?_, wO_iff.mp ?_, x2.h (by decide) (by decide), y2.h (by decide) (by decide), y2.sq (by decide), Or.inr ⟨2, P t, gXb_of hT hE x2 x3, y3⟩⟩
    · unfold xf_6_tellSpeaker
      exact wO_neg (by rw [M3]; decide) (wO_eq x1 (wO_some rfl))
    · unfold mSpk
      refine wO_agv (k := sd) h19 (by omega) (by omega) h23 (wO_eq (x := m2) (wO_iff.mp ?_) (wO_neg (gF1 y3) (wO_some rfl)))
      unfold mf_roomFor
      refine wO_pos rfl (wO_eq y1 ?_)
      unfold mf_roomFor_j6
      exact wO_neg (gF2 y3) (wO_some rfl)
  have hn5 : ns < 5 := by omega
  have e5 : (5 : Int32) * nI sd + nI ns = nI (5 * sd + ns) := by rw [show (5 : Int32) * nI sd = nI (5 * sd) from pu_mul 5 sd, nI_add]
  obtain ⟨s1, m1, r1, e1, em1, f1, fm1, o1⟩ := b_word (k := 0) hT hH (by omega) hK
  have F1 : xsF [100, 101, 103, 104] [] s s1 := f1.wk (by decide) (by decide)
  have G1 : msF [11, 13, 14, 15, 16] m m1 := fm1.wk (by decide)
  have hroom : mf_roomFor m (nI ns) 5 = some m1 := by
    refine wO_iff.mp ?_
    unfold mf_roomFor
    refine wO_neg (fun e => c5 ((nI_eq (b := 5) (by omega) (by omega)).mp e)) ?_
    unfold mf_roomFor_j6
    exact wO_pos h13 (wO_eq em1 (wO_some rfl))
  -- the class's end, from any state of it
  have Xe : ∀ (a b c : xs_S) (r2 : Int64) (r3 r4 : Int32), xf_6_takeNewName s1 = some (r2, a) → xf_6_takeInt a 0 9 = some (r3, b) → xf_6_take b 23 = some (r4, c) → c.1 275 = nI ns → xf_6_tellSpeaker s = some (xSp c ns r2 r3) := by
    intro a b c r2 r3 r4 h1 h2 h3 h4
    refine wO_iff.mp ?_
    unfold xf_6_tellSpeaker
    exact wO_pos (by rw [M3]; exact nI_lt (b := 5) hn5 (by omega)) (wO_eq e1 (wO_eq h1 (wO_eq h2 (wO_eq h3 (xSp_e h4 hn5)))))
  have Xh : ∀ (c : xs_S) (x : Int64) (v : Int32), xsF [100, 101, 103, 104] [] s c → xsH [100, 101, 103, 104, 275] [18] [7] s (xSp c ns x v) := fun c x v h => (h.h (by decide) (by decide)).tr (xSp_h.wk (by decide) (by decide) (by decide))
  have Xb : ∀ (c : xs_S) (x : Int64) (v : Int32) (f p : Nat), gXb P N f p c → gXb P N f p (xSp c ns x v) := fun c x v f p h => h.mh rfl rfl rfl rfl
  rcases o1 with h1 | ⟨f, o5, o6⟩
  rotate_left
  · have gx := gXb_of2 hT hE F1 o5
    obtain ⟨r2, q2⟩ := x_name_bad gx
    obtain ⟨r3, q3⟩ := x_int_bad (lo := 0) (hi := 9) gx
    refine ⟨xSp s1 ns r2 r3, m1, Xe s1 s1 s1 r2 r3 0 q2 q3 (x_take_bad gx.1 _) ((F1.1 275 (by decide)).trans M3), wO_iff.mp ?_, Xh _ _ _ F1, G1.h (by decide) (by decide), G1.sq (by decide), Or.inr ⟨f, P t, Xb _ _ _ _ _ gx, o6⟩⟩
    unfold mSpk
    exact wO_agv (k := sd) h19 (by omega) (by omega) h23 (wO_eq hroom (wO_neg (gF1 o6) (wO_some rfl)))
  have hT1 := hT.fr F1 G1
  have hlt := hT.lt h1.1
  have hN1 : gNo P (t + 1) s1 m1 := hN.mv (by omega) (f1.1 103 (by decide)) (f1.1 104 (by decide)) (fm1.i 15 (by decide)) (fm1.i 16 (by decide))
  have hM1 : gNm ns nw s1 m1 := hM.mv (f1.1 275 (by decide)) (f1.1 276 (by decide)) f1.2.2.1 (fm1.i 20 (by decide)) (fm1.a 22 (by decide)) fm1.2
  obtain ⟨s2, m2, r2, e2, em2, f2, fm2, o2⟩ := e_name hT1 h1 hN1 hM1
  have F2 : xsF [100, 101, 103, 104] [] s s2 := F1.tr f2
  have G2 : msF [11, 13, 14, 15, 16] m m2 := G1.tr fm2
  have i19 : m2.1 19 = nI sd := (G2.i 19 (by decide)).trans h19
  have i23 : m2.2.1 23 sd = nI ns := by rw [G2.a 23 (by decide)]; exact h23
  -- the reference's way, from any state of it
  have Me : ∀ (q : Int32) (n n2 n3 : ms_S), mf_bounded m2 0 9 = some (q, n) → n.1 19 = nI sd → n.2.1 23 sd = nI ns → mf_endsName (mSp n (5 * sd + ns) q) (nI (t + 1)) (nI ns) = some n2 → (if (n2.1 13) = (0 : Int32) then ((mo_ag 2 (n2.2.1 23) (n2.1 19)).bind fun x_13 => (bif mo_in (n2.1 19) 2 then some (ms_sA n2 23 (upd (n2.2.1 23) ((n2.1 19)).toNatClampNeg ((x_13 + (1 : Int32))))) else none)) else some n2) = some n3 → mSpk m = some n3 := by
    intro q n n2 n3 k1 k2 k3 k4 k5
    refine wO_iff.mp ?_
    unfold mSpk
    refine wO_agv (k := sd) h19 (by omega) (by omega) h23 (wO_eq hroom (wO_pos (by rw [h1.2.2.2.2]; decide) (wO_eq em2 (wO_agv (k := sd) i19 (by omega) (by omega) i23 (wO_eq k1 ?_)))))
    rw [i19, e5]
    refine wO_in (k := 5 * sd + ns) rfl (by omega) (by omega) (wO_agv (k := sd) k2 (by omega) (by omega) k3 ?_)
    rw [nI_clamp (by omega)]
    exact wO_eq k4 (wO_iff.mpr k5)
  have mH : ∀ (n : ms_S) (q : Int32), msF [11, 13, 14, 15, 16] m n → msH [11, 13, 14, 15, 16, 20, 24] [11, 13, 14, 15, 16, 22, 23, 24] [21] m (mSp n (5 * sd + ns) q) ∧ gSq sd m (mSp n (5 * sd + ns) q) := fun n q h => ⟨(h.h (by decide) (by decide)).tr (mSp_F.h (by decide) (by decide)), (h.sq (by decide)).tr (mSp_q hn5)⟩
  rcases o2 with ⟨u1, u2, u3, h2, u4⟩ | ⟨f, o5, o6⟩
  rotate_left
  · have gx := gXb_of2 hT hE F2 o5
    obtain ⟨r3, q3⟩ := x_int_bad (lo := 0) (hi := 9) gx
    have gm : gFm2 f (P (t + 1)) (mSp m2 (5 * sd + ns) 0) := o6
    refine ⟨xSp s2 ns r2 r3, mSp m2 (5 * sd + ns) 0, Xe s2 s2 s2 r2 r3 0 e2 q3 (x_take_bad gx.1 _) ((F2.1 275 (by decide)).trans M3), Me _ _ _ _ (m_bounded_bad o6) i19 i23 (m_ends_bad gm) (if_neg (gF2 gm)), Xh _ _ _ F2, (mH _ _ G2).1, (mH _ _ G2).2, Or.inr ⟨f, _, Xb _ _ _ _ _ gx, gm⟩⟩
  have hT2 := hT.fr F2 G2
  obtain ⟨s3, m3, r3, q3, e3, em3, f3, fm3, o3⟩ := e_int (lo := 0) (hi := 9) hT2 h2 u4 (by omega) (by omega)
  have F3 : xsF [100, 101, 103, 104] [] s s3 := F2.tr f3
  have G3 : msF [11, 13, 14, 15, 16] m m3 := G2.tr fm3
  have j19 : m3.1 19 = nI sd := (G3.i 19 (by decide)).trans h19
  have j23 : m3.2.1 23 sd = nI ns := by rw [G3.a 23 (by decide)]; exact h23
  rcases o3 with ⟨v, w1, w2, w3, h3, w4, w5⟩ | ⟨f, o5, o6⟩
  rotate_left
  · have gx := gXb_of2 hT hE F3 o5
    have gm : gFm2 f (P (t + 1 + 1)) (mSp m3 (5 * sd + ns) q3) := o6
    refine ⟨xSp s3 ns r2 r3, mSp m3 (5 * sd + ns) q3, Xe s2 s3 s3 r2 r3 0 e2 e3 (x_take_bad gx.1 _) ((F3.1 275 (by decide)).trans M3), Me _ _ _ _ em3 j19 j23 (m_ends_bad gm) (if_neg (gF2 gm)), Xh _ _ _ F3, (mH _ _ G3).1, (mH _ _ G3).2, Or.inr ⟨f, _, Xb _ _ _ _ _ gx, gm⟩⟩
  subst w1 w2
  have hT3 : gTok K P V W N s3 (mSp m3 (5 * sd + ns) (nI v)) := (hT.fr F3 G3).mv rfl rfl rfl rfl rfl rfl rfl rfl
  have h3n : gHl N (t + 1 + 1 + 1) s3 (mSp m3 (5 * sd + ns) (nI v)) := h3
  obtain ⟨s4, m4, e4, f4, fm4, o4⟩ := b_take (k := 23) hT3 h3n (by omega)
  have em4 : mf_must (mSp m3 (5 * sd + ns) (nI v)) 4 = some m4 := e4
  have F4 : xsF [100, 101, 103, 104] [] s s4 := F3.tr (f4.wk (by decide) (by decide))
  have H4 : msH [11, 13, 14, 15, 16, 20, 24] [11, 13, 14, 15, 16, 22, 23, 24] [21] m m4 := (mH _ _ G3).1.tr (fm4.h (by decide) (by decide))
  have Q4 : gSq sd m m4 := (mH _ _ G3).2.tr (fm4.sq (by decide))
  rcases o4 with ⟨-, -, x4, h4⟩ | ⟨x4, -, f, o5, o6⟩
  rotate_left
  · have gx := gXb_of2 hT hE F4 o5
    refine ⟨xSp s4 ns r2 (nI v), m4, Xe s2 s3 s4 r2 _ 0 e2 e3 x4 ((F4.1 275 (by decide)).trans M3), Me _ _ _ _ em3 j19 j23 ?_ (if_neg (gF2 o6)), Xh _ _ _ F4, H4, Q4, Or.inr ⟨f, _, Xb _ _ _ _ _ gx, o6⟩⟩
    refine wO_iff.mp ?_
    unfold mf_endsName
    exact wO_eq em4 (wO_neg (gF1 o6) (wO_some rfl))
  have k19 : m4.1 19 = nI sd := (H4.1 19 (by decide)).trans h19
  have k23 : m4.2.1 23 sd = nI ns := by rw [fm4.a 23 (by decide)]; exact j23
  have k20 : m4.1 20 = nI (ns + nw) := by
    rw [fm4.i 20 (by decide)]
    exact (G3.i 20 (by decide)).trans M5
  have k8 : m4.2.2 8 (t + 1) = W (t + 1) := by
    rw [fm4.2, show (mSp m3 (5 * sd + ns) (nI v)).2.2 = m3.2.2 from rfl, fm3.2]
    exact u3
  obtain ⟨m5, y1, y2, y3, y4, y5⟩ := m_endsName (K := K) (P := P) (V := V) (W := W) (N := N) (t := t) (s := s) (j := 23) (ns := ns) (a := nI ns) h4.2.2.2.2 em4 (by have := h1.1; omega) k8 k20 (by omega) (Or.inl rfl) hsd k19 k23
  have q4 : (mSp m3 (5 * sd + ns) (nI v)).1 15 = m3.1 15 := rfl
  have z4 : q15 m m4 := fun e => by
    have a1 : m3.1 15 = 0 := (fm4.i 15 (by decide)).symm.trans e
    have a2 : m2.1 15 = 0 := q15_bounded _ em3 a1
    have a3 : m1.1 15 = 0 := q15_named _ em2 a2
    exact (fm1.i 15 (by decide)).symm.trans a3
  have hlt4 : P (t + 1 + 1 + 1) < P (t + 1 + 1 + 1 + 1) := hT3.lt h4.1
  refine ⟨xSp s4 ns r2 (nI v), mNa m4 23 (ns + nw) sd (W (t + 1)) (nI ns) (nI (ns + 1)), Xe s2 s3 s4 r2 _ 1 e2 e3 x4 ((F4.1 275 (by decide)).trans M3), Me _ _ _ _ em3 j19 j23 y1 ?_, Xh _ _ _ F4, H4.tr (mNa_h.wk (by decide) (by decide) (by decide)), Q4.tr (mNa_q (by decide)), Or.inl ⟨t + 1 + 1 + 1 + 1, v, by omega, h4, ?_, ?_, hn5, ?_, ?_, ?_, fun e => ⟨z4 e, (w5 ((fm4.i 15 (by decide)).symm.trans e)).2⟩⟩⟩
  · rw [if_pos y2]
    refine wO_iff.mp (wO_agv (k := sd) y3 (by omega) (by omega) y4 ?_)
    rw [y3]
    refine wO_in (k := sd) rfl (by omega) (by omega) (wO_some ?_)
    rw [nI_clamp (by omega), nI_1]
    exact y5
  · exact w4.mv (Nat.le_of_lt hlt4) (f4.1 103 (by decide)) (f4.1 104 (by decide)) (fm4.i 15 (by decide)) (fm4.i 16 (by decide))
  · refine gNm.spk (x := W (t + 1)) (hM.mv (s := s) (m := m) (t := s4) (n := m4) (F4.1 275 (by decide)) (F4.1 276 (by decide)) F4.2.2.1 (k20.trans M5.symm) ?_ ?_) hn5 rfl rfl ?_ rfl rfl rfl rfl
    · rw [fm4.a 22 (by decide)]
      exact G3.a 22 (by decide)
    · rw [fm4.2]
      exact G3.2
    · rw [u2]
      rfl
  · show upd (m4.2.1 23) sd _ sd = _
    exact upd_eq
  · show upd (s4.2.1 18) ns (nI v) = _
    rw [F4.2.1 18 (by decide)]
  · show m4.2.1 24 = _
    rw [fm4.a 24 (by decide)]
    show upd (m3.2.1 24) (5 * sd + ns) (nI v) = _
    rw [G3.a 24 (by decide)]
