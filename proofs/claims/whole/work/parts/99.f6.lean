/-! reading: a law, and the four laws -/
def gMLb (sd c B i : Nat) (o : Option gLd) (s : ms_S) : Prop := match o with
  | none => s.2.1 31 (4 * sd + i) = s.2.1 32 (4 * sd + i)
  | some d => ∃ b, 130 * sd ≤ b ∧ b + d.1.length + 1 ≤ B ∧ s.2.1 31 (4 * sd + i) = nI b ∧ s.2.1 32 (4 * sd + i) = nI (b + d.1.length + 1) ∧ gBs2 (420 * sd) c d.1 b s ∧ gBr2 (420 * sd) c false [] [] d.2 (b + d.1.length) s ∧ gLwf 20 d.1 d.2
theorem gMLb.mv {sd c B c2 B2 i : Nat} {o : Option gLd} {s n : ms_S} (h : gMLb sd c B i o s) (hc : c ≤ c2) (hB : B ≤ B2) (k : gHc c B s n) (h31 : n.2.1 31 (4 * sd + i) = s.2.1 31 (4 * sd + i)) (h32 : n.2.1 32 (4 * sd + i) = s.2.1 32 (4 * sd + i)) : gMLb sd c2 B2 i o n := by
  cases o with
  | none =>
    have h : s.2.1 31 (4 * sd + i) = s.2.1 32 (4 * sd + i) := h
    show n.2.1 31 (4 * sd + i) = n.2.1 32 (4 * sd + i)
    rw [h31, h32, h]
  | some d =>
    obtain ⟨b, b1, b2, b3, b4, b5, b6, b7⟩ := h
    refine ⟨b, b1, by omega, h31.trans b3, h32.trans b4, b5.mv hc (fun j hj i h1 h2 => k.1 j hj i (by omega)) (fun j _ hj => k.2 j hj), b6.mv hc (fun j hj => k.1 j hj _ (by omega)) (fun j _ hj => k.2 j hj), b7⟩
theorem gXLk.mv {z z2 i : Nat} {o : Option gLd} {st st2 stp stp2 : Nat → Int32} (h : gXLk z i o st stp) (hz : z ≤ z2) (hs : st2 i = st i) (hp : ∀ j, j < z → stp2 j = stp j) : gXLk z2 i o st2 stp2 := by
  cases o with
  | none => exact hs.trans h
  | some d =>
    obtain ⟨a, a1, a2, a3, a4⟩ := h
    exact ⟨a, hs.trans a1, gSeg_ext a2 (fun j hj => hp j (by omega)), by omega, a4⟩
noncomputable def xTl (k : Nat) (v2 : Int32) (s : xs_S) : Option xs_S := (mo_loop (xf_6_tellLaw_l31 (nI k) v2) ((0 : Int32), s)).bind fun s_23 => xf_6_tellLaw_j100 s_23 (nI k) v2
noncomputable def mTl (k : Nat) (m : ms_S) : Option ms_S := (mo_loop (mf_tellLaw_l8 (nI k) (m.1 33)) ((0 : Int32), m)).bind fun x_19 => match x_19 with
  | (.inl s_19) => some s_19
  | (.inr s_19) => mf_tellLaw_j67 s_19 (nI k) (m.1 33)
theorem tl_bad {P : Nat → Nat} {N f p B sd k : Nat} {v2 : Int32} {s : xs_S} {m : ms_S} (hk : k < 4) (g : gXb P N f p s) (h : gMb f p B m) (hB0 : 130 * sd ≤ B) (hB : B < 130 * sd + 130) (hsd : sd ≤ 1) : ∃ s2 m2, xTl k v2 s = some s2 ∧ mTl k m = some m2 ∧ xsF xKei [21, 22] s s2 ∧ gFsd sd m m2 ∧ gXb P N f p s2 ∧ gFm2 f p m2 := by
  obtain ⟨s2, a1, a2, a3⟩ := x_j100_bad (v2 := v2) hk g
  obtain ⟨m2, b1, b2, b3⟩ := m_j67_bad (sd := sd) (v1 := nI k) (v2 := m.1 33) h hB0 hB hsd
  refine ⟨s2, m2, ?_, ?_, a2, b2, a3, b3⟩
  · unfold xTl
    rw [x_l31_bad g.1]
    exact a1
  · unfold mTl
    rw [m_l8_bad h.1]
    exact b1
theorem e_law {K P V : Nat → Nat} {W : Nat → Int64} {N sd t z c B k : Nat} {s : xs_S} {m : ms_S} {LW : Nat → Option gLd} (h : gLpp K P V W N sd t z c B s m) (hz : z ≤ t) (hB : 4 * B ≤ 520 * sd + t) (hB0 : 130 * sd ≤ B) (h19 : m.1 19 = nI sd) (hk : k < 4) (hK : K t = 3 + k) (hx : ∀ i, i < 4 → gXLk z i (LW i) (s.2.1 22) (s.2.1 21)) (hm : ∀ i, i < 4 → gMLb sd c B i (LW i) m) : ∃ s2 m2, xf_6_tellLaw s = some s2 ∧ mf_tellOne_j205 m (nI k) = some m2 ∧ xsF xKei [21, 22] s s2 ∧ gFl sd m m2 ∧ ((∃ t2 z2 c2 B2, ∃ LW2 : Nat → Option gLd, t < t2 ∧ gLpp K P V W N sd t2 z2 c2 B2 s2 m2 ∧ z2 ≤ t2 ∧ 4 * B2 ≤ 520 * sd + t2 ∧ 130 * sd ≤ B2 ∧ (∀ i, i < 4 → gXLk z2 i (LW2 i) (s2.2.1 22) (s2.2.1 21)) ∧ ∀ i, i < 4 → gMLb sd c2 B2 i (LW2 i) m2) ∨ ∃ f p, gXb P N f p s2 ∧ gFm2 f p m2) := by
  have hsd : sd ≤ 1 := h.2.2.2.2.2.2.2.2
  have ht := h.t4
  have h13 : m.1 13 = 0 := h.2.1.2.2.2.2
  have k1 : ∀ {a b : xs_S}, xsF [100, 101] [] a b → xsF xKei [21, 22] a b := fun h => h.wk (by decide) (by decide)
  have ek : nI (K t) - 3 = nI k := by rw [hK]; exact pu_sub (a := 3 + k) (b := 3) (by omega) |>.trans (by rw [Nat.add_sub_cancel_left])
  have ek2 : (3 : Int32) + nI k = nI (3 + k) := nI_add 3 k
  -- the law's own word
  obtain ⟨s1, m1, r1, e1, em1, f1, fm1, o1⟩ := l_take (k := 3 + k) h hz (by omega)
  have g1 : mf_goesOn m = some m1 := by
    have q := m_is (k := 3 + k) h.1 h.2.1 (by omega)
    rw [if_pos hK] at q
    unfold mf_must at em1
    rw [q] at em1
    have em1 : (if (1 : Int32) = 0 then (mf_fail m 1).bind fun s_3 => some s_3 else (mf_goesOn m).bind fun s_4 => some s_4) = some m1 := em1
    rw [if_neg (by decide)] at em1
    cases hg : mf_goesOn m with
    | none => rw [hg] at em1; cases em1
    | some n => rw [hg] at em1; exact em1
  have X1 : xf_6_tellLaw s = (xf_6_take s1 24).bind fun x => xTl k (nI z) x.2 := by
    unfold xf_6_tellLaw
    rw [x_kind h.1 h.2.1]
    show (if nI (K t) - 3 < 0 then _ else if nI (K t) - 3 < 4 then ((xf_6_take s (3 + (nI (K t) - 3))).bind fun (x : Int32 × xs_S) => (xf_6_take x.2 24).bind fun (y : Int32 × xs_S) => (mo_loop (xf_6_tellLaw_l31 (nI (K t) - 3) (s.1 321)) (0, y.2)).bind fun s_23 => xf_6_tellLaw_j100 s_23 (nI (K t) - 3) (s.1 321)) else _) = _
    have q : ∀ k, k < 4 → ¬ nI k < (0 : Int32) ∧ nI k < (4 : Int32) := by decide
    rw [ek, if_neg (q k hk).1, if_pos (q k hk).2, ek2, e1, h.2.2.1]
    rfl
  have M1 : mf_tellOne_j205 m (nI k) = (mf_must m1 5).bind fun n => mTl k n := by
    unfold mf_tellOne_j205
    rw [if_pos (by rw [h13]; decide), g1]
    show (mf_tellLaw m1 (nI k)).bind (fun s_44 => some s_44) = _
    have q : ∀ o : Option ms_S, o.bind (fun s_44 => some s_44) = o := fun o => by cases o <;> rfl
    rw [q]
    rfl
  rcases o1 with ⟨-, h1⟩ | ⟨f, p, gx, gm⟩
  rotate_left
  · obtain ⟨s2, m2, a1, a2, a3, a4, a5, a6⟩ := tl_bad (v2 := nI z) hk gx gm hB0 (by omega) hsd
    refine ⟨s2, m2, ?_, ?_, (k1 f1).tr a3, ((gFsd.mu fm1).tr a4).fl, Or.inr ⟨f, p, a5, a6⟩⟩
    · rw [X1, x_take_bad gx.1]
      exact a1
    · rw [M1, m_must_bad gm.1]
      exact a2
  -- the sign
  obtain ⟨s2, m2, r2, e2, em2, f2, fm2, o2⟩ := l_take (k := 24) h1 (by omega) (by omega)
  have X2 : xf_6_tellLaw s = xTl k (nI z) s2 := by
    rw [X1, show (24 : Int32) = nI 24 from rfl, e2]
    rfl
  have M2 : mf_tellOne_j205 m (nI k) = mTl k m2 := by
    rw [M1, show (5 : Int32) = nI (gMk2 24) from rfl, em2]
    rfl
  have fA : xsF xKei [21, 22] s s2 := (k1 f1).tr (k1 f2)
  have gA : gFsd sd m m2 := (gFsd.mu fm1).tr (gFsd.mu fm2)
  rcases o2 with ⟨-, h2⟩ | ⟨f, p, gx, gm⟩
  rotate_left
  · obtain ⟨s3, m3, a1, a2, a3, a4, a5, a6⟩ := tl_bad (v2 := nI z) hk gx gm hB0 (by omega) hsd
    exact ⟨s3, m3, X2.trans a1, M2.trans a2, fA.tr a3, (gA.tr a4).fl, Or.inr ⟨f, p, a5, a6⟩⟩
  have i33 : m2.1 33 = nI B := h2.2.2.2.2.2.2.2.1
  -- the tests
  obtain ⟨s3, r, m3, e3, em3, f3, fm3, o3⟩ := e_ifs (u := 2) (v1 := nI k) (v2 := nI z) (x1 := nI k) (x2 := nI B) 4 0 rfl s2 m2 (t + 1 + 1) z c B h2 (by omega) (by omega) hB0
  have X3 : xf_6_tellLaw s = xf_6_tellLaw_j100 s3 (nI k) (nI z) := by
    rw [X2]
    unfold xTl
    rw [show (0 : Int32) = nI 0 from rfl, e3]
    rfl
  have M3l : ∀ n, r = .inl n → mf_tellOne_j205 m (nI k) = some n := by
    intro n hn
    rw [M2]
    unfold mTl
    rw [i33, show (0 : Int32) = nI 0 from rfl, em3, hn]
    rfl
  have M3r : ∀ n, r = .inr n → mf_tellOne_j205 m (nI k) = mf_tellLaw_j67 n (nI k) (nI B) := by
    intro n hn
    rw [M2]
    unfold mTl
    rw [i33, show (0 : Int32) = nI 0 from rfl, em3, hn]
    rfl
  have fB : xsF xKei [21, 22] s s3 := fA.tr (f3.wk (by decide) (by decide))
  have gB : gFsd sd m m3 := gA.tr fm3
  rcases o3 with ⟨hr, L, t3, l1, l2, l3, l4, l5, l6, l7, l8⟩ | ⟨f, p, gx, hb⟩
  rotate_left
  · obtain ⟨s4, a1, a2, a3⟩ := x_j100_bad (v2 := nI z) hk gx
    rcases hb with ⟨hr, g⟩ | ⟨B2, hr, b1, b2, g⟩
    · exact ⟨s4, m3, X3.trans a1, M3l _ hr, fB.tr a2, gB.fl, Or.inr ⟨f, p, a3, g⟩⟩
    · obtain ⟨m4, c1, c2, c3⟩ := m_j67_bad (sd := sd) (v1 := nI k) (v2 := nI B) g b2 (by omega) hsd
      exact ⟨s4, m4, X3.trans a1, (M3r _ hr).trans c1, fB.tr a2, (gB.tr c2).fl, Or.inr ⟨f, p, a3, c3⟩⟩
  -- the last term
  have ht3 := l2.t4
  have i19 : m3.1 19 = nI sd := (gB.1.i 19 (by decide)).trans h19
  obtain ⟨s4, m4, e4, em4, f4, fm4, o4⟩ := e_last (z0 := z) (B0 := B) l2 l3 (by omega) (by omega) i19 hk
  refine ⟨s4, m4, X3.trans e4, (M3r _ hr).trans em4, fB.tr f4, gB.fl.tr fm4, ?_⟩
  rcases o4 with ⟨F, t4, u1, u2, u3, u4, u5, u6, u7, u8, u9, u10⟩ | ⟨f, p, gx, g⟩
  rotate_left
  · exact Or.inr ⟨f, p, gx, g⟩
  have hH : gHc c B m m4 := by
    have q : ∀ j, j ∈ [34, 35, 36, 37, 38] → ¬ j ∈ [11, 13, 14] := by decide
    have q0 : gHc c B m m2 := ⟨fun j hj i _ => by rw [fm2.a j (q j hj), fm1.a j (q j hj)], fun j _ => by rw [fm2.a 40 (by decide), fm1.a 40 (by decide), fm2.a 41 (by decide), fm1.a 41 (by decide)]; exact ⟨rfl, rfl⟩⟩
    exact (q0.tr l7 (Nat.le_refl _) (Nat.le_refl _)).tr u8 (by omega) (by omega)
  have AA : gArw z (gCC L F z) s s4 := by
    rw [gCC_eq]
    exact (l5.mv0 (by rw [f2.2.1 21 (by decide), f1.2.1 21 (by decide)])).tr u5
  have hl : z + (gCC L F z).length = z + (gCP L z).length + F.length + 1 := by
    rw [gCC_eq, List.length_append, List.length_append, gMapl, List.length_cons, List.length_nil]
    omega
  have r22 : s4.2.1 22 = upd (s.2.1 22) k (nI z) := by
    rw [u6, f3.2.1 22 (by decide), f2.2.1 22 (by decide), f1.2.1 22 (by decide)]
  have r31 : m4.2.1 31 = upd (m.2.1 31) (4 * sd + k) (nI B) := by rw [u9, gB.1.a 31 (by decide)]
  have r32 : m4.2.1 32 = upd (m.2.1 32) (4 * sd + k) (nI (B + L.length + 1)) := by rw [u10, gB.1.a 32 (by decide)]
  refine Or.inl ⟨t4, z + (gCP L z).length + F.length + 1, c + gBcs L + F.length, B + L.length + 1, fun i => if i = k then some (L, F) else LW i, by omega, u3, by omega, by omega, by omega, fun i hi => ?_, fun i hi => ?_⟩
  · by_cases c0 : i = k
    · subst c0
      show gXLk _ i (if i = i then some (L, F) else LW i) _ _
      rw [if_pos rfl]
      exact ⟨z, by rw [r22, upd_eq], AA.2.1, by rw [hl]; exact Nat.le_refl _, l8.wf u4⟩
    · show gXLk _ i (if i = k then some (L, F) else LW i) _ _
      rw [if_neg c0]
      exact (hx i hi).mv (by omega) (by rw [r22, upd_ne c0]) AA.2.2
  · by_cases c0 : i = k
    · subst c0
      show gMLb sd _ _ i (if i = i then some (L, F) else LW i) _
      rw [if_pos rfl]
      refine ⟨B, hB0, Nat.le_refl _, by rw [r31, upd_eq], by rw [r32, upd_eq], ?_, u7, l8.wf u4⟩
      exact l6.mv (by omega) (fun j hj i _ hi => u8.1 j hj i hi) (fun j _ hj => u8.2 j hj)
    · show gMLb sd _ _ i (if i = k then some (L, F) else LW i) _
      rw [if_neg c0]
      have hne : ¬ 4 * sd + i = 4 * sd + k := by omega
      exact (hm i hi).mv (by omega) (by omega) hH (by rw [r31, upd_ne hne]) (by rw [r32, upd_ne hne])
