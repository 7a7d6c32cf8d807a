/-! reading: one test of a law, both -/
abbrev gB3 : Type := List gIt × List gIt × List gIt
def gBl (b : gB3) : Nat := b.1.length + b.2.1.length + b.2.2.length + 3
def gBk (b : gB3) (a : Nat) : List Int32 := (b.1.map gCst ++ (b.2.1.map gCst ++ [nI 20004])) ++ (nI (a + gBl b) :: (b.2.2.map gCst ++ [nI 20005]))
/-- the class has emitted L from z on -/
def gArw (z : Nat) (L : List Int32) (s0 s : xs_S) : Prop := s.1 321 = nI (z + L.length) ∧ gSeg (s.2.1 21) z L ∧ ∀ j, j < z → s.2.1 21 j = s0.2.1 21 j
theorem gAx.r {z : Nat} {X : List gIt} {s0 s : xs_S} (h : gAx z X s0 s) : gArw z (X.map gCst) s0 s := by
  obtain ⟨h1, h2, h3⟩ := h
  exact ⟨by rw [gMapl]; exact h1, h2, h3⟩
theorem gArw.tr {z : Nat} {L M : List Int32} {s0 s1 s2 : xs_S} (h : gArw z L s0 s1) (k : gArw (z + L.length) M s1 s2) : gArw z (L ++ M) s0 s2 := by
  obtain ⟨h1, h2, h3⟩ := h
  obtain ⟨k1, k2, k3⟩ := k
  exact ⟨by rw [List.length_append, ← Nat.add_assoc]; exact k1, gSeg_join (gSeg_ext h2 (fun j hj => k3 j hj)) k2, fun j hj => (k3 j (by omega)).trans (h3 j hj)⟩
theorem gArw.mv {z : Nat} {L : List Int32} {s0 s t : xs_S} (h : gArw z L s0 s) (e1 : t.1 321 = s.1 321) (e2 : t.2.1 21 = s.2.1 21) : gArw z L s0 t := by
  unfold gArw
  rw [e1, e2]
  exact h
theorem gArw.mv0 {z : Nat} {L : List Int32} {s0 s1 s : xs_S} (h : gArw z L s0 s) (e2 : s0.2.1 21 = s1.2.1 21) : gArw z L s1 s := by
  unfold gArw
  rw [← e2]
  exact h
theorem x_emitr {s : xs_S} {z : Nat} {v : Int32} (h : s.1 321 = nI z) (hz : z < 401) : ∃ s2, xf_3_emit_20 s v = some s2 ∧ xsF [321] [21] s s2 ∧ gArw z [v] s s2 := by
  refine ⟨_, x_emit h hz, (xsF.sI (by decide)).tr (xsF.sA (by decide)), rfl, fun i w hw => ?_, fun j hj => ?_⟩
  · have : i = 0 ∧ w = v := by
      cases i with
      | zero => exact ⟨rfl, by simpa using hw.symm⟩
      | succ i => simp at hw
    rw [this.1, this.2]
    show upd (s.2.1 21) z v (z + 0) = _
    rw [Nat.add_zero]
    exact upd_eq
  · exact upd_ne (by omega)
theorem x_fillr {s0 s : xs_S} {z : Nat} {L M : List Int32} {x v : Int32} (h : gArw z (L ++ x :: M) s0 s) (hz : z + L.length < 401) : xf_3_fill_20 s (nI (z + L.length)) v = some (xs_sA s 21 (upd (s.2.1 21) (z + L.length) v)) ∧ gArw z (L ++ v :: M) s0 (xs_sA s 21 (upd (s.2.1 21) (z + L.length) v)) := by
  obtain ⟨h1, h2, h3⟩ := h
  constructor
  · refine wO_iff.mp ?_
    unfold xf_3_fill_20
    refine wO_neg (show ¬ nI 401 ≤ nI (z + L.length) from nI_ge hz (by omega)) (wO_in (k := z + L.length) rfl hz (by omega) ?_)
    rw [nI_clamp (by omega)]
    exact wO_some rfl
  · refine ⟨?_, fun i w hw => ?_, fun j hj => ?_⟩
    · rw [List.length_append] at h1 ⊢
      exact h1
    · show upd (s.2.1 21) (z + L.length) v (z + i) = w
      by_cases c : i = L.length
      · subst c
        rw [upd_eq]
        rw [List.getElem?_append_right (Nat.le_refl _), Nat.sub_self] at hw
        exact Option.some.inj hw
      · rw [upd_ne (by omega)]
        refine h2 i w ?_
        rcases Nat.lt_or_ge i L.length with q | q
        · rw [List.getElem?_append_left q] at hw ⊢
          exact hw
        · rw [List.getElem?_append_right q] at hw ⊢
          obtain ⟨d, hd⟩ : ∃ d, i - L.length = d + 1 := ⟨i - L.length - 1, by omega⟩
          rw [hd] at hw ⊢
          simpa using hw
    · show upd (s.2.1 21) (z + L.length) v j = _
      rw [upd_ne (by omega)]
      exact h3 j hj
/-- both within a law -/
def gLpp (K P V : Nat → Nat) (W : Nat → Int64) (N sd t z c B : Nat) (s : xs_S) (m : ms_S) : Prop := gTok K P V W N s m ∧ gHl N t s m ∧ s.1 321 = nI z ∧ m.1 12 = 0 ∧ m.1 39 = nI c ∧ 420 * sd ≤ c ∧ c ≤ 420 * sd + t ∧ m.1 33 = nI B ∧ sd ≤ 1
theorem gLpp.t4 {K P V : Nat → Nat} {W : Nat → Int64} {N sd t z c B : Nat} {s : xs_S} {m : ms_S} (h : gLpp K P V W N sd t z c B s m) : t ≤ 400 := by
  have h1 := h.1.1
  have h2 := h.2.1.1
  omega
theorem gLpp.em {K P V : Nat → Nat} {W : Nat → Int64} {N sd t z c B : Nat} {s : xs_S} {m : ms_S} (h : gLpp K P V W N sd t z c B s m) (hz : z ≤ t) : gEm1 s := ⟨z, by have := h.t4; omega, h.2.2.1⟩
theorem gCds_ex2 {X : List gIt} {c : Nat} {m n : ms_S} (h : gCds X c m) (e : ∀ j, c ≤ j → j < c + X.length → n.2.1 40 j = m.2.1 40 j ∧ n.2.1 41 j = m.2.1 41 j) : gCds X c n := fun i x hx => by
  have hi : i < X.length := by
    rcases Nat.lt_or_ge i X.length with q | q
    · exact q
    · rw [List.getElem?_eq_none q] at hx; cases hx
  rw [(e (c + i) (by omega) (by omega)).1, (e (c + i) (by omega) (by omega)).2]
  exact h i x hx
/-- one branch of the reference, its codes between a and e -/
def gBr2 (a e : Nat) (t : Bool) (U V T : List gIt) (b : Nat) (s : ms_S) : Prop := ∃ c, a ≤ c ∧ c + U.length + V.length + T.length ≤ e ∧ (s.2.1 34 b = bif t then 1 else 0) ∧ (t = true → s.2.1 35 b = nI c ∧ s.2.1 36 b = nI (c + U.length)) ∧ s.2.1 37 b = nI (c + U.length + V.length) ∧ s.2.1 38 b = nI (c + U.length + V.length + T.length) ∧ gCds U c s ∧ gCds V (c + U.length) s ∧ gCds T (c + U.length + V.length) s
theorem gBr2.mv {a e e2 : Nat} {t : Bool} {U V T : List gIt} {b : Nat} {s n : ms_S} (h : gBr2 a e t U V T b s) (he : e ≤ e2) (hb : ∀ j, j ∈ [34, 35, 36, 37, 38] → n.2.1 j b = s.2.1 j b) (hc : ∀ j, a ≤ j → j < e → n.2.1 40 j = s.2.1 40 j ∧ n.2.1 41 j = s.2.1 41 j) : gBr2 a e2 t U V T b n := by
  obtain ⟨c, ca, c0, c1, c2, c3, c4, c5, c6, c7⟩ := h
  refine ⟨c, ca, by omega, by rw [hb 34 (by decide)]; exact c1, by rw [hb 35 (by decide), hb 36 (by decide)]; exact c2, by rw [hb 37 (by decide)]; exact c3, by rw [hb 38 (by decide)]; exact c4, gCds_ex2 c5 (fun j hj hj2 => hc j (by omega) (by omega)), gCds_ex2 c6 (fun j hj hj2 => hc j (by omega) (by omega)), gCds_ex2 c7 (fun j hj hj2 => hc j (by omega) (by omega))⟩
theorem m_j12 {m : ms_S} {B : Nat} (h : m.1 33 = nI B) (hB : B < 260) : mf_term_j12 m = some (ms_sA (ms_sI m 33 (nI (B + 1))) 38 (upd (m.2.1 38) B (m.1 39))) := by
  refine wO_iff.mp ?_
  unfold mf_term_j12
  rw [h]
  refine wO_in (k := B) rfl hB (by omega) ?_
  rw [nI_clamp (by omega), nI_1]
  exact wO_some rfl
/-- codes lie within the side -/
def gCq (sd : Nat) (m n : ms_S) : Prop := ∀ i, ¬ (420 * sd ≤ i ∧ i < 420 * sd + 420) → n.2.1 40 i = m.2.1 40 i ∧ n.2.1 41 i = m.2.1 41 i
theorem gCq.tr {sd : Nat} {a b c : ms_S} (h : gCq sd a b) (k : gCq sd b c) : gCq sd a c := fun i hi => ⟨(k i hi).1.trans (h i hi).1, (k i hi).2.trans (h i hi).2⟩
theorem gCq.of {sd : Nat} {Ks : List Nat} {a b : ms_S} (h : msF Ks a b) (h1 : ¬ 40 ∈ Ks) (h2 : ¬ 41 ∈ Ks) : gCq sd a b := fun i _ => by rw [h.a 40 h1, h.a 41 h2]; exact ⟨rfl, rfl⟩
theorem l_take {K P V : Nat → Nat} {W : Nat → Int64} {N sd t z c B k : Nat} {s : xs_S} {m : ms_S} (h : gLpp K P V W N sd t z c B s m) (hz : z ≤ t) (hk : k < 32) : ∃ s2 m2 r, xf_6_take s (nI k) = some (r, s2) ∧ mf_must m (nI (gMk2 k)) = some m2 ∧ xsF [100, 101] [] s s2 ∧ msF [11, 13, 14] m m2 ∧ ((K t = k ∧ gLpp K P V W N sd (t + 1) z c B s2 m2) ∨ ∃ f p, gXb P N f p s2 ∧ gMb f p B m2) := by
  have he := h.em hz
  obtain ⟨hT, hH, h321, h12, h39, hc0, hc, h33, hsd⟩ := h
  obtain ⟨s2, m2, e1, f1, f2, o⟩ := b_take hT hH hk
  have hT2 : gTok K P V W N s2 m2 := hT.mv (f1.1 21 (by decide)) (f1.2.1 3 (by decide)) (f1.2.1 4 (by decide)) (by rw [f1.2.2.1]) (f2.a 5 (by decide)) (f2.a 6 (by decide)) (f2.a 7 (by decide)) (by rw [f2.2])
  rcases o with ⟨o1, o2, o3, o4⟩ | ⟨o1, o2, f, o3, o4⟩
  · exact ⟨s2, m2, 1, o3, e1, f1, f2, Or.inl ⟨o1, hT2, o4, (f1.1 321 (by decide)).trans h321, (f2.i 12 (by decide)).trans h12, (f2.i 39 (by decide)).trans h39, hc0, by omega, (f2.i 33 (by decide)).trans h33, hsd⟩⟩
  · exact ⟨s2, m2, 0, o1, e1, f1, f2, Or.inr ⟨f, P t, gXb_of hT he f1 o3, o4, (f2.i 33 (by decide)).trans h33⟩⟩
theorem l_expr {K P V : Nat → Nat} {W : Nat → Int64} {N sd t z c B : Nat} {s : xs_S} {m : ms_S} (h : gLpp K P V W N sd t z c B s m) (hz : z ≤ t) : ∃ s2 m2, xf_6_sum 8 s 0 = some s2 ∧ mf_expression m = some m2 ∧ xsF xKei [21] s s2 ∧ msF gKe m m2 ∧ gCq sd m m2 ∧ ((∃ X t2, t < t2 ∧ t + X.length ≤ t2 ∧ gWfr 20 X 0 1 ∧ gLpp K P V W N sd t2 (z + X.length) (c + X.length) B s2 m2 ∧ gArw z (X.map gCst) s s2 ∧ gAy c X m m2) ∨ ∃ f p, gXb P N f p s2 ∧ gMb f p B m2) := by
  have ht := h.t4
  obtain ⟨hT, hH, h321, h12, h39, hc0, hc, h33, hsd⟩ := h
  obtain ⟨s2, m2, e2, e3, f2, fm2, o2⟩ := e_expr hT hH h321 hz h12 h39 (by omega)
  have hq := q_expr (sd := sd) h39 hH.2.2.2.1 ht hc0 hc hsd e3
  refine ⟨s2, m2, e2, e3, f2, fm2, hq, ?_⟩
  rcases o2 with ⟨X, t2, q1, q2, q3, q4, q5, q6, q7, q8⟩ | ⟨f, p, g1, g2, -⟩
  · exact Or.inl ⟨X, t2, q4, q5, q6, ⟨q1, q2, q7.1, q3, q8.1, by omega, by omega, (fm2.i 33 (by decide)).trans h33, hsd⟩, q7.r, q8⟩
  · exact Or.inr ⟨f, p, g1, g2, (fm2.i 33 (by decide)).trans h33⟩
theorem e_term {K P V : Nat → Nat} {W : Nat → Int64} {N sd t z c B : Nat} {s : xs_S} {m : ms_S} (h : gLpp K P V W N sd t z c B s m) (hz : z ≤ t) (hB2 : B < 260) : ∃ s2 m2, xf_6_sum 8 s 0 = some s2 ∧ mf_term m = some m2 ∧ xsF xKei [21] s s2 ∧ msF gKl m m2 ∧ gCq sd m m2 ∧ (∀ j, j ∈ [34, 35, 36] → m2.2.1 j = m.2.1 j) ∧ (∀ i, ¬ i = B → m2.2.1 37 i = m.2.1 37 i ∧ m2.2.1 38 i = m.2.1 38 i) ∧ ((∃ X t2, t < t2 ∧ t + X.length ≤ t2 ∧ gWfr 20 X 0 1 ∧ gLpp K P V W N sd t2 (z + X.length) (c + X.length) (B + 1) s2 m2 ∧ gArw z (X.map gCst) s s2 ∧ gAy c X m m2 ∧ m2.2.1 37 B = nI c ∧ m2.2.1 38 B = nI (c + X.length)) ∨ ∃ f p, gXb P N f p s2 ∧ gMb f p (B + 1) m2) := by
  have h33 := h.2.2.2.2.2.2.2.1
  have h39 := h.2.2.2.2.1
  generalize hm1 : ms_sA m 37 (upd (m.2.1 37) B (nI c)) = m1
  have f1 : msF [37] m m1 := by rw [← hm1]; exact msF.sA (by decide)
  have h1 : gLpp K P V W N sd t z c B s m1 := by rw [← hm1]; exact h
  obtain ⟨s2, m2, e2, e3, f2, fm2, hq, o2⟩ := l_expr h1 hz
  have r37 : m2.2.1 37 = upd (m.2.1 37) B (nI c) := (fm2.a 37 (by decide)).trans (by rw [← hm1]; rfl)
  have r38 : m2.2.1 38 = m.2.1 38 := (fm2.a 38 (by decide)).trans (by rw [← hm1]; rfl)
  have i33 : m2.1 33 = nI B := (fm2.i 33 (by decide)).trans (by rw [← hm1]; exact h33)
  have e4 := m_j12 i33 hB2
  have hterm : mf_term m = some (ms_sA (ms_sI m2 33 (nI (B + 1))) 38 (upd (m2.2.1 38) B (m2.1 39))) := wO_iff.mp (by
    unfold mf_term
    rw [h33, h39]
    refine wO_in (k := B) rfl hB2 (by omega) (wO_pos h.2.1.2.2.2.2 ?_)
    rw [nI_clamp (by omega), hm1]
    exact wO_eq e3 (wO_iff.mpr e4))
  generalize hm3 : ms_sA (ms_sI m2 33 (nI (B + 1))) 38 (upd (m2.2.1 38) B (m2.1 39)) = m3 at hterm
  have f3 : msF [33, 38] m2 m3 := by rw [← hm3]; exact (msF.sI (by decide)).tr (msF.sA (by decide))
  have i33b : m3.1 33 = nI (B + 1) := by rw [← hm3]; rfl
  refine ⟨s2, m3, e2, hterm, f2, (f1.wk (by decide)).tr ((fm2.wk (by decide)).tr (f3.wk (by decide))), (gCq.of f1 (by decide) (by decide)).tr (hq.tr (gCq.of f3 (by decide) (by decide))), fun j hj => ?_, fun i hi => ⟨?_, ?_⟩, ?_⟩
  · have q : ∀ j, j ∈ [34, 35, 36] → ¬ j ∈ gKe ∧ ¬ j ∈ [33, 38] ∧ ¬ j ∈ [37] := by decide
    obtain ⟨q1, q2, q3⟩ := q j hj
    exact (f3.a j q2).trans ((fm2.a j q1).trans (f1.a j q3))
  · rw [f3.a 37 (by decide), r37, upd_ne hi]
  · rw [← hm3]
    show upd (m2.2.1 38) B _ i = _
    rw [upd_ne hi, r38]
  · rcases o2 with ⟨X, t2, q4, q5, q6, q1, q7, q8⟩ | ⟨f, p, g1, g2⟩
    · obtain ⟨a1, a2, a3, a4, a5, a6, a7, a8, a9⟩ := q1
      refine Or.inl ⟨X, t2, q4, q5, q6, ⟨a1.mv rfl rfl rfl rfl (f3.a 5 (by decide)) (f3.a 6 (by decide)) (f3.a 7 (by decide)) (by rw [f3.2]), ⟨a2.1, a2.2.1, a2.2.2.1, (f3.i 11 (by decide)).trans a2.2.2.2.1, (f3.i 13 (by decide)).trans a2.2.2.2.2⟩, a3, (f3.i 12 (by decide)).trans a4, (f3.i 39 (by decide)).trans a5, a6, a7, i33b, a9⟩, q7, ?_, ?_, ?_⟩
      · exact (q8.mv (f3.i 39 (by decide)) (f3.a 40 (by decide)) (f3.a 41 (by decide))).mv0 (by rw [← hm1]; rfl) (by rw [← hm1]; rfl)
      · rw [f3.a 37 (by decide), r37, upd_eq]
      · rw [← hm3]
        show upd (m2.2.1 38) B (m2.1 39) B = _
        rw [upd_eq, q8.1]
    · exact Or.inr ⟨f, p, g1, ⟨g2.1.1, g2.1.2.1, (f3.i 13 (by decide)).trans g2.1.2.2.1, (f3.i 14 (by decide)).trans g2.1.2.2.2⟩, i33b⟩
