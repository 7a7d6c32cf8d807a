/-! reading: one test of a law, both -/
abbrev gB3 : Type := List gIt × List gIt × List gIt
def gBl (b : gB3) : Nat := b.1.length + b.2.1.length + b.2.2.length + 3
def gBk (b : gB3) (a : Nat) : List Int32 := (b.1.map gCst ++ (b.2.1.map gCst ++ [nI 20004])) ++ (nI (a + gBl b) :: (b.2.2.map gCst ++ [nI 20005]))
/-- the class has emitted L from z on -/
def gArw (z : Nat) (L : List Int32) (s0 s : xs_S) : Prop := s.1 321 = nI (z + L.length) ∧ gSeg (s.2.1 21) z L ∧ ∀ j, j < z → s.2.1 21 j = s0.2.1 21 j
theorem gAx.r {z : Nat} {X : List gIt} {s0 s : xs_S} (h : gAx z X s0 s) : gArw z (X.map gCst) s0 s := by
  obtain ⟨h1, h2, h3⟩ := h
  exact ⟨by rw [gMapl]; exact h1, h2, h3⟩
theorem gArw.tr {z : Nat} {L M : List Int32} {s0 s1 s2 : xs_S} (h : gArw z L s0 s1) (k : gArw (z + L.length) M s1 s2) : gArw z (L ++ M) s0 s2 := by
  obtain ⟨h1, h2, h3⟩ := h
  obtain ⟨k1, k2, k3⟩ := k
  exact ⟨by rw [List.length_append, ← Nat.add_assoc]; exact k1, gSeg_join (gSeg_ext h2 (fun j hj => k3 j hj)) k2, fun j hj => (k3 j (by omega)).trans (h3 j hj)⟩
theorem gArw.mv {z : Nat} {L : List Int32} {s0 s t : xs_S} (h : gArw z L s0 s) (e1 : t.1 321 = s.1 321) (e2 : t.2.1 21 = s.2.1 21) : gArw z L s0 t := by
  unfold gArw
  rw [e1, e2]
  exact h
theorem gArw.mv0 {z : Nat} {L : List Int32} {s0 s1 s : xs_S} (h : gArw z L s0 s) (e2 : s0.2.1 21 = s1.2.1 21) : gArw z L s1 s := by
  unfold gArw
  rw [← e2]
  exact h
theorem x_emitr {s : xs_S} {z : Nat} {v : Int32} (h : s.1 321 = nI z) (hz : z < 401) : ∃ s2, xf_3_emit_20 s v = some s2 ∧ xsF [321] [21] s s2 ∧ gArw z [v] s s2 := by
  refine ⟨_, x_emit h hz, (xsF.sI (by decide)).tr (xsF.sA (by decide)), rfl, fun i w hw => ?_, fun j hj => ?_⟩
  · have : i = 0 ∧ w = v := by
      cases i with
      | zero => exact ⟨rfl, by simpa using hw.symm⟩
      | succ i => simp at hw
    rw [this.1, this.2]
    show upd (s.2.1 21) z v (z + 0) = _
    rw [Nat.add_zero]
    exact upd_eq
  · exact upd_ne (by omega)
theorem x_fillr {s0 s : xs_S} {z : Nat} {L M : List Int32} {x v : Int32} (h : gArw z (L ++ x :: M) s0 s) (hz : z + L.length < 401) : xf_3_fill_20 s (nI (z + L.length)) v = some (xs_sA s 21 (upd (s.2.1 21) (z + L.length) v)) ∧ gArw z (L ++ v :: M) s0 (xs_sA s 21 (upd (s.2.1 21) (z + L.length) v)) := by
  obtain ⟨h1, h2, h3⟩ := h
  constructor
  · refine wO_iff.mp ?_
    unfold xf_3_fill_20
    refine wO_neg (show ¬ nI 401 ≤ nI (z + L.length) from nI_ge hz (by omega)) (wO_in (k := z + L.length) rfl hz (by omega) ?_)
    rw [nI_clamp (by omega)]
    exact wO_some rfl
  · refine ⟨?_, fun i w hw => ?_, fun j hj => ?_⟩
    · rw [List.length_append] at h1 ⊢
      exact h1
    · show upd (s.2.1 21) (z + L.length) v (z + i) = w
      by_cases c : i = L.length
      · subst c
        rw [upd_eq]
        rw [List.getElem?_append_right (Nat.le_refl _), Nat.sub_self] at hw
        exact Option.some.inj hw
      · rw [upd_ne (by omega)]
        refine h2 i w ?_
        rcases Nat.lt_or_ge i L.length with q | q
        · rw [List.getElem?_append_left q] at hw ⊢
          exact hw
        · rw [List.getElem?_append_right q] at hw ⊢
          obtain ⟨d, hd⟩ : ∃ d, i - L.length = d + 1 := ⟨i - L.length - 1, by omega⟩
          rw [hd] at hw ⊢
          simpa using hw
    · show upd (s.2.1 21) (z + L.length) v j = _
      rw [upd_ne (by omega)]
      exact h3 j hj
/-- both within a law -/
def gLpp (K P V : Nat → Nat) (W : Nat → Int64) (N sd t z c B : Nat) (s : xs_S) (m : ms_S) : Prop := gTok K P V W N s m ∧ gHl N t s m ∧ s.1 321 = nI z ∧ z ≤ t ∧ m.1 12 = 0 ∧ m.1 39 = nI c ∧ c ≤ 420 + t ∧ m.1 33 = nI B ∧ 4 * B ≤ 520 * sd + t ∧ sd ≤ 1
/-- one branch of the reference, its codes below e -/
def gBr2 (e : Nat) (t : Bool) (U V T : List gIt) (b : Nat) (s : ms_S) : Prop := ∃ c, c + U.length + V.length + T.length ≤ e ∧ (s.2.1 34 b = bif t then 1 else 0) ∧ (t = true → s.2.1 35 b = nI c ∧ s.2.1 36 b = nI (c + U.length)) ∧ s.2.1 37 b = nI (c + U.length + V.length) ∧ s.2.1 38 b = nI (c + U.length + V.length + T.length) ∧ gCds U c s ∧ gCds V (c + U.length) s ∧ gCds T (c + U.length + V.length) s
theorem gBr2.mv {e e2 : Nat} {t : Bool} {U V T : List gIt} {b : Nat} {s n : ms_S} (h : gBr2 e t U V T b s) (he : e ≤ e2) (hb : ∀ j, j ∈ [34, 35, 36, 37, 38] → n.2.1 j b = s.2.1 j b) (hc : ∀ j, j < e → n.2.1 40 j = s.2.1 40 j ∧ n.2.1 41 j = s.2.1 41 j) : gBr2 e2 t U V T b n := by
  obtain ⟨c, c0, c1, c2, c3, c4, c5, c6, c7⟩ := h
  refine ⟨c, by omega, by rw [hb 34 (by decide)]; exact c1, by rw [hb 35 (by decide), hb 36 (by decide)]; exact c2, by rw [hb 37 (by decide)]; exact c3, by rw [hb 38 (by decide)]; exact c4, gCds_ext c5 (fun j hj => hc j (by omega)), gCds_ext c6 (fun j hj => hc j (by omega)), gCds_ext c7 (fun j hj => hc j (by omega))⟩
theorem m_j12 {m : ms_S} {B : Nat} (h : m.1 33 = nI B) (hB : B < 260) : mf_term_j12 m = some (ms_sA (ms_sI m 33 (nI (B + 1))) 38 (upd (m.2.1 38) B (m.1 39))) := by
  refine wO_iff.mp ?_
  unfold mf_term_j12
  rw [h]
  refine wO_in (k := B) rfl hB (by omega) ?_
  rw [nI_clamp (by omega), nI_1]
  exact wO_some rfl
theorem e_term {K P V : Nat → Nat} {W : Nat → Int64} {N sd t z c B : Nat} {s : xs_S} {m : ms_S} (h : gLpp K P V W N sd t z c B s m) : ∃ s2 m2, xf_6_sum 8 s 0 = some s2 ∧ mf_term m = some m2 ∧ xsF xKei [21] s s2 ∧ msF gKl m m2 ∧ (∀ j, j ∈ [34, 35, 36] → m2.2.1 j = m.2.1 j) ∧ (∀ i, ¬ i = B → m2.2.1 37 i = m.2.1 37 i ∧ m2.2.1 38 i = m.2.1 38 i) ∧ m2.1 33 = nI (B + 1) ∧ ((∃ X t2, gTok K P V W N s2 m2 ∧ gHl N t2 s2 m2 ∧ m2.1 12 = 0 ∧ t < t2 ∧ t + X.length ≤ t2 ∧ gWfr 20 X 0 1 ∧ gAx z X s s2 ∧ gAy c X m m2 ∧ m2.2.1 37 B = nI c ∧ m2.2.1 38 B = nI (c + X.length)) ∨ ∃ f p, gXb P N f p s2 ∧ gFm2 f p m2) := by
  obtain ⟨hT, hH, hz, hzt, h12, h39, hc, h33, hB, hsd⟩ := h
  have hN := hT.1
  have ht := hH.1
  have hB2 : B < 260 := by omega
  generalize hm1 : ms_sA m 37 (upd (m.2.1 37) B (nI c)) = m1
  have f1 : msF gKl m m1 := by rw [← hm1]; exact msF.sA (by decide)
  have hT1 : gTok K P V W N s m1 := by rw [← hm1]; exact hT.mv rfl rfl rfl rfl rfl rfl rfl rfl
  have hH1 : gHl N t s m1 := by rw [← hm1]; exact hH
  obtain ⟨s2, m2, e2, e3, f2, fm2, o2⟩ := e_expr (m := m1) hT1 hH1 hz hzt (by rw [← hm1]; exact h12) (by rw [← hm1]; exact h39) hc
  have i33 : m2.1 33 = nI B := (fm2.i 33 (by decide)).trans (by rw [← hm1]; exact h33)
  have r37 : m2.2.1 37 = upd (m.2.1 37) B (nI c) := (fm2.a 37 (by decide)).trans (by rw [← hm1]; rfl)
  have r38 : m2.2.1 38 = m.2.1 38 := (fm2.a 38 (by decide)).trans (by rw [← hm1]; rfl)
  have e4 := m_j12 i33 hB2
  have hterm : mf_term m = some (ms_sA (ms_sI m2 33 (nI (B + 1))) 38 (upd (m2.2.1 38) B (m2.1 39))) := wO_iff.mp (by
    unfold mf_term
    rw [h33, h39]
    refine wO_in (k := B) rfl hB2 (by omega) (wO_pos hH.2.2.2.2 ?_)
    rw [nI_clamp (by omega), hm1]
    exact wO_eq e3 (wO_iff.mpr e4))
  generalize hm3 : ms_sA (ms_sI m2 33 (nI (B + 1))) 38 (upd (m2.2.1 38) B (m2.1 39)) = m3 at hterm
  have f3 : msF [33, 38] m2 m3 := by rw [← hm3]; exact (msF.sI (by decide)).tr (msF.sA (by decide))
  refine ⟨s2, m3, e2, hterm, f2, f1.tr ((fm2.wk (by decide)).tr (f3.wk (by decide))), fun j hj => ?_, fun i hi => ⟨?_, ?_⟩, by rw [← hm3]; rfl, ?_⟩
  · have q : ∀ j, j ∈ [34, 35, 36] → ¬ j ∈ gKe ∧ ¬ j ∈ [33, 38] ∧ ¬ j = 37 := by decide
    obtain ⟨q1, q2, q3⟩ := q j hj
    refine (f3.a j q2).trans ((fm2.a j q1).trans ?_)
    rw [← hm1]
    exact mm_up_ne q3
  · rw [f3.a 37 (by decide), r37, upd_ne hi]
  · rw [← hm3]
    show upd (m2.2.1 38) B _ i = _
    rw [upd_ne hi, r38]
  · rcases o2 with ⟨X, t2, q1, q2, q3, q4, q5, q6, q7, q8⟩ | ⟨f, p, g1, g2, -⟩
    · refine Or.inl ⟨X, t2, q1.mv rfl rfl rfl rfl (f3.a 5 (by decide)) (f3.a 6 (by decide)) (f3.a 7 (by decide)) (by rw [f3.2]), ⟨q2.1, q2.2.1, q2.2.2.1, (f3.i 11 (by decide)).trans q2.2.2.2.1, (f3.i 13 (by decide)).trans q2.2.2.2.2⟩, (f3.i 12 (by decide)).trans q3, q4, q5, q6, q7, ?_, ?_, ?_⟩
      · exact (q8.mv (f3.i 39 (by decide)) (f3.a 40 (by decide)) (f3.a 41 (by decide))).mv0 (by rw [← hm1]; rfl) (by rw [← hm1]; rfl)
      · rw [f3.a 37 (by decide), r37, upd_eq]
      · rw [← hm3]
        show upd (m2.2.1 38) B (m2.1 39) B = _
        rw [upd_eq, q8.1]
    · exact Or.inr ⟨f, p, g1, g2.1, g2.2.1, (f3.i 13 (by decide)).trans g2.2.2.1, (f3.i 14 (by decide)).trans g2.2.2.2⟩
