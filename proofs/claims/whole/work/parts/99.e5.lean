/-! reading: what is emitted; operators that wait -/
theorem x_emit {s : xs_S} {z : Nat} {v : Int32} (h : s.1 321 = nI z) (hz : z < 401) : xf_3_emit_20 s v = some (xs_sA (xs_sI s 321 (nI (z + 1))) 21 (upd (s.2.1 21) z v)) := by
  refine wO_iff.mp ?_
  unfold xf_3_emit_20
  rw [h]
  refine wO_neg (show ¬ nI 401 ≤ nI z from nI_ge hz (by omega)) (wO_in (k := z) rfl hz (by omega) ?_)
  rw [nI_clamp (by omega), nI_1]
  exact wO_some rfl
def gEm1 (s : xs_S) : Prop := ∃ z, z ≤ 401 ∧ s.1 321 = nI z
theorem x_emit_any {s : xs_S} {v : Int32} (h : gEm1 s) : ∃ s2, xf_3_emit_20 s v = some s2 ∧ xsF [321] [21] s s2 ∧ gEm1 s2 := by
  obtain ⟨z, hz, e⟩ := h
  by_cases c : z < 401
  · exact ⟨_, x_emit e c, (xsF.sI (by decide)).tr (xsF.sA (by decide)), z + 1, by omega, rfl⟩
  · refine ⟨s, wO_iff.mp ?_, xsF.rf, z, hz, e⟩
    unfold xf_3_emit_20
    rw [e]
    exact wO_pos (show nI 401 ≤ nI z from nI_le (by omega) (by omega)) (wO_some rfl)
/-- the class has emitted X from z on -/
def gAx (z : Nat) (X : List gIt) (s0 s : xs_S) : Prop := s.1 321 = nI (z + X.length) ∧ gSeg (s.2.1 21) z (X.map gCst) ∧ ∀ j, j < z → s.2.1 21 j = s0.2.1 21 j
theorem gSeg_ext {A B : Nat → Int32} {a : Nat} {L : List Int32} (h : gSeg A a L) (e : ∀ j, j < a + L.length → B j = A j) : gSeg B a L := fun i w hw => by
  have hlt : i < L.length := by
    rcases Nat.lt_or_ge i L.length with q | q
    · exact q
    · rw [List.getElem?_eq_none q] at hw; cases hw
  rw [e _ (by omega)]
  exact h i w hw
theorem gSeg_join {A : Nat → Int32} {a : Nat} {L M : List Int32} (h : gSeg A a L) (k : gSeg A (a + L.length) M) : gSeg A a (L ++ M) := fun i w hw => by
  rcases Nat.lt_or_ge i L.length with q | q
  · rw [List.getElem?_append_left q] at hw
    exact h i w hw
  · rw [List.getElem?_append_right q] at hw
    have := k (i - L.length) w hw
    rw [show a + L.length + (i - L.length) = a + i by omega] at this
    exact this
theorem gAx.tr {z : Nat} {X Y : List gIt} {s0 s1 s2 : xs_S} (h : gAx z X s0 s1) (k : gAx (z + X.length) Y s1 s2) : gAx z (X ++ Y) s0 s2 := by
  obtain ⟨h1, h2, h3⟩ := h
  obtain ⟨k1, k2, k3⟩ := k
  refine ⟨by rw [List.length_append, ← Nat.add_assoc]; exact k1, ?_, fun j hj => (k3 j (by omega)).trans (h3 j hj)⟩
  rw [List.map_append]
  refine gSeg_join (gSeg_ext h2 (fun j hj => k3 j (by rw [gMapl] at hj; exact hj))) ?_
  rw [gMapl]
  exact k2
theorem gAx.nil {z : Nat} {s0 s : xs_S} (h : s.1 321 = nI z) (e : s.2.1 21 = s0.2.1 21) : gAx z [] s0 s := ⟨h, fun i w hw => by simp at hw, fun j _ => by rw [e]⟩
theorem gAx.mv {z : Nat} {X : List gIt} {s0 s t : xs_S} (h : gAx z X s0 s) (e1 : t.1 321 = s.1 321) (e2 : t.2.1 21 = s.2.1 21) : gAx z X s0 t := by
  unfold gAx
  rw [e1, e2]
  exact h
theorem gAx.mv0 {z : Nat} {X : List gIt} {s0 s1 s : xs_S} (h : gAx z X s0 s) (e2 : s0.2.1 21 = s1.2.1 21) : gAx z X s1 s := by
  unfold gAx
  rw [← e2]
  exact h
theorem x_emit1 {s0 s : xs_S} {z : Nat} {x : gIt} {X : List gIt} (h : gAx z X s0 s) (hz : z + X.length < 401) : ∃ s2, xf_3_emit_20 s (gCst x) = some s2 ∧ xsF [321] [21] s s2 ∧ gAx z (X ++ [x]) s0 s2 := by
  refine ⟨_, x_emit h.1 hz, (xsF.sI (by decide)).tr (xsF.sA (by decide)), h.tr (Y := [x]) ⟨rfl, ?_, fun j hj => ?_⟩⟩
  · intro i w hw
    have : i = 0 ∧ w = gCst x := by
      cases i with
      | zero => exact ⟨rfl, by simpa using hw.symm⟩
      | succ i => simp at hw
    rw [this.1, this.2]
    show upd (s.2.1 21) (z + X.length) (gCst x) (z + X.length + 0) = _
    rw [Nat.add_zero]
    exact upd_eq
  · show upd (s.2.1 21) (z + X.length) (gCst x) j = _
    exact upd_ne (by omega)
/-- the reference has emitted Y from c on -/
def gAy (c : Nat) (Y : List gIt) (m0 m : ms_S) : Prop := m.1 39 = nI (c + Y.length) ∧ gCds Y c m ∧ ∀ j, j < c → m.2.1 40 j = m0.2.1 40 j ∧ m.2.1 41 j = m0.2.1 41 j
theorem gCds_ext {X : List gIt} {c : Nat} {m n : ms_S} (h : gCds X c m) (e : ∀ j, j < c + X.length → n.2.1 40 j = m.2.1 40 j ∧ n.2.1 41 j = m.2.1 41 j) : gCds X c n := fun i x hx => by
  have hlt : i < X.length := by
    rcases Nat.lt_or_ge i X.length with q | q
    · exact q
    · rw [List.getElem?_eq_none q] at hx; cases hx
  rw [(e _ (by omega)).1, (e _ (by omega)).2]
  exact h i x hx
theorem gCds_join {X Y : List gIt} {c : Nat} {m : ms_S} (h : gCds X c m) (k : gCds Y (c + X.length) m) : gCds (X ++ Y) c m := fun i x hx => by
  rcases Nat.lt_or_ge i X.length with q | q
  · rw [List.getElem?_append_left q] at hx
    exact h i x hx
  · rw [List.getElem?_append_right q] at hx
    have := k (i - X.length) x hx
    rw [show c + X.length + (i - X.length) = c + i by omega] at this
    exact this
theorem gAy.tr {c : Nat} {X Y : List gIt} {m0 m1 m2 : ms_S} (h : gAy c X m0 m1) (k : gAy (c + X.length) Y m1 m2) : gAy c (X ++ Y) m0 m2 := by
  obtain ⟨h1, h2, h3⟩ := h
  obtain ⟨k1, k2, k3⟩ := k
  refine ⟨by rw [List.length_append, ← Nat.add_assoc]; exact k1, gCds_join (gCds_ext h2 (fun j hj => k3 j hj)) k2, fun j hj => ?_⟩
  rw [(k3 j (by omega)).1, (k3 j (by omega)).2]
  exact h3 j hj
theorem gAy.nil {c : Nat} {m0 m : ms_S} (h : m.1 39 = nI c) (e : m.2.1 40 = m0.2.1 40) (e2 : m.2.1 41 = m0.2.1 41) : gAy c [] m0 m := ⟨h, fun i x hx => by simp at hx, fun j _ => by rw [e, e2]; exact ⟨rfl, rfl⟩⟩
theorem gAy.mv {c : Nat} {X : List gIt} {m0 m n : ms_S} (h : gAy c X m0 m) (e : n.1 39 = m.1 39) (e1 : n.2.1 40 = m.2.1 40) (e2 : n.2.1 41 = m.2.1 41) : gAy c X m0 n := by
  obtain ⟨h1, h2, h3⟩ := h
  exact ⟨e.trans h1, h2.mv e1 e2, by rw [e1, e2]; exact h3⟩
theorem gAy.mv0 {c : Nat} {X : List gIt} {m0 m1 m : ms_S} (h : gAy c X m0 m) (e1 : m0.2.1 40 = m1.2.1 40) (e2 : m0.2.1 41 = m1.2.1 41) : gAy c X m1 m := by
  unfold gAy
  rw [← e1, ← e2]
  exact h
theorem m_emit1 {m : ms_S} {c a b : Nat} (h : m.1 39 = nI c) (hc : c < 840) : ∃ m2, mf_emit m (nI a) (nI b) = some m2 ∧ msF [39, 40, 41] m m2 ∧ gAy c [(a, b)] m m2 := by
  refine ⟨ms_sA (ms_sA (ms_sI m 39 (nI (c + 1))) 40 (upd (m.2.1 40) c (nI a))) 41 (upd (m.2.1 41) c (nI b)), wO_iff.mp ?_, (msF.sI (by decide)).tr ((msF.sA (by decide)).tr (msF.sA (by decide))), rfl, fun i x hx => ?_, fun j hj => ?_⟩
  · unfold mf_emit
    rw [h]
    refine wO_in (k := c) rfl hc (by omega) (wO_in (k := c) rfl hc (by omega) ?_)
    rw [nI_clamp (by omega), nI_1]
    exact wO_some rfl
  · have : i = 0 ∧ x = (a, b) := by
      cases i with
      | zero => exact ⟨rfl, by simpa using hx.symm⟩
      | succ i => simp at hx
    rw [this.1, this.2]
    show upd (m.2.1 40) c (nI a) (c + 0) = nI a ∧ upd (m.2.1 41) c (nI b) (c + 0) = nI b
    rw [Nat.add_zero]
    exact ⟨upd_eq, upd_eq⟩
  · show upd (m.2.1 40) c (nI a) j = m.2.1 40 j ∧ upd (m.2.1 41) c (nI b) j = m.2.1 41 j
    exact ⟨upd_ne (by omega), upd_ne (by omega)⟩
/-- an operator that waits, by the reference's kind -/
def gOpi (o : Nat) : gIt := (if o = 8 then 2 else if o = 9 then 3 else if o = 10 then 4 else 5, 0)
/-- the operators that wait -/
def gWt (st : List Nat) (m : ms_S) : Prop := m.1 43 = nI st.length ∧ gPil (st.map nI) (m.2.1 42)
theorem gPil_tail {a : Int32} {st : List Int32} {A : Nat → Int32} (h : gPil (a :: st) A) : gPil st A := fun j x hj => by
  have := h (j + 1) x (by simpa using hj)
  have e : (a :: st).length - 1 - (j + 1) = st.length - 1 - j := by
    show st.length + 1 - 1 - (j + 1) = _
    omega
  rw [e] at this
  exact this
theorem gPil_head {a : Int32} {st : List Int32} {A : Nat → Int32} (h : gPil (a :: st) A) : A st.length = a := h 0 a rfl
theorem gWt_tail {o : Nat} {st : List Nat} {m : ms_S} (h : gPil ((o :: st).map nI) (m.2.1 42)) : gPil (st.map nI) (m.2.1 42) := gPil_tail h
theorem m_comes {b : Bool} {σ : List Nat} (hσ : σ = [] ∨ ∃ h τ, σ = h :: τ ∧ h < 100 ∧ (h = 6 ∨ (b = true ∧ (h = 8 ∨ h = 9)))) : ∀ (pd : List Nat) (m : ms_S) (c : Nat), (∀ o, o ∈ pd → o = 10 ∨ o = 15 ∨ (b = false ∧ (o = 8 ∨ o = 9))) → gWt (pd ++ σ) m → (pd ++ σ).length ≤ 60 → m.1 39 = nI c → c + pd.length ≤ 840 → ∃ r m2, mo_loop (mf_comesOut_l0 (bif b then 1 else 0)) m = some r ∧ (r = .inl m2 ∨ r = .inr m2) ∧ msF [39, 40, 41, 43] m m2 ∧ gWt σ m2 ∧ gAy c (pd.map gOpi) m m2 := by
  intro pd
  induction pd with
  | nil =>
    intro m c hpd hw hl hc hcc
    have hw : gWt σ m := hw
    have fin : gAy c [] m m := gAy.nil hc rfl rfl
    rcases hσ with rfl | ⟨h, τ, rfl, hlt, hh⟩
    · refine ⟨.inr m, m, mo_loop_inr (wO_iff.mp ?_), Or.inr rfl, msF.rf, hw, fin⟩
      unfold mf_comesOut_l0
      exact wO_pos (by rw [hw.1]; exact Int32.le_refl _) (wO_some rfl)
    · have hl2 : (h :: τ).length ≤ 60 := hl
      have hl3 : (h :: τ).length = τ.length + 1 := rfl
      have top : m.2.1 42 τ.length = nI h := by
        have := gPil_head (st := τ.map nI) hw.2
        rw [List.length_map] at this
        exact this
      refine ⟨.inl m, m, mo_loop_inr (wO_iff.mp ?_), Or.inl rfl, msF.rf, hw, fin⟩
      unfold mf_comesOut_l0
      rw [hw.1, hl3]
      refine wO_neg (nI_nle (by omega) (by omega)) (wO_agv (k := τ.length) (v := nI h) (pu_sub (a := τ.length + 1) (b := 1) (by omega)) (by omega) (by omega) top ?_)
      rcases hh with q | ⟨qb, q | q⟩
      · rw [q]; exact wO_pos rfl (wO_some rfl)
      · rw [q, qb]; exact wO_neg (by decide) (wO_neg (by decide) (wO_pos rfl (wO_some rfl)))
      · rw [q, qb]; exact wO_neg (by decide) (wO_neg (by decide) (wO_neg (by decide) (wO_pos rfl (wO_some rfl))))
  | cons o pd ih =>
    intro m c hpd hw hl hc hcc
    have hl2 : (pd ++ σ).length + 1 ≤ 60 := hl
    have ho := hpd o (List.mem_cons_self ..)
    have hlen : (o :: pd ++ σ).length = (pd ++ σ).length + 1 := rfl
    have hcc2 : c + (pd.length + 1) ≤ 840 := hcc
    have top : m.2.1 42 (pd ++ σ).length = nI o := by
      have := gPil_head (st := (pd ++ σ).map nI) hw.2
      rw [List.length_map] at this
      exact this
    have e43 : m.1 43 = nI ((pd ++ σ).length + 1) := hw.1
    obtain ⟨m1, em, f1, a1⟩ := m_emit1 (m := ms_sI m 43 (nI (pd ++ σ).length)) (c := c) (a := (gOpi o).1) (b := 0) hc (by omega)
    have f0 : msF [39, 40, 41, 43] m (ms_sI m 43 (nI (pd ++ σ).length)) := msF.sI (by decide)
    have fm : msF [39, 40, 41, 43] m m1 := f0.tr (f1.wk (by decide))
    have a2 : gAy c [gOpi o] m m1 := a1.mv0 rfl rfl
    have step : mf_comesOut_l0 (bif b then 1 else 0) m = some (.inl m1) := by
      refine wO_iff.mp ?_
      unfold mf_comesOut_l0
      rw [e43]
      refine wO_neg (nI_nle (by omega) (by omega)) (wO_agv (k := (pd ++ σ).length) (v := nI o) (pu_sub (a := (pd ++ σ).length + 1) (b := 1) (by omega)) (by omega) (by omega) top ?_)
      have j23 : wO (mf_comesOut_j23 m (bif b then 1 else 0) (nI o)) (fun q => q = .inl m1) := by
        unfold mf_comesOut_j23 mf_comesOut_j46
        rw [e43, show nI ((pd ++ σ).length + 1) - (1 : Int32) = nI (pd ++ σ).length from pu_sub (a := (pd ++ σ).length + 1) (b := 1) (by omega)]
        rcases ho with q | q | ⟨-, q | q⟩
        · subst q
          exact wO_neg (by decide) (wO_neg (by decide) (wO_pos rfl (wO_eq em (wO_some rfl))))
        · subst q
          exact wO_neg (by decide) (wO_neg (by decide) (wO_neg (by decide) (wO_eq em (wO_some rfl))))
        · subst q
          exact wO_pos rfl (wO_eq em (wO_some rfl))
        · subst q
          exact wO_neg (by decide) (wO_pos rfl (wO_eq em (wO_some rfl)))
      refine wO_neg (by rcases ho with q | q | ⟨-, q | q⟩ <;> subst q <;> decide) ?_
      cases hb : b with
      | false =>
        rw [hb] at j23
        exact wO_pos rfl j23
      | true =>
        rw [hb] at j23
        refine wO_neg pu_10 (wO_neg ?_ (wO_neg ?_ j23))
        · rcases ho with q | q | ⟨q, -⟩
          · subst q; decide
          · subst q; decide
          · rw [hb] at q; cases q
        · rcases ho with q | q | ⟨q, -⟩
          · subst q; decide
          · subst q; decide
          · rw [hb] at q; cases q
    have e42 : m1.2.1 42 = m.2.1 42 := fm.a 42 (by decide)
    obtain ⟨r, m2, q1, q2, q3, q4, q5⟩ := ih m1 (c + 1) (fun x hx => hpd x (List.mem_cons_of_mem _ hx)) ⟨f1.i 43 (by decide), by rw [e42]; exact gWt_tail hw.2⟩ (by omega) a2.1 (by omega)
    refine ⟨r, m2, (mo_loop_inl step).trans q1, q2, fm.tr q3, q4, ?_⟩
    exact a2.tr (Y := pd.map gOpi) q5
theorem m_comesOut {b : Bool} {σ pd : List Nat} {m : ms_S} {c : Nat} (hσ : σ = [] ∨ ∃ h τ, σ = h :: τ ∧ h < 100 ∧ (h = 6 ∨ (b = true ∧ (h = 8 ∨ h = 9)))) (hpd : ∀ o, o ∈ pd → o = 10 ∨ o = 15 ∨ (b = false ∧ (o = 8 ∨ o = 9))) (hw : gWt (pd ++ σ) m) (hl : (pd ++ σ).length ≤ 60) (hc : m.1 39 = nI c) (hcc : c + pd.length ≤ 840) : ∃ m2, mf_comesOut m (bif b then 1 else 0) = some m2 ∧ msF [39, 40, 41, 43] m m2 ∧ gWt σ m2 ∧ gAy c (pd.map gOpi) m m2 := by
  obtain ⟨r, m2, q1, q2, q3, q4, q5⟩ := m_comes hσ pd m c hpd hw hl hc hcc
  refine ⟨m2, wO_iff.mp ?_, q3, q4, q5⟩
  unfold mf_comesOut
  refine wO_eq q1 ?_
  rcases q2 with rfl | rfl
  · exact wO_some rfl
  · exact wO_some rfl
