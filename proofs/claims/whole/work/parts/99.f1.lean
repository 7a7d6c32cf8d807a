/-! reading: a law; with a fault both come to the end -/
noncomputable def xq9 (w h : Int32) (s : xs_S) : Option ((Int32 × xs_S) ⊕ xs_S) := (xf_3_emit_20 s (20005 : Int32)).bind fun s_21 => (xf_3_fill_20 s_21 h (s_21.1 321)).bind fun s_22 => some (.inl ((w + (1 : Int32)), s_22))
noncomputable def xq8 (w h : Int32) (s : xs_S) : Option ((Int32 × xs_S) ⊕ xs_S) := (xf_6_take s (11 : Int32)).bind fun (_, s_20) => xq9 w h s_20
noncomputable def xq7 (w h : Int32) (s : xs_S) : Option ((Int32 × xs_S) ⊕ xs_S) := (xf_6_sum 8 s (0 : Int32)).bind fun s_19 => xq8 w h s_19
noncomputable def xq6 (w : Int32) (s : xs_S) : Option ((Int32 × xs_S) ⊕ xs_S) := (xf_3_emit_20 s (20004 : Int32)).bind fun s_17 => (xf_3_emit_20 s_17 (0 : Int32)).bind fun s_18 => xq7 w (s_17.1 321) s_18
noncomputable def xq5 (w : Int32) (s : xs_S) : Option ((Int32 × xs_S) ⊕ xs_S) := (xf_6_take s (10 : Int32)).bind fun (_, s_16) => xq6 w s_16
noncomputable def xq4 (w : Int32) (s : xs_S) : Option ((Int32 × xs_S) ⊕ xs_S) := (xf_6_sum 8 s (0 : Int32)).bind fun s_15 => xq5 w s_15
noncomputable def xq3 (w : Int32) (s : xs_S) : Option ((Int32 × xs_S) ⊕ xs_S) := (xf_6_take s (29 : Int32)).bind fun (_, s_14) => xq4 w s_14
noncomputable def xq2 (w : Int32) (s : xs_S) : Option ((Int32 × xs_S) ⊕ xs_S) := (xf_6_sum 8 s (0 : Int32)).bind fun s_13 => xq3 w s_13
theorem xq1_eq {s : xs_S} {v1 v2 w : Int32} : xf_6_tellLaw_j44 s v1 v2 w = (xf_6_take s (9 : Int32)).bind fun (_, s_12) => xq2 w s_12 := rfl
/-- frames of a law in the class -/
def xLi : List Nat := [100, 101, 321]
def xLa : List Nat := [21]
def gXe (P : Nat → Nat) (N f p : Nat) (w : Int32) (s : xs_S) (o : Option ((Int32 × xs_S) ⊕ xs_S)) : Prop := ∃ s2, o = some (.inl (w + 1, s2)) ∧ xsF [321] [21] s s2 ∧ gXb P N f p s2
theorem xq9_bad {P : Nat → Nat} {N f p h : Nat} {w : Int32} {s : xs_S} (hh : h ≤ 401) (g : gXb P N f p s) : gXe P N f p w s (xq9 w (nI h) s) := by
  obtain ⟨s1, e1, f1, g1⟩ := x_emit_any (v := 20005) g.2.1
  have gg := g.mv f1 g1
  unfold xq9
  by_cases c : h < 401
  · refine ⟨xs_sA s1 21 (upd (s1.2.1 21) h (s1.1 321)), wO_iff.mp (wO_eq e1 (wO_eq (wO_iff.mp ?_) (wO_some rfl))), f1.tr (xsF.sA (by decide)), gg.mv (xsF.sA (by decide)) g1⟩
    unfold xf_3_fill_20
    refine wO_neg (show ¬ nI 401 ≤ nI h from nI_ge c (by omega)) (wO_in (k := h) rfl c (by omega) ?_)
    rw [nI_clamp (by omega)]
    exact wO_some rfl
  · refine ⟨s1, wO_iff.mp (wO_eq e1 (wO_eq (wO_iff.mp ?_) (wO_some rfl))), f1, gg⟩
    unfold xf_3_fill_20
    exact wO_pos (show nI 401 ≤ nI h from nI_le (by omega) (by omega)) (wO_some rfl)
theorem xq8_bad {P : Nat → Nat} {N f p h : Nat} {w : Int32} {s : xs_S} (hh : h ≤ 401) (g : gXb P N f p s) : gXe P N f p w s (xq8 w (nI h) s) := by
  unfold xq8
  rw [x_take_bad g.1]
  exact xq9_bad hh g
theorem gXe.pre {P : Nat → Nat} {N f p : Nat} {w : Int32} {s s1 : xs_S} {o : Option ((Int32 × xs_S) ⊕ xs_S)} (h : gXe P N f p w s1 o) (hF : xsF [321] [21] s s1) : gXe P N f p w s o := by
  obtain ⟨s2, e, f2, g⟩ := h
  exact ⟨s2, e, hF.tr f2, g⟩
theorem xq7_bad {P : Nat → Nat} {N f p h : Nat} {w : Int32} {s : xs_S} (hh : h ≤ 401) (g : gXb P N f p s) : gXe P N f p w s (xq7 w (nI h) s) := by
  obtain ⟨s1, e1, f1, g1⟩ := x_sum_bad (n := 7) (a := 0) g
  unfold xq7
  rw [e1]
  exact (xq8_bad hh g1).pre f1
theorem xq6_bad {P : Nat → Nat} {N f p : Nat} {w : Int32} {s : xs_S} (g : gXb P N f p s) : gXe P N f p w s (xq6 w s) := by
  obtain ⟨s1, e1, f1, g1⟩ := x_emit_any (v := 20004) g.2.1
  obtain ⟨s2, e2, f2, g2⟩ := x_emit_any (v := 0) g1
  obtain ⟨z, hz, ez⟩ := g1
  unfold xq6
  rw [e1]
  show gXe P N f p w s ((xf_3_emit_20 s1 0).bind fun s_18 => xq7 w (s1.1 321) s_18)
  rw [e2, ez]
  exact (xq7_bad hz ((g.mv f1 ⟨z, hz, ez⟩).mv f2 g2)).pre (f1.tr f2)
theorem xq5_bad {P : Nat → Nat} {N f p : Nat} {w : Int32} {s : xs_S} (g : gXb P N f p s) : gXe P N f p w s (xq5 w s) := by
  unfold xq5
  rw [x_take_bad g.1]
  exact xq6_bad g
theorem xq4_bad {P : Nat → Nat} {N f p : Nat} {w : Int32} {s : xs_S} (g : gXb P N f p s) : gXe P N f p w s (xq4 w s) := by
  obtain ⟨s1, e1, f1, g1⟩ := x_sum_bad (n := 7) (a := 0) g
  unfold xq4
  rw [e1]
  exact (xq5_bad g1).pre f1
theorem xq3_bad {P : Nat → Nat} {N f p : Nat} {w : Int32} {s : xs_S} (g : gXb P N f p s) : gXe P N f p w s (xq3 w s) := by
  unfold xq3
  rw [x_take_bad g.1]
  exact xq4_bad g
theorem xq2_bad {P : Nat → Nat} {N f p : Nat} {w : Int32} {s : xs_S} (g : gXb P N f p s) : gXe P N f p w s (xq2 w s) := by
  obtain ⟨s1, e1, f1, g1⟩ := x_sum_bad (n := 7) (a := 0) g
  unfold xq2
  rw [e1]
  exact (xq3_bad g1).pre f1
theorem xq1_bad {P : Nat → Nat} {N f p : Nat} {v1 v2 w : Int32} {s : xs_S} (g : gXb P N f p s) : gXe P N f p w s (xf_6_tellLaw_j44 s v1 v2 w) := by
  rw [xq1_eq, x_take_bad g.1]
  exact xq2_bad g
/-! the reference with a fault -/
def gKl : List Nat := [11, 12, 13, 14, 33, 34, 35, 36, 37, 38, 39, 40, 41, 42, 43]
/-- of the branches only B is written, and no code -/
def gFq (B : Nat) (m n : ms_S) : Prop := msF gKl m n ∧ (∀ j, j ∈ [34, 35, 36, 37, 38] → ∀ i, ¬ i = B → n.2.1 j i = m.2.1 j i) ∧ n.2.1 40 = m.2.1 40 ∧ n.2.1 41 = m.2.1 41
theorem gFq.tr {B : Nat} {a b c : ms_S} (h : gFq B a b) (k : gFq B b c) : gFq B a c := ⟨h.1.tr k.1, fun j hj i hi => (k.2.1 j hj i hi).trans (h.2.1 j hj i hi), k.2.2.1.trans h.2.2.1, k.2.2.2.trans h.2.2.2⟩
theorem gFq.of {B : Nat} {Ks : List Nat} {a b : ms_S} (h : msF Ks a b) (hK : ∀ j, j ∈ Ks → j ∈ gKl ∧ ¬ j ∈ [34, 35, 36, 37, 38, 40, 41]) : gFq B a b := by
  have q : ∀ j, j ∈ [34, 35, 36, 37, 38] → j ∈ [34, 35, 36, 37, 38, 40, 41] := by decide
  refine ⟨h.wk (fun j hj => (hK j hj).1), fun j hj i _ => ?_, h.a 40 (fun hj => (hK 40 hj).2 (by decide)), h.a 41 (fun hj => (hK 41 hj).2 (by decide))⟩
  rw [h.a j (fun hk => (hK j hk).2 (q j hj))]
theorem gFq.up {B j : Nat} {A : Nat → Int32} {m : ms_S} (hj : j ∈ [34, 35, 36, 37, 38]) (hA : ∀ i, ¬ i = B → A i = m.2.1 j i) : gFq B m (ms_sA m j A) := by
  have q : ∀ j, j ∈ [34, 35, 36, 37, 38] → j ∈ gKl ∧ ¬ 40 = j ∧ ¬ 41 = j := by decide
  obtain ⟨q1, q2, q3⟩ := q j hj
  refine ⟨msF.sA q1, fun k hk i hi => ?_, mm_up_ne q2, mm_up_ne q3⟩
  by_cases e : k = j
  · subst e
    show mm_up m.2.1 k A k i = _
    rw [mm_up_eq]
    exact hA i hi
  · show mm_up m.2.1 j A k i = _
    rw [mm_up_ne e]
theorem gFq.rf {B : Nat} {m : ms_S} : gFq B m m := ⟨msF.rf, fun _ _ _ _ => rfl, rfl, rfl⟩
def gMb (f p B : Nat) (m : ms_S) : Prop := gFm2 f p m ∧ m.1 33 = nI B
theorem m_expr_bad {f p : Nat} {m : ms_S} (h : gFm2 f p m) : mf_expression m = some (ms_sI m 43 0) := by
  refine wO_iff.mp ?_
  unfold mf_expression
  refine wO_eq (x := (Sum.inr (Sum.inr (ms_sI m 43 0)) : eX)) ?_ ?_
  rotate_left
  · exact wO_some rfl
  refine mo_loop_inr (wO_iff.mp ?_)
  unfold mf_expression_l8
  exact wO_neg pu_10 (wO_neg (show ¬ m.1 13 = 0 by rw [h.2.2.1]; exact nI_ne0 h.1 (by have := h.2.1; omega)) (wO_some rfl))
theorem m_term_bad {f p B : Nat} {m : ms_S} (h : gMb f p B m) (hB : B < 260) : ∃ m2, mf_term m = some m2 ∧ gFq B m m2 ∧ gMb f p (B + 1) m2 := by
  have hf := h.1
  refine ⟨ms_sA (ms_sI (ms_sA m 37 (upd (m.2.1 37) B (m.1 39))) 33 (nI (B + 1))) 38 (upd (m.2.1 38) B (m.1 39)), wO_iff.mp ?_, (gFq.up (by decide) (fun i hi => upd_ne hi)).tr ((gFq.of (Ks := [33]) (msF.sI (by decide)) (by decide)).tr (gFq.up (by decide) (fun i hi => upd_ne hi))), ⟨hf.1, hf.2.1, hf.2.2.1, hf.2.2.2⟩, rfl⟩
  unfold mf_term mf_term_j12
  rw [h.2]
  refine wO_in (k := B) rfl hB (by omega) (wO_neg (by rw [hf.2.2.1]; exact nI_ne0 hf.1 (by have := hf.2.1; omega)) ?_)
  show wO (bif mo_in (m.1 33) 260 then some (ms_sA (ms_sI (ms_sA m 37 _) 33 ((m.1 33) + (1 : Int32))) 38 (upd (m.2.1 38) (m.1 33).toNatClampNeg (m.1 39))) else none) _
  rw [h.2]
  refine wO_in (k := B) rfl hB (by omega) ?_
  rw [nI_clamp (by omega), nI_1]
  exact wO_some rfl
noncomputable def mr7 (w : Int32) (s : ms_S) : Option ((Int32 × ms_S) ⊕ ((ms_S) ⊕ (ms_S))) := (mf_must s (31 : Int32)).bind fun s_18 => some (.inl (w, s_18))
noncomputable def mr6 (w : Int32) (s : ms_S) : Option ((Int32 × ms_S) ⊕ ((ms_S) ⊕ (ms_S))) := (mf_term s).bind fun s_17 => mr7 w s_17
noncomputable def mr5 (w : Int32) (s : ms_S) : Option ((Int32 × ms_S) ⊕ ((ms_S) ⊕ (ms_S))) := (mf_must s (30 : Int32)).bind fun s_16 => mr6 w s_16
theorem mr5_eq {s : ms_S} {v1 v2 w : Int32} : mf_tellLaw_j58 s v1 v2 w = mr5 w s := rfl
noncomputable def mr4 (w : Int32) (s : ms_S) : Option ((Int32 × ms_S) ⊕ ((ms_S) ⊕ (ms_S))) := bif mo_in (s.1 33) 260 then (if (s.1 13) = (0 : Int32) then ((mf_expression (ms_sA s 36 (upd (s.2.1 36) ((s.1 33)).toNatClampNeg ((s.1 39))))).bind fun s_15 => mr5 w s_15) else mr5 w (ms_sA s 36 (upd (s.2.1 36) ((s.1 33)).toNatClampNeg ((s.1 39))))) else none
noncomputable def mr3 (w : Int32) (s : ms_S) : Option ((Int32 × ms_S) ⊕ ((ms_S) ⊕ (ms_S))) := (mf_must s (13 : Int32)).bind fun s_12 => mr4 w s_12
noncomputable def mr2 (w : Int32) (s : ms_S) : Option ((Int32 × ms_S) ⊕ ((ms_S) ⊕ (ms_S))) := bif mo_in (s.1 33) 260 then (bif mo_in (s.1 33) 260 then ((mf_expression (ms_sA (ms_sA s 34 (upd (s.2.1 34) ((s.1 33)).toNatClampNeg ((vp_nar .boolean (1 : Int32))))) 35 (upd (s.2.1 35) ((s.1 33)).toNatClampNeg ((s.1 39))))).bind fun s_11 => mr3 w s_11) else none) else none
theorem mr1_eq {s : ms_S} {v1 v2 v3 : Int32} : mf_tellLaw_j21 s v1 v2 v3 = if (s.1 13) ≤ (0 : Int32) then ((mf_goesOn s).bind fun s_8 => mr2 (v3 + (1 : Int32)) s_8) else some (.inr (.inl (s))) := rfl
def gMe (f p B : Nat) (w : Int32) (m : ms_S) (o : Option ((Int32 × ms_S) ⊕ ((ms_S) ⊕ (ms_S)))) : Prop := ∃ m2, o = some (.inl (w, m2)) ∧ gFq B m m2 ∧ gMb f p (B + 1) m2
theorem gMe.pre {f p B : Nat} {w : Int32} {m m1 : ms_S} {o : Option ((Int32 × ms_S) ⊕ ((ms_S) ⊕ (ms_S)))} (h : gMe f p B w m1 o) (hF : gFq B m m1) : gMe f p B w m o := by
  obtain ⟨m2, e, f2, g⟩ := h
  exact ⟨m2, e, hF.tr f2, g⟩
theorem mr6_bad {f p B : Nat} {w : Int32} {m : ms_S} (h : gMb f p B m) (hB : B < 260) : gMe f p B w m (mr6 w m) := by
  obtain ⟨m1, e1, f1, g1⟩ := m_term_bad h hB
  unfold mr6 mr7
  rw [e1]
  show gMe f p B w m ((mf_must m1 31).bind fun s_18 => some (.inl (w, s_18)))
  rw [m_must_bad g1.1]
  exact ⟨m1, rfl, f1, g1⟩
theorem mr7_bad {f p B : Nat} {w : Int32} {m : ms_S} (h : gMb f p (B + 1) m) : gMe f p B w m (mr7 w m) := by
  unfold mr7
  rw [m_must_bad h.1]
  exact ⟨m, rfl, gFq.rf, h⟩
theorem mr5_bad {f p B : Nat} {w : Int32} {m : ms_S} (h : gMb f p B m) (hB : B < 260) : gMe f p B w m (mr5 w m) := by
  unfold mr5
  rw [m_must_bad h.1]
  exact mr6_bad h hB
theorem mr4_bad {f p B : Nat} {w : Int32} {m : ms_S} (h : gMb f p B m) (hB : B < 260) : gMe f p B w m (mr4 w m) := by
  have hf := h.1
  unfold mr4
  rw [h.2, pu_in (k := B) rfl hB (by omega), nI_clamp (by omega)]
  show gMe f p B w m (if (m.1 13) = (0 : Int32) then _ else mr5 w (ms_sA m 36 (upd (m.2.1 36) B (m.1 39))))
  rw [if_neg (by rw [hf.2.2.1]; exact nI_ne0 hf.1 (by have := hf.2.1; omega))]
  exact (mr5_bad (m := ms_sA m 36 (upd (m.2.1 36) B (m.1 39))) h hB).pre (gFq.up (by decide) (fun i hi => upd_ne hi))
theorem mr3_bad {f p B : Nat} {w : Int32} {m : ms_S} (h : gMb f p B m) (hB : B < 260) : gMe f p B w m (mr3 w m) := by
  unfold mr3
  rw [m_must_bad h.1]
  exact mr4_bad h hB
theorem mr2_bad {f p B : Nat} {w : Int32} {m : ms_S} (h : gMb f p B m) (hB : B < 260) : gMe f p B w m (mr2 w m) := by
  unfold mr2
  rw [h.2, pu_in (k := B) rfl hB (by omega), nI_clamp (by omega)]
  show gMe f p B w m ((mf_expression (ms_sA (ms_sA m 34 (upd (m.2.1 34) B (vp_nar .boolean (1 : Int32)))) 35 (upd (m.2.1 35) B (m.1 39)))).bind fun s_11 => mr3 w s_11)
  have h2 : gMb f p B (ms_sA (ms_sA m 34 (upd (m.2.1 34) B (vp_nar .boolean (1 : Int32)))) 35 (upd (m.2.1 35) B (m.1 39))) := h
  rw [m_expr_bad h2.1]
  exact (mr3_bad (m := ms_sI (ms_sA (ms_sA m 34 (upd (m.2.1 34) B (vp_nar .boolean (1 : Int32)))) 35 (upd (m.2.1 35) B (m.1 39))) 43 0) h2 hB).pre ((gFq.up (by decide) (fun i hi => upd_ne hi)).tr ((gFq.up (by decide) (fun i hi => upd_ne hi)).tr (gFq.of (Ks := [43]) (msF.sI (by decide)) (by decide))))
