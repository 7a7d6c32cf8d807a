/-! reading: the smaller parts once there is a fault -/
theorem x_place_bad {P : Nat → Nat} {N f p : Nat} {s : xs_S} (g : gXb P N f p s) : ∃ v, xf_6_placeNow s = some (v, s) := by
  obtain ⟨⟨-, -, -, t, t1, t2, -⟩, -, C, c1, c2, c3⟩ := g
  refine ⟨s.2.1 4 t, wO_iff.mp ?_⟩
  unfold xf_6_placeNow
  rw [t2, c3]
  exact wO_neg (nI_ge (by omega) (by omega)) (wO_ag (k := t) rfl (by omega) (by omega) (wO_some rfl))
theorem x_val_bad {P : Nat → Nat} {N f p : Nat} {s : xs_S} (g : gXb P N f p s) : ∃ v, xf_6_value s = some (v, s) := by
  obtain ⟨⟨-, -, -, t, t1, t2, -⟩, -, C, c1, c2, c3⟩ := g
  exact ⟨_, x_value_any (t := t) (C := C) (by omega) c2 c3 t2⟩
theorem x_int_bad {P : Nat → Nat} {N f p : Nat} {s : xs_S} {lo hi : Int32} (g : gXb P N f p s) : ∃ r, xf_6_takeInt s lo hi = some (r, s) := by
  obtain ⟨v, hv⟩ := x_val_bad g
  obtain ⟨w, hw⟩ := x_place_bad g
  refine ⟨v.toInt32, wO_iff.mp ?_⟩
  unfold xf_6_takeInt
  exact wO_eq hv (wO_eq hw (wO_eq (x_take_bad g.1 _) (wO_pos rfl (wO_some rfl))))
theorem x_name_bad {P : Nat → Nat} {N f p : Nat} {s : xs_S} (g : gXb P N f p s) : ∃ r, xf_6_takeNewName s = some (r, s) := by
  obtain ⟨v, hv⟩ := x_val_bad g
  obtain ⟨w, hw⟩ := x_place_bad g
  refine ⟨v, wO_iff.mp ?_⟩
  unfold xf_6_takeNewName
  exact wO_eq hv (wO_eq hw (wO_eq (x_take_bad g.1 _) (wO_pos rfl (wO_some rfl))))
theorem x_spk_bad {P : Nat → Nat} {N f p ns : Nat} {s : xs_S} {a0 : Int32} (hn : ns ≤ 5) (h : s.1 275 = nI ns) (g : gXb P N f p s) : ∃ r, xf_6_takeSpeaker s a0 = some (r, s) := by
  obtain ⟨v, hv⟩ := x_val_bad g
  obtain ⟨w, hw⟩ := x_place_bad g
  obtain ⟨o, -, ho⟩ := x_named hn h v
  refine ⟨gOi o, wO_iff.mp ?_⟩
  unfold xf_6_takeSpeaker
  exact wO_eq hv (wO_eq ho (wO_eq hw (wO_eq (x_take_bad g.1 _) (wO_pos rfl (wO_some rfl)))))
theorem gF0 {f p : Nat} {m : ms_S} (h : gFm2 f p m) : (0 : Int32) < m.1 13 := by
  have q : ∀ f, f < 3 → 1 ≤ f → (0 : Int32) < nI f := by decide
  rw [h.2.2.1]
  exact q f (by have := h.2.1; omega) h.1
theorem gF1 {f p : Nat} {m : ms_S} (h : gFm2 f p m) : ¬ m.1 13 ≤ (0 : Int32) := by
  rw [h.2.2.1]
  exact gF12 h.1 h.2.1
theorem gF2 {f p : Nat} {m : ms_S} (h : gFm2 f p m) : ¬ m.1 13 = (0 : Int32) := by
  rw [h.2.2.1]
  exact nI_ne0 h.1 (by have := h.2.1; omega)
theorem m_bounded_bad {f p : Nat} {m : ms_S} {lo hi : Int32} (h : gFm2 f p m) : mf_bounded m lo hi = some (lo, m) := by
  refine wO_iff.mp ?_
  unfold mf_bounded
  refine wO_pos (gF0 h) ?_
  unfold mf_bounded_j7
  exact wO_eq (m_fail_bad h _) (wO_some rfl)
theorem m_named_bad {f p nn : Nat} {m : ms_S} (h : gFm2 f p m) (h20 : m.1 20 = nI nn) : mf_named m = some (m.1 11, m) := by
  refine wO_iff.mp ?_
  unfold mf_named
  exact wO_eq (m_must_bad h _) (wO_eq (m_namedl_bad h h20) (wO_some rfl))
theorem m_known_bad {f p : Nat} {m : ms_S} (h : gFm2 f p m) : mf_known m = some (-1, m) := by
  refine wO_iff.mp ?_
  unfold mf_known
  exact wO_eq (m_must_bad h _) (wO_neg (gF1 h) (wO_some rfl))
theorem m_ends_bad {f p : Nat} {m : ms_S} {a b : Int32} (h : gFm2 f p m) : mf_endsName m a b = some m := by
  refine wO_iff.mp ?_
  unfold mf_endsName
  exact wO_eq (m_must_bad h _) (wO_neg (gF1 h) (wO_some rfl))
