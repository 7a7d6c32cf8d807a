/-! reading: one name more -/
theorem uL_eq {f : Nat → Int64} {k : Nat} {x : Int64} : vp_updL f k x k = x := if_pos rfl
theorem uL_ne {f : Nat → Int64} {k j : Nat} {x : Int64} (h : ¬ j = k) : vp_updL f k x j = f j := if_neg h
theorem gNm.spk {ns nw : Nat} {s t : xs_S} {m n : ms_S} {x : Int64} (h : gNm ns nw s m) (hn : ns < 5) (h275 : t.1 275 = nI (ns + 1)) (h276 : t.1 276 = s.1 276) (h7 : t.2.2.1 7 = vp_updL (s.2.2.1 7) ns x) (h8 : t.2.2.1 8 = s.2.2.1 8) (h20 : n.1 20 = nI (ns + nw + 1)) (h22 : n.2.1 22 = upd (m.2.1 22) (ns + nw) (nI ns)) (h21 : n.2.2 21 = vp_updL (m.2.2 21) (ns + nw) x) : gNm (ns + 1) nw t n := by
  obtain ⟨h1, h2, h3, h4, h5, A, a1, a2, a3, a4⟩ := h
  obtain ⟨B, hB1, hB2⟩ : ∃ B : Nat → Nat, B (ns + nw) = ns ∧ ∀ i, ¬ i = ns + nw → B i = A i := ⟨fun i => if i = ns + nw then ns else A i, if_pos rfl, fun i h => if_neg h⟩
  refine ⟨by omega, h2, h275, h276.trans h4, by rw [h20]; congr 1; omega, B, fun i hi => ?_, fun a ha => ?_, fun b hb => ?_, fun i j hij hj ai aj => ?_⟩
  · by_cases e : i = ns + nw
    · subst e
      rw [hB1, h22, upd_eq, h21, uL_eq, h7, uL_eq]
      exact ⟨rfl, Or.inl ⟨by omega, rfl⟩⟩
    · rw [hB2 i e, h22, upd_ne e, h21, uL_ne e]
      obtain ⟨q1, q2⟩ := a1 i (by omega)
      refine ⟨q1, ?_⟩
      rcases q2 with ⟨q2, q3⟩ | ⟨q2, b, q3, q4⟩
      · exact Or.inl ⟨by omega, by rw [h7, uL_ne (by omega)]; exact q3⟩
      · exact Or.inr ⟨q2, b, q3, by rw [h8]; exact q4⟩
  · by_cases e : a = ns
    · exact ⟨ns + nw, by omega, by rw [hB1, e]⟩
    · obtain ⟨i, i1, i2⟩ := a2 a (by omega)
      exact ⟨i, by omega, by rw [hB2 i (by omega)]; exact i2⟩
  · obtain ⟨i, i1, i2⟩ := a3 b hb
    exact ⟨i, by omega, by rw [h21, uL_ne (by omega), h8]; exact i2⟩
  · have hi : ¬ i = ns + nw := by omega
    rw [hB2 i hi] at ai ⊢
    by_cases e : j = ns + nw
    · rw [e, hB1]
      rcases (a1 i (by omega)).2 with ⟨q, -⟩ | ⟨q, -⟩
      · exact q
      · omega
    · rw [hB2 j e] at aj ⊢
      exact a4 i j hij (by omega) ai aj
theorem gNm.wrd {ns nw : Nat} {s t : xs_S} {m n : ms_S} {x : Int64} (h : gNm ns nw s m) (hn : nw < 6) (h275 : t.1 275 = s.1 275) (h276 : t.1 276 = nI (nw + 1)) (h8 : t.2.2.1 8 = vp_updL (s.2.2.1 8) nw x) (h7 : t.2.2.1 7 = s.2.2.1 7) (h20 : n.1 20 = nI (ns + nw + 1)) (h22 : n.2.1 22 = upd (m.2.1 22) (ns + nw) (nI 10)) (h21 : n.2.2 21 = vp_updL (m.2.2 21) (ns + nw) x) : gNm ns (nw + 1) t n := by
  obtain ⟨h1, h2, h3, h4, h5, A, a1, a2, a3, a4⟩ := h
  obtain ⟨B, hB1, hB2⟩ : ∃ B : Nat → Nat, B (ns + nw) = 10 ∧ ∀ i, ¬ i = ns + nw → B i = A i := ⟨fun i => if i = ns + nw then 10 else A i, if_pos rfl, fun i h => if_neg h⟩
  refine ⟨h1, by omega, h275.trans h3, h276, by rw [h20]; congr 1, B, fun i hi => ?_, fun a ha => ?_, fun b hb => ?_, fun i j hij hj ai aj => ?_⟩
  · by_cases e : i = ns + nw
    · subst e
      rw [hB1, h22, upd_eq, h21, uL_eq, h8]
      exact ⟨rfl, Or.inr ⟨rfl, nw, by omega, uL_eq.symm⟩⟩
    · rw [hB2 i e, h22, upd_ne e, h21, uL_ne e]
      obtain ⟨q1, q2⟩ := a1 i (by omega)
      refine ⟨q1, ?_⟩
      rcases q2 with ⟨q2, q3⟩ | ⟨q2, b, q3, q4⟩
      · exact Or.inl ⟨q2, by rw [h7]; exact q3⟩
      · exact Or.inr ⟨q2, b, by omega, by rw [h8, uL_ne (by omega)]; exact q4⟩
  · obtain ⟨i, i1, i2⟩ := a2 a ha
    exact ⟨i, by omega, by rw [hB2 i (by omega)]; exact i2⟩
  · by_cases e : b = nw
    · exact ⟨ns + nw, by omega, by rw [h21, uL_eq, h8, e, uL_eq]⟩
    · obtain ⟨i, i1, i2⟩ := a3 b (by omega)
      exact ⟨i, by omega, by rw [h21, uL_ne (by omega), h8, uL_ne e]; exact i2⟩
  · have hi : ¬ i = ns + nw := by omega
    rw [hB2 i hi] at ai ⊢
    by_cases e : j = ns + nw
    · rw [e, hB1] at aj
      omega
    · rw [hB2 j e] at aj ⊢
      exact a4 i j hij (by omega) ai aj
