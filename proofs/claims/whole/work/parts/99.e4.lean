/-! reading: tokens as both have them; taking one -/
/-- a token's kind in the reference, by the class's -/
def gMk2 (k : Nat) : Nat := if k ≤ 20 then k + 20 else [1, 2, 4, 5, 8, 9, 10, 15, 13, 6, 7, 0, 3].getD (k - 21) 0
theorem gMk2_inj : ∀ a, a < 34 → ∀ b, b < 34 → gMk2 a = gMk2 b → a = b := by decide
theorem gMk2_le : ∀ a, a < 34 → gMk2 a ≤ 40 := by decide
/-- the tokens up to N: kinds, places, numbers, names -/
def gTok (K P V : Nat → Nat) (W : Nat → Int64) (N : Nat) (s : xs_S) (m : ms_S) : Prop := N ≤ 400 ∧ (∃ C, N < C ∧ C ≤ 402 ∧ s.1 21 = nI C) ∧ (N < 400 → K N = 32 ∨ K N = 33) ∧ (∀ i j, i < j → j ≤ N → P i < P j) ∧ ∀ i, i ≤ N → K i < 34 ∧ s.2.1 3 i = nI (K i) ∧ m.2.1 5 i = nI (gMk2 (K i)) ∧ P i ≤ 2000 ∧ s.2.1 4 i = nI (P i) ∧ m.2.1 6 i = nI (P i) ∧ (K i = 22 → (s.2.2.1 5 i).toInt32 = nI (V i) ∧ m.2.1 7 i = nI (V i) ∧ V i < 10000) ∧ (K i = 21 → s.2.2.1 5 i = W i ∧ m.2.2 8 i = W i)
theorem gTok.mv {K P V : Nat → Nat} {W : Nat → Int64} {N : Nat} {s t : xs_S} {m n : ms_S} (h : gTok K P V W N s m) (h1 : t.1 21 = s.1 21) (h2 : t.2.1 3 = s.2.1 3) (h3 : t.2.1 4 = s.2.1 4) (h4 : t.2.2.1 5 = s.2.2.1 5) (h5 : n.2.1 5 = m.2.1 5) (h6 : n.2.1 6 = m.2.1 6) (h7 : n.2.1 7 = m.2.1 7) (h8 : n.2.2 8 = m.2.2 8) : gTok K P V W N t n := by
  unfold gTok
  rw [h1, h2, h3, h4, h5, h6, h7, h8]
  exact h
/-- both stand at token t, no fault yet -/
def gHl (N t : Nat) (s : xs_S) (m : ms_S) : Prop := t ≤ N ∧ s.1 100 = nI t ∧ s.1 101 = 0 ∧ m.1 11 = nI t ∧ m.1 13 = 0
/-- a fault f at the place p -/
def gFx (P : Nat → Nat) (N f p : Nat) (s : xs_S) : Prop := 1 ≤ f ∧ f ≤ 2 ∧ s.1 101 = nI f ∧ ∃ t, t ≤ N ∧ s.1 100 = nI t ∧ P t = p
def gFm2 (f p : Nat) (m : ms_S) : Prop := 1 ≤ f ∧ f ≤ 2 ∧ m.1 13 = nI f ∧ m.1 14 = nI p
theorem x_kind {K P V : Nat → Nat} {W : Nat → Int64} {N t : Nat} {s : xs_S} {m : ms_S} (hT : gTok K P V W N s m) (h : gHl N t s m) : xf_6_kind s = some (nI (K t), s) := by
  obtain ⟨t1, ⟨C, c1, c2, c3⟩, -, -, t5⟩ := hT
  obtain ⟨h1, h2, h3, -⟩ := h
  refine wO_iff.mp ?_
  unfold xf_6_kind
  rw [h2, c3]
  exact wO_pos h3 (wO_pos (nI_lt (by omega) (by omega)) (wO_agv (k := t) rfl (by omega) (by omega) (t5 t h1).2.1 (wO_some rfl)))
theorem x_kind_bad {P : Nat → Nat} {N f p : Nat} {s : xs_S} (h : gFx P N f p s) : xf_6_kind s = some (32, s) := by
  obtain ⟨h1, h2, h3, -⟩ := h
  refine wO_iff.mp ?_
  unfold xf_6_kind
  exact wO_neg (by rw [h3]; exact nI_ne0 h1 (by omega)) (wO_some rfl)
theorem x_take_bad {P : Nat → Nat} {N f p : Nat} {s : xs_S} (h : gFx P N f p s) (a : Int32) : xf_6_take s a = some (0, s) := by
  obtain ⟨h1, h2, h3, -⟩ := h
  refine wO_iff.mp ?_
  unfold xf_6_take
  exact wO_neg (by rw [h3]; exact nI_ne0 h1 (by omega)) (wO_some rfl)
theorem x_fail_bad {P : Nat → Nat} {N f p : Nat} {s : xs_S} (h : gFx P N f p s) (a : Int32) : xf_6_fail s a = some s := by
  obtain ⟨h1, h2, h3, -⟩ := h
  refine wO_iff.mp ?_
  unfold xf_6_fail
  exact wO_neg (by rw [h3]; exact nI_ne0 h1 (by omega)) (wO_some rfl)
theorem x_fail {K P V : Nat → Nat} {W : Nat → Int64} {N t f : Nat} {s : xs_S} {m : ms_S} (h : gHl N t s m) (hf1 : 1 ≤ f) (hf : f ≤ 2) : ∃ s2, xf_6_fail s (nI f) = some s2 ∧ xsF [100, 101] [] s s2 ∧ gFx P N f (P t) s2 := by
  obtain ⟨h1, h2, h3, -⟩ := h
  refine ⟨xs_sI s 101 (nI f), wO_iff.mp ?_, xsF.sI (by decide), hf1, hf, rfl, t, h1, h2, rfl⟩
  unfold xf_6_fail
  exact wO_pos h3 (wO_some rfl)
/-- the class takes a token: it goes on, or the fault is there -/
theorem x_take {K P V : Nat → Nat} {W : Nat → Int64} {N t k : Nat} {s : xs_S} {m : ms_S} (hT : gTok K P V W N s m) (h : gHl N t s m) (hk : k < 34) : ∃ s2, xsF [100, 101] [] s s2 ∧ ((K t = k ∧ t < 400 ∧ xf_6_take s (nI k) = some (1, s2) ∧ s2.1 100 = nI (t + 1) ∧ s2.1 101 = 0) ∨ ((K t = k ∧ t = 400 ∨ ¬ K t = k) ∧ xf_6_take s (nI k) = some (0, s2) ∧ gFx P N (if K t = k then 2 else 1) (P t) s2)) := by
  have hkd := x_kind hT h
  have hKt := (hT.2.2.2.2 t h.1).1
  have hN := hT.1
  obtain ⟨h1, h2, h3, -⟩ := id h
  by_cases c1 : K t = k
  · by_cases c2 : t < 400
    · refine ⟨xs_sI s 100 (nI (t + 1)), xsF.sI (by decide), Or.inl ⟨c1, c2, wO_iff.mp ?_, rfl, h3⟩⟩
      unfold xf_6_take
      refine wO_pos h3 (wO_eq hkd (wO_pos (by rw [c1]) (wO_pos (by rw [h2]; exact nI_lt (b := 400) c2 (by omega)) (wO_some ?_))))
      rw [h2, nI_1]
    · obtain ⟨s2, e2, f2, g2⟩ := x_fail (K := K) (P := P) (V := V) (W := W) (f := 2) h (by omega) (by omega)
      refine ⟨s2, f2, Or.inr ⟨Or.inl ⟨c1, by omega⟩, wO_iff.mp ?_, by rw [if_pos c1]; exact g2⟩⟩
      unfold xf_6_take
      exact wO_pos h3 (wO_eq hkd (wO_pos (by rw [c1]) (wO_neg (by rw [h2]; exact nI_nlt (b := 400) (by omega) (by omega)) (wO_eq e2 (wO_some rfl)))))
  · obtain ⟨s2, e2, f2, g2⟩ := x_fail (K := K) (P := P) (V := V) (W := W) (f := 1) h (by omega) (by omega)
    refine ⟨s2, f2, Or.inr ⟨Or.inr c1, wO_iff.mp ?_, by rw [if_neg c1]; exact g2⟩⟩
    unfold xf_6_take
    exact wO_pos h3 (wO_eq hkd (wO_neg (fun e => c1 ((nI_eq (by omega) (by omega)).mp e)) (wO_eq e2 (wO_some rfl))))
theorem gHl_next {K P V : Nat → Nat} {W : Nat → Int64} {N t : Nat} {s : xs_S} {m : ms_S} (hT : gTok K P V W N s m) (h1 : t ≤ N) (hk : ¬ K t = 32) (hk2 : ¬ K t = 33) (ht : t < 400) : t + 1 ≤ N := by
  by_cases e : t = N
  · subst e
    rcases hT.2.2.1 ht with q | q
    · exact absurd q hk
    · exact absurd q hk2
  · omega
theorem m_is {K P V : Nat → Nat} {W : Nat → Int64} {N t k : Nat} {s : xs_S} {m : ms_S} (hT : gTok K P V W N s m) (h : gHl N t s m) (hk : k < 34) : mf_is m (nI (gMk2 k)) = some ((if K t = k then 1 else 0), m) := by
  obtain ⟨h1, -, -, h4, h5⟩ := h
  have hN := hT.1
  have hKt := (hT.2.2.2.2 t h1).1
  have l1 := gMk2_le (K t) hKt
  have l2 := gMk2_le k hk
  refine wO_iff.mp ?_
  unfold mf_is
  rw [h4]
  refine wO_pos h5 (wO_agv (k := t) rfl (by omega) (by omega) (hT.2.2.2.2 t h1).2.2.1 ?_)
  by_cases c : K t = k
  · rw [if_pos c]
    exact wO_pos (by rw [c]) (wO_some rfl)
  · rw [if_neg c]
    exact wO_neg (fun e => c (gMk2_inj _ hKt _ hk ((nI_eq (by omega) (by omega)).mp e))) (wO_some rfl)
theorem m_is_bad {f p : Nat} {m : ms_S} (h : gFm2 f p m) (a : Int32) : mf_is m a = some (0, m) := by
  obtain ⟨h1, h2, h3, -⟩ := h
  refine wO_iff.mp ?_
  unfold mf_is
  exact wO_neg (by rw [h3]; exact nI_ne0 h1 (by omega)) (wO_some rfl)
theorem m_fail_bad {f p : Nat} {m : ms_S} (h : gFm2 f p m) (a : Int32) : mf_fail m a = some m := by
  obtain ⟨h1, h2, h3, -⟩ := h
  refine wO_iff.mp ?_
  unfold mf_fail
  exact wO_neg (by rw [h3]; exact nI_nle h1 (by omega)) (wO_some rfl)
theorem m_fail {K P V : Nat → Nat} {W : Nat → Int64} {N t f : Nat} {s : xs_S} {m : ms_S} (hT : gTok K P V W N s m) (h : gHl N t s m) (hf1 : 1 ≤ f) (hf : f ≤ 2) : ∃ m2, mf_fail m (nI f) = some m2 ∧ msF [11, 13, 14] m m2 ∧ gFm2 f (P t) m2 ∧ m2.1 11 = m.1 11 := by
  obtain ⟨h1, -, -, h4, h5⟩ := h
  have hN := hT.1
  refine ⟨ms_sI (ms_sI m 13 (nI f)) 14 (nI (P t)), wO_iff.mp ?_, (msF.sI (by decide)).tr (msF.sI (by decide)), ⟨hf1, hf, rfl, rfl⟩, rfl⟩
  unfold mf_fail
  rw [h4]
  exact wO_pos (by rw [h5]; exact Int32.le_refl _) (wO_agv (k := t) rfl (by omega) (by omega) (hT.2.2.2.2 t h1).2.2.2.2.2.1 (wO_some rfl))
theorem m_goesOn {K P V : Nat → Nat} {W : Nat → Int64} {N t : Nat} {s : xs_S} {m : ms_S} (hT : gTok K P V W N s m) (h : gHl N t s m) : ∃ m2, mf_goesOn m = some m2 ∧ msF [11, 13, 14] m m2 ∧ ((t < 400 ∧ m2.1 11 = nI (t + 1) ∧ m2.1 13 = 0) ∨ (t = 400 ∧ gFm2 2 (P t) m2 ∧ m2.1 11 = nI 400)) := by
  obtain ⟨h1, h2, h3, h4, h5⟩ := id h
  have hN := hT.1
  by_cases c : t = 400
  · obtain ⟨m2, e2, f2, g2, k2⟩ := m_fail (f := 2) hT h (by omega) (by omega)
    refine ⟨m2, wO_iff.mp ?_, f2, Or.inr ⟨c, g2, k2.trans (by rw [h4, c])⟩⟩
    unfold mf_goesOn
    exact wO_pos (by rw [h4, c]; rfl) (wO_eq e2 (wO_some rfl))
  · refine ⟨ms_sI m 11 (nI (t + 1)), wO_iff.mp ?_, msF.sI (by decide), Or.inl ⟨by omega, rfl, h5⟩⟩
    unfold mf_goesOn
    rw [h4]
    refine wO_neg (fun e => c ((nI_eq (b := 400) (by omega) (by omega)).mp e)) (wO_some ?_)
    rw [nI_1]
/-- with a fault: it may still go on -/
theorem m_goesOn_bad {f p t : Nat} {m : ms_S} (h : gFm2 f p m) (ht : t ≤ 400) (h11 : m.1 11 = nI t) : ∃ m2, mf_goesOn m = some m2 ∧ msF [11] m m2 ∧ gFm2 f p m2 ∧ ∃ t2, t2 ≤ 400 ∧ m2.1 11 = nI t2 := by
  by_cases c : t = 400
  · refine ⟨m, wO_iff.mp ?_, msF.rf, h, t, ht, h11⟩
    unfold mf_goesOn
    exact wO_pos (by rw [h11, c]; rfl) (wO_eq (m_fail_bad h 2) (wO_some rfl))
  · refine ⟨ms_sI m 11 (nI (t + 1)), wO_iff.mp ?_, msF.sI (by decide), ?_, t + 1, by omega, rfl⟩
    · unfold mf_goesOn
      rw [h11]
      refine wO_neg (fun e => c ((nI_eq (b := 400) (by omega) (by omega)).mp e)) (wO_some ?_)
      rw [nI_1]
    · obtain ⟨h1, h2, h3, h4⟩ := h
      exact ⟨h1, h2, h3, h4⟩
theorem m_must_bad {f p : Nat} {m : ms_S} (h : gFm2 f p m) (a : Int32) : mf_must m a = some m := by
  refine wO_iff.mp ?_
  unfold mf_must
  exact wO_eq (m_is_bad h a) (wO_pos rfl (wO_eq (m_fail_bad h 1) (wO_some rfl)))
/-- the reference must have a token -/
theorem m_must {K P V : Nat → Nat} {W : Nat → Int64} {N t k : Nat} {s : xs_S} {m : ms_S} (hT : gTok K P V W N s m) (h : gHl N t s m) (hk : k < 34) : ∃ m2, mf_must m (nI (gMk2 k)) = some m2 ∧ msF [11, 13, 14] m m2 ∧ ((K t = k ∧ t < 400 ∧ m2.1 11 = nI (t + 1) ∧ m2.1 13 = 0) ∨ ((K t = k ∧ t = 400 ∨ ¬ K t = k) ∧ gFm2 (if K t = k then 2 else 1) (P t) m2 ∧ m2.1 11 = nI t)) := by
  have hi := m_is hT h hk
  by_cases c : K t = k
  · rw [if_pos c] at hi
    obtain ⟨m2, e2, f2, g2⟩ := m_goesOn hT h
    refine ⟨m2, wO_iff.mp ?_, f2, ?_⟩
    · unfold mf_must
      exact wO_eq hi (wO_neg pu_10 (wO_eq e2 (wO_some rfl)))
    · rcases g2 with ⟨q1, q2, q3⟩ | ⟨q1, q2, q3⟩
      · exact Or.inl ⟨c, q1, q2, q3⟩
      · exact Or.inr ⟨Or.inl ⟨c, q1⟩, by rw [if_pos c]; exact q2, by rw [q1]; exact q3⟩
  · rw [if_neg c] at hi
    obtain ⟨m2, e2, f2, g2, k2⟩ := m_fail (f := 1) hT h (by omega) (by omega)
    refine ⟨m2, wO_iff.mp ?_, f2, Or.inr ⟨Or.inr c, by rw [if_neg c]; exact g2, k2.trans h.2.2.2.1⟩⟩
    unfold mf_must
    exact wO_eq hi (wO_pos rfl (wO_eq e2 (wO_some rfl)))
/-- both take one: on, or the same fault -/
theorem b_take {K P V : Nat → Nat} {W : Nat → Int64} {N t k : Nat} {s : xs_S} {m : ms_S} (hT : gTok K P V W N s m) (h : gHl N t s m) (hk : k < 32) : ∃ s2 m2, mf_must m (nI (gMk2 k)) = some m2 ∧ xsF [100, 101] [] s s2 ∧ msF [11, 13, 14] m m2 ∧ ((K t = k ∧ t < 400 ∧ xf_6_take s (nI k) = some (1, s2) ∧ gHl N (t + 1) s2 m2) ∨ (xf_6_take s (nI k) = some (0, s2) ∧ m2.1 11 = nI t ∧ ∃ f, gFx P N f (P t) s2 ∧ gFm2 f (P t) m2)) := by
  obtain ⟨s2, f2, hx⟩ := x_take hT h (show k < 34 by omega)
  obtain ⟨m2, e3, f3, hm⟩ := m_must hT h (show k < 34 by omega)
  refine ⟨s2, m2, e3, f2, f3, ?_⟩
  rcases hx with ⟨q1, q2, q3, q4, q5⟩ | ⟨q1, q2, q3⟩
  · rcases hm with ⟨r1, r2, r3, r4⟩ | ⟨r1, r2⟩
    · exact Or.inl ⟨q1, q2, q3, gHl_next hT h.1 (by omega) (by omega) q2, q4, q5, r3, r4⟩
    · rcases r1 with r | r
      · omega
      · exact absurd q1 r
  · rcases hm with ⟨r1, r2, r3, r4⟩ | ⟨r1, r2, r3⟩
    · rcases q1 with r | r
      · omega
      · exact absurd r1 r
    · exact Or.inr ⟨q2, r3, _, q3, r2⟩
