/-! the reference: copies of rows, records; both: a thing done is kept -/
theorem wO_cp {step : (Int32 × ms_S) → Option ((Int32 × ms_S) ⊕ ms_S)} {s : ms_S} (d b N : Nat) (src : Nat → Int32) (hs : ∀ i u, i < N → msF [d] s u → (∀ j, j < b ∨ b + i ≤ j → u.2.1 d j = s.2.1 d j) → wO (step (nI i, u)) (fun r => r = .inl (nI (i + 1), ms_sA u d (upd (u.2.1 d) (b + i) (src i))))) (he : ∀ u, wO (step (nI N, u)) (fun r => r = .inr u)) : wO (mo_loop step (0, s)) (fun t => msF [d] s t ∧ (∀ k, k < N → t.2.1 d (b + k) = src k) ∧ ∀ j, j < b ∨ b + N ≤ j → t.2.1 d j = s.2.1 d j) := by
  refine wO_count (fun (i : Nat) (p : Int32 × ms_S) => p.1 = nI i ∧ msF [d] s p.2 ∧ (∀ k, k < i → p.2.2.1 d (b + k) = src k) ∧ ∀ j, j < b ∨ b + i ≤ j → p.2.2.1 d j = s.2.1 d j) N ?_ ?_ _ ⟨rfl, msF.rf, fun k hk => absurd hk (by omega), fun _ _ => rfl⟩
  · rintro i ⟨w, u⟩ hi ⟨e, hF, h1, h2⟩
    have e : w = nI i := e
    subst e
    have hF : msF [d] s u := hF
    have h1 : ∀ k, k < i → u.2.1 d (b + k) = src k := h1
    have h2 : ∀ j, j < b ∨ b + i ≤ j → u.2.1 d j = s.2.1 d j := h2
    refine wO_mono (hs i u hi hF h2) ?_
    rintro r rfl
    have e1 : ∀ j, (ms_sA u d (upd (u.2.1 d) (b + i) (src i))).2.1 d j = upd (u.2.1 d) (b + i) (src i) j := fun j => by
      show mm_up u.2.1 d _ d j = _
      rw [mm_up_eq]
    refine ⟨rfl, hF.tr (msF.sA (List.mem_singleton.mpr rfl)), fun k hk => ?_, fun j hj => ?_⟩
    · refine (e1 (b + k)).trans ?_
      by_cases he : k = i
      · subst he; exact upd_eq
      · rw [upd_ne (by omega)]; exact h1 k (by omega)
    · refine (e1 j).trans ?_
      rw [upd_ne (by omega)]
      exact h2 j (by omega)
  · rintro ⟨w, u⟩ ⟨e, hF, h1, h2⟩
    have e : w = nI N := e
    subst e
    refine wO_mono (he u) ?_
    rintro r rfl
    exact ⟨hF, h1, h2⟩
theorem m_keepsRow {s : ms_S} : wO (mf_keepsRow s) (fun t => msF [47] s t ∧ ∀ k, k < 12 → t.2.1 47 k = s.2.1 48 k) := by
  unfold mf_keepsRow
  refine wO_bd (wO_cp 47 0 12 (s.2.1 48) (fun i u hi hF _ => ?_) (fun u => ?_)) (fun t ht => wO_some ⟨ht.1, fun k hk => ?_⟩)
  · unfold mf_keepsRow_l2
    refine wO_neg (show ¬ (12 : Int32) ≤ nI i from nI_ge (b := 12) hi (by omega)) ?_
    refine wO_agv (k := i) rfl (by omega) (by omega) (by rw [hF.a 48 (by decide)]) ?_
    refine wO_in (k := i) rfl (by omega) (by omega) ?_
    rw [nI_clamp (by omega), nI_1, Nat.zero_add]
    exact wO_some rfl
  · unfold mf_keepsRow_l2
    exact wO_pos (Int32.le_refl _) (wO_some rfl)
  · have := ht.2.1 k hk
    rw [Nat.zero_add] at this
    exact this
theorem m_rec1 {u : ms_S} {y : Nat} (hy : y < 40) (h : u.1 54 = nI y) : wO (mf_records_j27 u) (fun t => msF [47, 54, 55] u t ∧ t.1 54 = nI (y + 1) ∧ (∀ k, k < 12 → t.2.1 47 k = u.2.1 48 k) ∧ (∀ k, k < 12 → t.2.1 55 (12 * y + k) = u.2.1 47 k) ∧ ∀ j, j < 12 * y → t.2.1 55 j = u.2.1 55 j) := by
  unfold mf_records_j27
  refine wO_bd (wO_cp 55 (12 * y) 12 (u.2.1 47) (fun i v hi hF _ => ?_) (fun v => ?_)) ?_
  · have e : (12 : Int32) * v.1 54 + nI i = nI (12 * y + i) := by
      rw [hF.i 54 (by decide), h, show (12 : Int32) * nI y = nI (12 * y) from pu_mul 12 y, nI_add]
    unfold mf_records_l29
    refine wO_neg (show ¬ (12 : Int32) ≤ nI i from nI_ge (b := 12) hi (by omega)) ?_
    refine wO_agv (k := i) rfl (by omega) (by omega) (by rw [hF.a 47 (by decide)]) ?_
    refine wO_in (k := 12 * y + i) e (by omega) (by omega) ?_
    rw [e, nI_clamp (by omega), nI_1]
    exact wO_some rfl
  · unfold mf_records_l29
    exact wO_pos (Int32.le_refl _) (wO_some rfl)
  · rintro t ⟨f1, c1, c2⟩
    refine wO_bd m_keepsRow ?_
    rintro t2 ⟨f2, d2⟩
    have f3 : msF [54] t (ms_sI t 54 (t.1 54 + 1)) := msF.sI (by decide)
    have e55 : t2.2.1 55 = t.2.1 55 := f2.a 55 (by decide)
    refine wO_some ⟨(f1.wk (by decide)).tr ((f3.wk (by decide)).tr (f2.wk (by decide))), ?_, fun k hk => ?_, fun k hk => ?_, fun j hj => ?_⟩
    · refine (f2.i 54 (by decide)).trans ?_
      show t.1 54 + 1 = _
      rw [f1.i 54 (by decide), h]
      exact nI_1 y
    · refine (d2 k hk).trans ?_
      show t.2.1 48 k = _
      rw [f1.a 48 (by decide)]
    · rw [e55]; exact c1 k hk
    · rw [e55]; exact c2 j (Or.inl hj)
theorem m_records {s : ms_S} {z : Nat} (hz : z ≤ 40) (h : s.1 54 = nI z) : wO (mf_records s) (fun t => msF [47, 54, 55] s t ∧ t.1 54 = nI (min (z + 1) 40) ∧ (∀ k, k < 12 → t.2.1 47 k = s.2.1 48 k) ∧ ∀ i k, i < min (z + 1) 40 → k < 12 → t.2.1 55 (12 * i + k) = if i + 1 = min (z + 1) 40 then s.2.1 47 k else s.2.1 55 (12 * (i + (z + 1 - min (z + 1) 40)) + k)) := by
  unfold mf_records
  by_cases h40 : z = 40
  · subst h40
    refine wO_pos h ?_
    refine wO_bd (wO_cp 55 0 468 (fun j => s.2.1 55 (j + 12)) (fun i u hi hF ho => ?_) (fun u => ?_)) ?_
    · have e : nI i + (12 : Int32) = nI (i + 12) := nI_add i 12
      unfold mf_records_l6
      refine wO_neg (show ¬ (468 : Int32) ≤ nI i from nI_ge (b := 468) hi (by omega)) ?_
      refine wO_agv (k := i + 12) e (by omega) (by omega) (ho (i + 12) (by omega)) ?_
      refine wO_in (k := i) rfl (by omega) (by omega) ?_
      rw [nI_clamp (by omega), nI_1, Nat.zero_add]
      exact wO_some rfl
    · unfold mf_records_l6
      exact wO_pos (Int32.le_refl _) (wO_some rfl)
    · rintro t ⟨f1, c1, c2⟩
      have e54 : (ms_sI t 54 (t.1 54 - 1)).1 54 = nI 39 := by
        show t.1 54 - 1 = nI 39
        rw [f1.i 54 (by decide), h]
        exact pu_sub (a := 40) (b := 1) (by omega)
      have f3 : msF [54] t (ms_sI t 54 (t.1 54 - 1)) := msF.sI (by decide)
      refine wO_mono (m_rec1 (y := 39) (by omega) e54) ?_
      rintro t2 ⟨f2, d1, d2, d3, d4⟩
      refine ⟨(f1.wk (by decide)).tr ((f3.wk (by decide)).tr f2), d1, fun k hk => ?_, fun i k hi hk => ?_⟩
      · rw [d2 k hk]
        show t.2.1 48 k = _
        rw [f1.a 48 (by decide)]
      · by_cases hi2 : i = 39
        · subst hi2
          rw [d3 k hk, if_pos (by omega)]
          show t.2.1 47 k = _
          rw [f1.a 47 (by decide)]
        · rw [if_neg (by omega), d4 _ (by omega)]
          show t.2.1 55 (12 * i + k) = _
          have := c1 (12 * i + k) (by omega)
          rw [Nat.zero_add] at this
          rw [this]
          exact congrArg (s.2.1 55) (show 12 * i + k + 12 = _ by omega)
  · refine wO_neg (fun e => h40 ((nI_eq (by omega) (by omega)).mp (h.symm.trans e))) ?_
    refine wO_mono (m_rec1 (y := z) (by omega) h) ?_
    rintro t ⟨f2, d1, d2, d3, d4⟩
    have em : min (z + 1) 40 = z + 1 := by omega
    rw [em]
    refine ⟨f2, d1, d2, fun i k hi hk => ?_⟩
    by_cases hi2 : i = z
    · subst hi2
      rw [d3 k hk, if_pos rfl]
    · rw [if_neg (by omega), d4 _ (by omega)]
      exact congrArg (s.2.1 55) (show 12 * i + k = _ by omega)
theorem pu_modn {k m : Nat} (hk : k < 2 ^ 31) (hm : m < 2 ^ 31) : nI k - nI k / nI m * nI m = nI (k % m) := by
  rw [pu_div hk hm, pu_mul, pu_sub (Nat.div_mul_le_self k m)]
  congr 1
  have := Nat.div_add_mod k m
  rw [Nat.mul_comm] at this
  omega
theorem x_keep {g : gT} {po : Option (Nat × Nat)} {st : Nat} {s : xs_S} {m : ms_S} (hP : RP g s m) (hG : RG g po st s m) : ∃ s1, xf_5_keep_25 s = some s1 ∧ (∀ j, ¬ (433 ≤ j ∧ j < 1760) → s1.1 j = s.1 j) ∧ (∀ j, ¬ (30 ≤ j ∧ j < 111) → s1.2.1 j = s.2.1 j) ∧ s1.2.2 = s.2.2 ∧ ∀ m1 : ms_S, m1.1 54 = m.1 54 → m1.2.1 55 = m.2.1 55 → m1.2.1 47 = m.2.1 47 → wO (mf_records m1) (fun n1 => msF [47, 54, 55] m1 n1 ∧ (∀ k, k < 12 → n1.2.1 47 k = m1.2.1 48 k) ∧ RP g s1 n1) := by
  obtain ⟨x, z, a1, a2, a3, a4, a5, a6⟩ := hP
  have c33 : (xcp s 400 26 (464 + 32 * x) (30 + 2 * x)).1 433 = nI x := (xcp_o (by omega)).trans a1
  have c34 : (xcp s 400 26 (464 + 32 * x) (30 + 2 * x)).1 434 = nI z := (xcp_o (by omega)).trans a3
  have o33 : (xkO s x).1 433 = nI ((x + 1) % 40) := by
    show (xcp s 400 26 (464 + 32 * x) (30 + 2 * x)).1 433 + (1 : Int32) - ((xcp s 400 26 (464 + 32 * x) (30 + 2 * x)).1 433 + (1 : Int32)) / (40 : Int32) * (40 : Int32) = _
    rw [c33, nI_1]
    exact pu_modn (m := 40) (by omega) (by omega)
  have o34 : (xkO s x).1 434 = nI (min (z + 1) 40) := by
    show mm_min ((xcp s 400 26 (464 + 32 * x) (30 + 2 * x)).1 434 + (1 : Int32)) (40 : Int32) = _
    rw [c34, nI_1]
    exact pu_min (b := 40) (by omega) (by omega)
  have oo : ∀ j, ¬ j = 433 → ¬ j = 434 → (xkO s x).1 j = (xcp s 400 26 (464 + 32 * x) (30 + 2 * x)).1 j := fun j h1 h2 => (mm_up_ne h2).trans (mm_up_ne h1)
  have oa : ∀ j, (xkO s x).2.1 j = (xcp s 400 26 (464 + 32 * x) (30 + 2 * x)).2.1 j := fun j => rfl
  refine ⟨xkO s x, x_keepF a2 a1, fun j hj => ?_, fun j hj => ?_, rfl, fun m1 e1 e2 e3 => ?_⟩
  · rw [oo j (by omega) (by omega)]
    exact xcp_o (by omega)
  · rw [oa]
    exact xcp_ao (by omega)
  · refine wO_mono (m_records a5 (e1.trans a4)) ?_
    rintro n1 ⟨f, d1, d2, d3⟩
    refine ⟨f, d2, (x + 1) % 40, min (z + 1) 40, o33, Nat.mod_lt _ (by omega), o34, d1, by omega, fun i hi => ?_⟩
    by_cases hl : i + 1 = min (z + 1) 40
    · have ep : gpos ((x + 1) % 40) (min (z + 1) 40) i = x := by
        unfold gpos
        omega
      rw [ep]
      refine ⟨po, st, GS.cg hG (fun k hk => ?_) (fun k hk => ?_) (fun k hk => ?_)⟩
      · show (xkO s x).1 (464 + 32 * x + k) = s.1 (400 + k)
        rw [oo _ (by omega) (by omega)]
        exact xcp_i hk
      · rw [oa]
        exact xcp_a hk
      · show n1.2.1 55 (12 * i + k) = m.2.1 47 k
        rw [d3 i k hi hk, if_pos hl, e3]
    · have ep : gpos ((x + 1) % 40) (min (z + 1) 40) i = gpos x z (i + (z + 1 - min (z + 1) 40)) := by
        unfold gpos
        omega
      have en : ¬ gpos x z (i + (z + 1 - min (z + 1) 40)) = x := by
        unfold gpos
        omega
      obtain ⟨po2, st2, hg⟩ := a6 (i + (z + 1 - min (z + 1) 40)) (by omega)
      rw [ep]
      generalize gpos x z (i + (z + 1 - min (z + 1) 40)) = p at *
      refine ⟨po2, st2, hg.cg (fun k hk => ?_) (fun k hk => ?_) (fun k hk => ?_)⟩
      · show (xkO s x).1 (464 + 32 * p + k) = s.1 (464 + 32 * p + k)
        rw [oo _ (by omega) (by omega)]
        exact xcp_o (by omega)
      · rw [oa, xcp_ao (by omega)]
      · show n1.2.1 55 (12 * i + k) = m.2.1 55 (12 * (i + (z + 1 - min (z + 1) 40)) + k)
        rw [d3 i k hi hk, if_neg hl, e2]
