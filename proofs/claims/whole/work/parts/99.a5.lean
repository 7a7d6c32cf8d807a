/-! the reference: which pairs are calm -/
def mQ3 : List Nat := [44, 45, 46, 48, 49, 50, 51, 52, 53, 56, 57, 58, 59, 60, 61]
theorem MN.mv {g : gT} {lv : Nat} {K : List Nat} {s t : ms_S} {po : Option (Nat × Nat)} {st : Nat} (h : MN g lv s po st) (hF : msF K s t) (h1 : ∀ j ∈ gTF, ¬ j ∈ K) (h2 : ¬ 47 ∈ K) : MN g lv t po st := by
  obtain ⟨a1, a2, a3, a4, a5, a6⟩ := h
  have e := hF.a 47 h2
  refine ⟨a1.mv hF h1, a2, by rw [e]; exact a3, by rw [e]; exact a4, by rw [e]; exact a5, ?_⟩
  unfold gPN at a6 ⊢
  rw [e]
  exact a6
noncomputable def gCb (g : gT) (ti i j : Nat) : Bool := decide (i < j) && decide (gKw2 g ti i j = 0)
theorem gBs_no {f : Nat → Bool} : ∀ {n : Nat}, (∀ j, j < n → f j = false) → gBs f n = 0
  | 0, _ => rfl
  | n + 1, h => by
    simp only [gBs]
    rw [gBs_no (n := n) (fun j hj => h j (by omega)), h n (by omega)]
    rfl
theorem gKw2_le {g : gT} {ti l r : Nat} : gKw2 g ti l r ≤ 2 := gWn_lt gWf_k
theorem m_fillsCalm {g : gT} {lv ti : Nat} {m : ms_S} {po : Option (Nat × Nat)} {st : Nat} (h : MN g lv m po st) (h29 : m.2.1 29 lv = nI ti) (hti : ti ≤ 20) : wO (mf_fillsCalm m) (fun t => msF mQ3 m t ∧ ∀ i, i < g.1.1 → t.2.1 61 i = nI (gBs (gCb g ti i) g.1.1)) := by
  have hns := h.1.2.2.1
  have hlv := h.1.1
  unfold mf_fillsCalm
  refine wO_bd (Q := fun t => msF mQ3 m t ∧ ∀ i, i < g.1.1 → t.2.1 61 i = nI (gBs (gCb g ti i) g.1.1)) ?_ (fun t ht => wO_some ht)
  refine wO_count (fun (i : Nat) (p : Int32 × ms_S) => p.1 = nI i ∧ msF mQ3 m p.2 ∧ ∀ j, j < i → j < g.1.1 → p.2.2.1 61 j = nI (gBs (gCb g ti j) g.1.1)) 5 ?_ ?_ _ ⟨rfl, msF.rf, fun j hj => absurd hj (by omega)⟩
  · rintro i ⟨w1, u⟩ hi ⟨e, hF, hu⟩
    have e : w1 = nI i := e
    subst e
    have hF : msF mQ3 m u := hF
    have hu : ∀ j, j < i → j < g.1.1 → u.2.1 61 j = nI (gBs (gCb g ti j) g.1.1) := hu
    unfold mf_fillsCalm_l2
    refine wO_neg (show ¬ (5 : Int32) ≤ nI i from nI_ge (b := 5) hi (by omega)) ?_
    refine wO_in (k := i) rfl (by omega) (by omega) ?_
    rw [nI_clamp (by omega), nI_1 i]
    have hF0 : msF mQ3 m (ms_sA u 61 (upd (u.2.1 61) i 0)) := hF.tr (msF.sA (by decide))
    have z0 : (ms_sA u 61 (upd (u.2.1 61) i 0)).2.1 61 i = 0 := by
      show upd (u.2.1 61) i 0 i = _
      exact upd_eq
    have o0 : ∀ j, ¬ j = i → (ms_sA u 61 (upd (u.2.1 61) i 0)).2.1 61 j = u.2.1 61 j := fun j hj => by
      show upd (u.2.1 61) i 0 j = _
      exact upd_ne hj
    generalize ms_sA u 61 (upd (u.2.1 61) i 0) = u0 at *
    have start0 : gBs (gCb g ti i) (i + 1) = 0 := gBs_no (fun j hj => by
      unfold gCb
      rw [decide_eq_false (by omega)]
      rfl)
    refine wO_bd (Q := fun t => msF mQ3 m t ∧ (∀ j, ¬ j = i → t.2.1 61 j = u.2.1 61 j) ∧ (i < g.1.1 → t.2.1 61 i = nI (gBs (gCb g ti i) g.1.1))) ?_ ?_
    · refine wO_count (fun (k : Nat) (p : Int32 × ms_S) => p.1 = nI (i + 1 + k) ∧ msF mQ3 m p.2 ∧ (∀ j, ¬ j = i → p.2.2.1 61 j = u.2.1 61 j) ∧ p.2.2.1 61 i = nI (gBs (gCb g ti i) (i + 1 + k))) (g.1.1 - (i + 1)) ?_ ?_ _ ⟨rfl, hF0, o0, by rw [Nat.add_zero, start0]; exact z0⟩
      · rintro k ⟨w2, v⟩ hk ⟨e2, hFv, ho, hat⟩
        have e2 : w2 = nI (i + 1 + k) := e2
        subst e2
        have hFv : msF mQ3 m v := hFv
        have ho : ∀ j, ¬ j = i → v.2.1 61 j = u.2.1 61 j := ho
        have hat : v.2.1 61 i = nI (gBs (gCb g ti i) (i + 1 + k)) := hat
        have hj : i + 1 + k < g.1.1 := by omega
        have hMv : MN g lv v po st := h.mv hFv (by decide) (by decide)
        unfold mf_fillsCalm_l14
        refine wO_agv (k := lv) hMv.1.2.1 (by omega) (by omega) hMv.1.2.2.2.2.1 ?_
        refine wO_neg (nI_ge hj (by omega)) ?_
        refine wO_agv (k := lv) hMv.1.2.1 (by omega) (by omega) hMv.1.2.2.2.2.1 ?_
        refine wO_neg (nI_ge (by omega) (by omega)) ?_
        refine wO_bd (m_calmOf (l := i) (r := i + 1 + k) hMv (by rw [hFv.a 29 (by decide)]; exact h29) hti (by omega) hj) ?_
        rintro ⟨a, v2⟩ ⟨c1, c2⟩
        have c1 : a = nI (gKw2 g ti i (i + 1 + k)) := c1
        have c2 : msF mQ v v2 := c2
        subst c1
        have e61 : v2.2.1 61 = v.2.1 61 := c2.a 61 (by decide)
        have hle := @gKw2_le g ti i (i + 1 + k)
        obtain ⟨st1, st2⟩ := gHg_step (B := gCb g ti i) (i := i + 1 + k) (by omega)
        unfold mf_fillsCalm_j43
        by_cases hz : gKw2 g ti i (i + 1 + k) = 0
        · refine wO_pos (by rw [hz]; rfl) ?_
          refine wO_agv (k := i) (v := nI (gBs (gCb g ti i) (i + 1 + k))) rfl (by omega) (by omega) (by rw [e61]; exact hat) ?_
          refine wO_in (k := i) rfl (by omega) (by omega) ?_
          rw [nI_clamp (by omega)]
          have hb : gCb g ti i (i + 1 + k) = true := by
            unfold gCb
            rw [decide_eq_true (show i < i + 1 + k by omega), decide_eq_true hz]
            rfl
          refine wO_some ⟨nI_1 _, hFv.tr ((c2.wk (by decide)).tr (msF.sA (by decide))), fun j hj2 => ?_, ?_⟩
          · show upd (v2.2.1 61) i _ j = _
            rw [upd_ne hj2, e61]
            exact ho j hj2
          · show upd (v2.2.1 61) i _ i = _
            rw [upd_eq]
            exact st1 hb
        · refine wO_neg (fun e => hz ((nI_eq (b := 0) (by omega) (by omega)).mp e)) ?_
          have hb : gCb g ti i (i + 1 + k) = false := by
            unfold gCb
            rw [decide_eq_false hz, Bool.and_false]
          refine wO_some ⟨nI_1 _, hFv.tr (c2.wk (by decide)), fun j hj2 => ?_, ?_⟩
          · show v2.2.1 61 j = _
            rw [e61]
            exact ho j hj2
          · show v2.2.1 61 i = _
            rw [e61, hat]
            exact st2 hb
      · rintro ⟨w2, v⟩ ⟨e2, hFv, ho, hat⟩
        have e2 : w2 = nI (i + 1 + (g.1.1 - (i + 1))) := e2
        subst e2
        have hFv : msF mQ3 m v := hFv
        have hat : v.2.1 61 i = nI (gBs (gCb g ti i) (i + 1 + (g.1.1 - (i + 1)))) := hat
        have hMv : MN g lv v po st := h.mv hFv (by decide) (by decide)
        unfold mf_fillsCalm_l14
        refine wO_agv (k := lv) hMv.1.2.1 (by omega) (by omega) hMv.1.2.2.2.2.1 ?_
        refine wO_pos (nI_le (by omega) (by omega)) (wO_some ⟨hFv, ho, fun hlt => ?_⟩)
        rw [show i + 1 + (g.1.1 - (i + 1)) = g.1.1 by omega] at hat
        exact hat
    · rintro t ⟨t1, t2, t3⟩
      unfold mf_fillsCalm_j45
      refine wO_some ⟨nI_1 i, t1, fun j hj hjn => ?_⟩
      by_cases he : j = i
      · subst he; exact t3 hjn
      · exact (t2 j he).trans (hu j (by omega) hjn)
  · rintro ⟨w1, u⟩ ⟨e, hF, hu⟩
    have e : w1 = nI 5 := e
    subst e
    unfold mf_fillsCalm_l2
    exact wO_pos (Int32.le_refl _) (wO_some ⟨hF, fun i hi => hu i (by omega) hi⟩)
