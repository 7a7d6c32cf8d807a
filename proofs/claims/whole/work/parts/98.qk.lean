/-! the class: ways, waking -/
theorem x_start {s : xs_S} {st : Nat} {v d : Int32} (h : st < 294) : xf_10_start s (nI (gph st)) v d = some (xs_sA s 132 (upd (xs_fl 294 d (s.2.1 132)) (gph st) v)) := by
  have hg := gph_lt h
  refine wO_iff.mp ?_
  unfold xf_10_start
  refine wO_in (k := gph st) rfl (by omega) (by omega) ?_
  rw [nI_clamp (by omega)]
  exact wO_some rfl
theorem xs_fl_lt {n i : Nat} {v : Int32} {f : Nat → Int32} (h : i < n) : xs_fl n v f i = v := by
  unfold xs_fl
  rw [show Nat.blt i n = true from Nat.ble_eq.mpr h]
  rfl
theorem gD_start {st : Nat} {f c : Nat → Int32} (h : st < 294) : gDn (upd (xs_fl 294 0 f) (gph st) 1) c 294 = c st := by
  have hg := gph_lt h
  have e : (1 : Int32) = xs_fl 294 0 f (gph st) + 1 := by rw [xs_fl_lt hg]; rfl
  rw [show upd (xs_fl 294 0 f) (gph st) 1 = upd (xs_fl 294 0 f) (gph st) (xs_fl 294 0 f (gph st) + 1) by rw [← e], gDn_add hg, gpi_gph, gDn_0 (fun i hi => xs_fl_lt hi), Int32.zero_add, Int32.one_mul]
theorem gHv_start {nw st : Nat} {cal : Bool} {f : Nat → Int32} (h : gSt nw st) (hc : cal = true → gCm st = true) : gHv nw cal (upd (xs_fl 294 0 f) (gph st) 1) := by
  intro i hi hne
  by_cases he : i = gph st
  · exact ⟨st, h, he.symm, hc⟩
  · rw [upd_ne he, xs_fl_lt hi] at hne
    exact absurd rfl hne
theorem gDn_c0 {A : Nat → Int32} : ∀ {n : Nat}, gDn A (fun _ => 0) n = 0
  | 0 => rfl
  | n + 1 => by
    simp only [gDn]
    rw [gDn_c0 (n := n), Int32.mul_zero, Int32.add_zero]
theorem x_asleepRows {g : gT} {po : Option (Nat × Nat)} {s : xs_S} {st k : Nat} (h : XC g po st s) (hk : k ≤ 7) : wO (xf_10_asleepRows s (nI (gph st)) (nI k)) (fun p => p.1 = gV (gNx g po 0) (gVe 0) (gVb 0) k st ∧ xsG xQi2 xQa2 s p.2 ∧ XC g po st p.2) := by
  have hst := h.2.2.2
  have hst1 := hst.1
  unfold xf_10_asleepRows
  refine wO_eq (x_awake hst1) ?_
  show wO (if (bif gCm st then (0 : Int32) else 1) = 0 then _ else _) _
  cases hc : gCm st with
  | false => exact wO_neg pu_10 (wO_some ⟨(gV_z hc).symm, xsG.rf, h⟩)
  | true =>
    refine wO_pos rfl ?_
    refine wO_eq (x_start hst1) ?_
    generalize hs0 : xs_sA s 132 (upd (xs_fl 294 (0 : Int32) (s.2.1 132)) (gph st) (1 : Int32)) = s0
    have f0 : xsF [] [132] s s0 := by rw [← hs0]; exact xsF.sA (by decide)
    have hC0 : XC g po st s0 := h.fr f0 (by decide) (by decide)
    have d0 : ∀ c, gDn (s0.2.1 132) c 294 = c st := fun c => by rw [← hs0]; exact gD_start hst1
    have v0 : gHv g.1.2 true (s0.2.1 132) := by rw [← hs0]; exact gHv_start hst (fun _ => hc)
    refine wO_bd (Q := fun t => xsG xQi2 xQa2 s t ∧ XC g po st t ∧ gHv g.1.2 true (t.2.1 132) ∧ gDn (t.2.1 132) (gVb 0) 294 = gV (gNx g po 0) (gVe 0) (gVb 0) k st) ?_ ?_
    · refine wO_count (fun (i : Nat) (p : Int32 × xs_S) => p.1 = nI i ∧ xsG xQi2 xQa2 s p.2 ∧ XC g po st p.2 ∧ gHv g.1.2 true (p.2.2.1 132) ∧ gDn (p.2.2.1 132) (gV (gNx g po 0) (gVe 0) (gVb 0) (k - i)) 294 = gV (gNx g po 0) (gVe 0) (gVb 0) k st) k ?_ ?_ _ ⟨rfl, f0.g (by decide) (by decide), hC0, v0, d0 _⟩
      · rintro i ⟨w, u⟩ hi ⟨e, hF, hC, hv, hd⟩
        have e : w = nI i := e
        subst e
        have hC : XC g po st u := hC
        have hd : gDn (u.2.1 132) (gV (gNx g po 0) (gVe 0) (gVb 0) (k - i)) 294 = gV (gNx g po 0) (gVe 0) (gVb 0) k st := hd
        unfold xf_10_asleepRows_l12
        refine wO_neg (nI_ge hi (by omega)) ?_
        refine wO_bd (x_countOn hC hv) ?_
        rintro t ⟨t1, t2, t3, t4⟩
        refine wO_some ⟨nI_1 i, hF.tr t1, t2, t3, ?_⟩
        have h4 := t4 (gVe 0) (gV (gNx g po 0) (gVe 0) (gVb 0) (k - (i + 1)))
        have e2 : (fun x => gVs (gNx g po 0) (gVe 0) (gV (gNx g po 0) (gVe 0) (gVb 0) (k - (i + 1))) x 7) = gV (gNx g po 0) (gVe 0) (gVb 0) (k - i) := by
          rw [show k - i = k - (i + 1) + 1 by omega]
          rfl
        rw [e2, hd] at h4
        rw [← h4]
        show _ = _ + t.1 2099 * 0
        rw [Int32.mul_zero, Int32.add_zero]
      · rintro ⟨w, u⟩ ⟨e, hF, hC, hv, hd⟩
        have e : w = nI k := e
        subst e
        have hd : gDn (u.2.1 132) (gV (gNx g po 0) (gVe 0) (gVb 0) (k - k)) 294 = gV (gNx g po 0) (gVe 0) (gVb 0) k st := hd
        rw [Nat.sub_self] at hd
        unfold xf_10_asleepRows_l12
        exact wO_pos (Int32.le_refl _) (wO_some ⟨hF, hC, hv, hd⟩)
    · rintro t ⟨t1, t2, t3, t4⟩
      refine wO_bd (Q := fun p => p = (gV (gNx g po 0) (gVe 0) (gVb 0) k st, t)) ?_ (fun p hp => by subst hp; exact wO_some ⟨rfl, t1, t2⟩)
      refine wO_count (fun (i : Nat) (p : Int32 × Int32 × xs_S) => p = (gDn (t.2.1 132) (gVb 0) i, nI i, t)) 294 ?_ ?_ _ rfl
      · rintro i _ hi rfl
        unfold xf_10_asleepRows_l23
        refine wO_neg (show ¬ (294 : Int32) ≤ nI i from nI_ge (b := 294) hi (by omega)) ?_
        refine wO_ag (k := i) rfl (by omega) (by omega) ?_
        refine wO_some ?_
        have ex : t.2.1 132 i * gVb 0 (gpi i) = t.2.1 132 i := by
          by_cases hz : t.2.1 132 i = 0
          · rw [hz, Int32.zero_mul]
          · obtain ⟨u, h1, h2, h3⟩ := t3 i hi hz
            subst h2
            rw [gpi_gph]
            unfold gVb
            rw [if_pos rfl, h3 rfl]
            exact Int32.mul_one _
        show (_, _, _) = (gDn (t.2.1 132) (gVb 0) i + t.2.1 132 i * gVb 0 (gpi i), nI (i + 1), t)
        rw [ex, ← nI_1 i]
      · rintro _ rfl
        unfold xf_10_asleepRows_l23
        refine wO_pos (Int32.le_refl _) (wO_some ?_)
        show (_, _) = (_, _)
        rw [t4]
theorem x_wakingRows {g : gT} {po : Option (Nat × Nat)} {s : xs_S} {st k : Nat} (h : XC g po st s) (hk : k ≤ 7) : wO (xf_10_wakingRows s (nI (gph st)) (nI k)) (fun p => p.1 = gV (gNx g po 0) (gVe 1) (gVb 1) k st ∧ xsG xQi2 xQa2 s p.2 ∧ XC g po st p.2) := by
  have hst := h.2.2.2
  have hst1 := hst.1
  unfold xf_10_wakingRows
  refine wO_eq (x_start hst1) ?_
  generalize hs0 : xs_sA s 132 (upd (xs_fl 294 (0 : Int32) (s.2.1 132)) (gph st) (1 : Int32)) = s0
  have f0 : xsF [] [132] s s0 := by rw [← hs0]; exact xsF.sA (by decide)
  have hC0 : XC g po st s0 := h.fr f0 (by decide) (by decide)
  have d0 : ∀ c, gDn (s0.2.1 132) c 294 = c st := fun c => by rw [← hs0]; exact gD_start hst1
  have v0 : gHv g.1.2 false (s0.2.1 132) := by rw [← hs0]; exact gHv_start hst (fun e => by cases e)
  refine wO_bd (Q := fun p => p.1 = gV (gNx g po 0) (gVe 1) (gVb 1) k st ∧ xsG xQi2 xQa2 s p.2 ∧ XC g po st p.2) ?_ (fun p hp => wO_some hp)
  refine wO_count (fun (i : Nat) (p : Int32 × Int32 × xs_S) => p.2.1 = nI i ∧ xsG xQi2 xQa2 s p.2.2 ∧ XC g po st p.2.2 ∧ gHv g.1.2 false (p.2.2.2.1 132) ∧ p.1 + gDn (p.2.2.2.1 132) (gV (gNx g po 0) (gVe 1) (gVb 1) (k - i)) 294 = gV (gNx g po 0) (gVe 1) (gVb 1) k st) k ?_ ?_ _ ⟨rfl, f0.g (by decide) (by decide), hC0, v0, by rw [Int32.zero_add]; exact d0 _⟩
  · rintro i ⟨w3, w, u⟩ hi ⟨e, hF, hC, hv, hd⟩
    have e : w = nI i := e
    subst e
    have hC : XC g po st u := hC
    have hd : w3 + gDn (u.2.1 132) (gV (gNx g po 0) (gVe 1) (gVb 1) (k - i)) 294 = gV (gNx g po 0) (gVe 1) (gVb 1) k st := hd
    unfold xf_10_wakingRows_l9
    refine wO_neg (nI_ge hi (by omega)) ?_
    refine wO_bd (x_countOn hC hv) ?_
    rintro t ⟨t1, t2, t3, t4⟩
    refine wO_some ⟨nI_1 i, hF.tr t1, t2, fun j hj hne => ?_, ?_⟩
    · obtain ⟨u2, a1, a2, _⟩ := t3 j hj hne
      exact ⟨u2, a1, a2, fun e => by cases e⟩
    · have h4 := t4 (gVe 1) (gV (gNx g po 0) (gVe 1) (gVb 1) (k - (i + 1)))
      have e2 : (fun x => gVs (gNx g po 0) (gVe 1) (gV (gNx g po 0) (gVe 1) (gVb 1) (k - (i + 1))) x 7) = gV (gNx g po 0) (gVe 1) (gVb 1) (k - i) := by
        rw [show k - i = k - (i + 1) + 1 by omega]
        rfl
      rw [e2] at h4
      have e3 : t.1 2099 * gVe 1 = t.1 2099 := by
        show t.1 2099 * 1 = _
        exact Int32.mul_one _
      rw [e3] at h4
      show w3 + t.1 2099 + gDn (t.2.1 132) _ 294 = _
      rw [← hd, ← h4, Int32.add_assoc, Int32.add_comm (t.1 2099)]
  · rintro ⟨w3, w, u⟩ ⟨e, hF, hC, hv, hd⟩
    have e : w = nI k := e
    subst e
    have hd : w3 + gDn (u.2.1 132) (gV (gNx g po 0) (gVe 1) (gVb 1) (k - k)) 294 = gV (gNx g po 0) (gVe 1) (gVb 1) k st := hd
    rw [Nat.sub_self] at hd
    have e0 : gV (gNx g po 0) (gVe 1) (gVb 1) 0 = fun _ => 0 := rfl
    rw [e0, gDn_c0, Int32.add_zero] at hd
    unfold xf_10_wakingRows_l9
    exact wO_pos (Int32.le_refl _) (wO_some ⟨hd, hF, hC⟩)
theorem m_few_yes {k : Nat} (h : k < 8) : mf_isFew (nI k) = some 1 := by
  refine wO_iff.mp ?_
  unfold mf_isFew
  refine wO_eq (show mf_in (nI k) 0 7 = some 1 from m_in_yes (n := 8) h (by omega)) ?_
  exact wO_pos (by decide) (wO_some rfl)
theorem m_few_no {a : Int32} (h : a < 0 ∨ nI 8 ≤ a) : mf_isFew a = some 0 := by
  refine wO_iff.mp ?_
  unfold mf_isFew
  refine wO_eq (show mf_in a 0 7 = some 0 from m_in_no (n := 8) (by omega) h) ?_
  exact wO_pos (by decide) (wO_some rfl)
theorem pu_nle2 {a : Int32} {n : Nat} (hn : n < 64) (h : nI (n + 1) ≤ a) : ¬ a ≤ nI n := by
  rw [Int32.le_iff_toInt_le, nI_toInt (by omega)] at h ⊢
  omega
theorem q_ways {g : gT} {lv : Nat} {s : xs_S} {m : ms_S} {po : Option (Nat × Nat)} {st : Nat} (a : Int32) (hx : XC g po st s) (hm : MN g lv m po st) : gQ2 g po st s m (xf_11_ways s a) (mf_ways m a) := by
  rcases pu_small a 8 (by omega) with ⟨k, hk, rfl⟩ | hno
  · refine gQ2_of (P := fun b => b = gV (gNx g po 0) (gVe 0) (gVb 0) k st) (fun a b h k => h.trans k.symm) ?_ ?_
    · unfold xf_11_ways
      refine wO_neg (pu_nn (by omega)) (wO_pos (show nI k ≤ nI 7 from nI_le (by omega) (by omega)) ?_)
      rw [hx.2.2.1]
      exact wO_bd (x_asleepRows hx (by omega)) (fun p hp => wO_some hp)
    · unfold mf_ways
      refine wO_eq (m_few_yes hk) (wO_neg pu_10 ?_)
      exact wO_bd (m_rowsOf (mo := 0) hm (by omega) (by omega)) (fun p hp => wO_some hp)
  · refine gQ2_of (P := fun b => b = -1) (fun a b h k => h.trans k.symm) ?_ ?_
    · unfold xf_11_ways
      refine wO_ite (fun _ => wO_some ⟨rfl, xsG.rf, hx⟩) (fun c => ?_)
      rcases hno with k | k
      · exact absurd k c
      · exact wO_neg (pu_nle2 (n := 7) (by omega) k) (wO_some ⟨rfl, xsG.rf, hx⟩)
    · unfold mf_ways
      exact wO_eq (m_few_no hno) (wO_pos rfl (wO_some ⟨rfl, msF.rf⟩))
theorem q_waking {g : gT} {lv : Nat} {s : xs_S} {m : ms_S} {po : Option (Nat × Nat)} {st : Nat} (a : Int32) (hx : XC g po st s) (hm : MN g lv m po st) : gQ2 g po st s m (xf_11_waking s a) (mf_waking m a) := by
  rcases pu_small a 8 (by omega) with ⟨k, hk, rfl⟩ | hno
  · refine gQ2_of (P := fun b => b = gV (gNx g po 0) (gVe 1) (gVb 1) k st) (fun a b h k => h.trans k.symm) ?_ ?_
    · unfold xf_11_waking
      refine wO_neg (pu_nn (by omega)) (wO_pos (show nI k ≤ nI 7 from nI_le (by omega) (by omega)) ?_)
      rw [hx.2.2.1]
      exact wO_bd (x_wakingRows hx (by omega)) (fun p hp => wO_some hp)
    · unfold mf_waking
      refine wO_eq (m_few_yes hk) (wO_neg pu_10 ?_)
      exact wO_bd (m_rowsOf (mo := 1) hm (by omega) (by omega)) (fun p hp => wO_some hp)
  · refine gQ2_of (P := fun b => b = -1) (fun a b h k => h.trans k.symm) ?_ ?_
    · unfold xf_11_waking
      refine wO_ite (fun _ => wO_some ⟨rfl, xsG.rf, hx⟩) (fun c => ?_)
      rcases hno with k | k
      · exact absurd k c
      · exact wO_neg (pu_nle2 (n := 7) (by omega) k) (wO_some ⟨rfl, xsG.rf, hx⟩)
    · unfold mf_waking
      exact wO_eq (m_few_no hno) (wO_pos rfl (wO_some ⟨rfl, msF.rf⟩))
