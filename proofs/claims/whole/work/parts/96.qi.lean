/-! the class: one step of the walk -/
theorem x_count_in {g : gT} {po : Option (Nat × Nat)} {s : xs_S} {x : Nat} (hn : g.1.2 ≤ 6) (hs : gSt g.1.2 x) (hO : gOp g po (s.2.1 118) (s.2.1 119) x) (hv : gHv g.1.2 true (s.2.1 133)) : wO (mo_loop (xf_10_countOn_l24 (nI (gph x))) (0, s)) (fun t => xsF [2099] [133] s t ∧ gHv g.1.2 true (t.2.1 133) ∧ ∀ e c, gDn (t.2.1 133) c 294 + t.1 2099 * e = gDn (s.2.1 133) c 294 + s.1 2099 * e + s.2.1 132 (gph x) * gVs (gNx g po 0) e c x 7) := by
  have hgx := gph_lt hs.1
  refine wO_count (fun (k : Nat) (p : Int32 × xs_S) => p.1 = nI k ∧ xsF [2099] [133] s p.2 ∧ gHv g.1.2 true (p.2.2.1 133) ∧ ∀ e c, gDn (p.2.2.1 133) c 294 + p.2.1 2099 * e = gDn (s.2.1 133) c 294 + s.1 2099 * e + s.2.1 132 (gph x) * gVs (gNx g po 0) e c x k) 7 ?_ ?_ _ ⟨rfl, xsF.rf, hv, fun e c => by simp only [gVs, Int32.mul_zero, Int32.add_zero]⟩
  · rintro k ⟨w, u⟩ hk ⟨e1, hF, hv1, hd⟩
    have e1 : w = nI k := e1
    subst e1
    have hF : xsF [2099] [133] s u := hF
    have hv1 : gHv g.1.2 true (u.2.1 133) := hv1
    have hd : ∀ e c, gDn (u.2.1 133) c 294 + u.1 2099 * e = gDn (s.2.1 133) c 294 + s.1 2099 * e + s.2.1 132 (gph x) * gVs (gNx g po 0) e c x k := hd
    have h132 : u.2.1 132 = s.2.1 132 := hF.2.1 132 (by decide)
    unfold xf_10_countOn_l24
    refine wO_neg (show ¬ (7 : Int32) ≤ nI k from nI_ge (b := 7) hk (by omega)) ?_
    refine wO_eq (x_after (wo := 0) hn hs (by rw [hF.2.1 118 (by decide), hF.2.1 119 (by decide)]; exact hO) hk (by omega)) ?_
    unfold xf_10_countOn_j62
    cases hu : gNx g po 0 x k with
    | none =>
      exact wO_pos rfl (wO_some ⟨nI_1 k, hF, hv1, fun e c => by rw [gVs_1 hu]; exact hd e c⟩)
    | some y =>
      have hsy := gNx_ok hn hs.1 hu
      have hgy := gph_lt hsy.1
      show wO (if nI (gph y) = (-1 : Int32) then _ else _) _
      refine wO_neg (pu_n1 (by omega)) ?_
      refine wO_eq (x_awake hsy.1) ?_
      show wO (if (bif gCm y then (0 : Int32) else 1) = 0 then _ else _) _
      cases hc : gCm y with
      | true =>
        refine wO_pos rfl ?_
        refine wO_ag (k := gph y) rfl (by omega) (by omega) ?_
        refine wO_ag (k := gph x) rfl (by omega) (by omega) ?_
        refine wO_in (k := gph y) rfl (by omega) (by omega) ?_
        rw [show gE (Option.map gph (some y)) = nI (gph y) from rfl, nI_clamp (by omega)]
        refine wO_some ⟨nI_1 k, hF.tr (xsF.sA (by decide)), fun i hi hne => ?_, fun e c => ?_⟩
        · have hne : ¬ upd (u.2.1 133) (gph y) (u.2.1 133 (gph y) + u.2.1 132 (gph x)) i = 0 := hne
          by_cases he : i = gph y
          · exact ⟨y, hsy, he.symm, fun _ => hc⟩
          · rw [upd_ne he] at hne
            exact hv1 i hi hne
        · show gDn (upd (u.2.1 133) (gph y) (u.2.1 133 (gph y) + u.2.1 132 (gph x))) c 294 + u.1 2099 * e = _
          rw [gDn_add hgy, gpi_gph, gVs_2 hu hc, h132, Int32.mul_add, ← Int32.add_assoc, ← hd e c, Int32.add_assoc, Int32.add_assoc, Int32.add_comm (u.1 2099 * e)]
      | false =>
        refine wO_neg pu_10 ?_
        refine wO_ag (k := gph x) rfl (by omega) (by omega) ?_
        refine wO_some ⟨nI_1 k, hF.tr (xsF.sI (by decide)), hv1, fun e c => ?_⟩
        show gDn (u.2.1 133) c 294 + (u.1 2099 + u.2.1 132 (gph x)) * e = _
        rw [gVs_3 hu hc, h132, Int32.mul_add, ← Int32.add_assoc, ← hd e c, Int32.add_mul, ← Int32.add_assoc]
  · rintro ⟨w, u⟩ ⟨e1, hF, hv1, hd⟩
    have e1 : w = nI 7 := e1
    subst e1
    unfold xf_10_countOn_l24
    exact wO_pos (show (7 : Int32) ≤ nI 7 from Int32.le_refl _) (wO_some ⟨hF, hv1, hd⟩)
theorem x_countOn {g : gT} {po : Option (Nat × Nat)} {s : xs_S} {st : Nat} {cal : Bool} (h : XC g po st s) (hv : gHv g.1.2 cal (s.2.1 132)) : wO (xf_10_countOn s) (fun t => xsG xQi2 xQa2 s t ∧ XC g po st t ∧ gHv g.1.2 true (t.2.1 132) ∧ ∀ e c, gDn (t.2.1 132) c 294 + t.1 2099 * e = gDn (s.2.1 132) (fun x => gVs (gNx g po 0) e c x 7) 294) := by
  have hn := h.1.1.2.1
  unfold xf_10_countOn
  generalize hs0 : xs_sA (xs_sI s 2099 (0 : Int32)) 133 (xs_fl 294 (0 : Int32) (s.2.1 133)) = s0
  have f0 : xsF [2099] [133] s s0 := by rw [← hs0]; exact (xsF.sI (by decide)).tr (xsF.sA (by decide))
  have z0 : ∀ i, i < 294 → s0.2.1 133 i = 0 := fun i hi => by
    rw [← hs0]
    show (bif Nat.blt i 294 then (0 : Int32) else s.2.1 133 i) = 0
    rw [show Nat.blt i 294 = true from Nat.ble_eq.mpr hi]
    rfl
  have z1 : s0.1 2099 = 0 := by rw [← hs0]; rfl
  have hC0 : XC g po st s0 := h.fr f0 (by decide) (by decide)
  have e132 : s0.2.1 132 = s.2.1 132 := f0.2.1 132 (by decide)
  refine wO_bd (Q := fun t => xsF xQi2 xQa2 s0 t ∧ XC g po st t ∧ t.2.1 132 = s0.2.1 132 ∧ gHv g.1.2 true (t.2.1 133) ∧ ∀ e c, gDn (t.2.1 133) c 294 + t.1 2099 * e = gDn (s0.2.1 132) (fun x => gVs (gNx g po 0) e c x 7) 294) ?_ ?_
  · refine wO_count (fun (i : Nat) (p : Int32 × xs_S) => p.1 = nI i ∧ xsF xQi2 xQa2 s0 p.2 ∧ XC g po st p.2 ∧ p.2.2.1 132 = s0.2.1 132 ∧ gHv g.1.2 true (p.2.2.1 133) ∧ ∀ e c, gDn (p.2.2.1 133) c 294 + p.2.1 2099 * e = gDn (s0.2.1 132) (fun x => gVs (gNx g po 0) e c x 7) i) 294 ?_ ?_ _ ⟨rfl, xsF.rf, hC0, rfl, fun i hi hne => absurd (z0 i hi) hne, fun e c => by
      show gDn (s0.2.1 133) c 294 + s0.1 2099 * e = 0
      rw [gDn_0 z0, z1, Int32.zero_mul, Int32.add_zero]⟩
    · rintro i ⟨w, u⟩ hi ⟨e1, hF, hC, h132, hv1, hd⟩
      have e1 : w = nI i := e1
      subst e1
      have hF : xsF xQi2 xQa2 s0 u := hF
      have hC : XC g po st u := hC
      have h132 : u.2.1 132 = s0.2.1 132 := h132
      have hd : ∀ e c, gDn (u.2.1 133) c 294 + u.1 2099 * e = gDn (s0.2.1 132) (fun x => gVs (gNx g po 0) e c x 7) i := hd
      unfold xf_10_countOn_l9
      refine wO_neg (show ¬ (294 : Int32) ≤ nI i from nI_ge (b := 294) hi (by omega)) ?_
      refine wO_ag (k := i) rfl (by omega) (by omega) ?_
      unfold xf_10_countOn_j64
      refine wO_ite (fun c => ?_) (fun c => ?_)
      · refine wO_some ⟨nI_1 i, hF, hC, h132, hv1, fun e c2 => ?_⟩
        show gDn (u.2.1 133) c2 294 + u.1 2099 * e = gDn (s0.2.1 132) _ i + s0.2.1 132 i * _
        rw [hd e c2, ← h132, c, Int32.zero_mul, Int32.add_zero]
      · obtain ⟨x, hsx, hgx, _⟩ := hv i hi (by rw [← e132, ← h132]; exact c)
        subst hgx
        refine wO_bd (x_opens hC hsx) ?_
        rintro t ⟨t1, t2, t3⟩
        have e133 : t.2.1 133 = u.2.1 133 := t1.2.1 133 (by decide)
        have et132 : t.2.1 132 = u.2.1 132 := t1.2.1 132 (by decide)
        have et99 : t.1 2099 = u.1 2099 := t1.1 2099 (by decide)
        refine wO_bd (x_count_in hn hsx t3 (by rw [e133]; exact hv1)) ?_
        rintro v ⟨k1, k2, k3⟩
        refine wO_some ⟨nI_1 (gph x), hF.tr ((t1.wk (by decide) (by decide)).tr (k1.wk (by decide) (by decide))), t2.fr k1 (by decide) (by decide), (k1.2.1 132 (by decide)).trans (et132.trans h132), k2, fun e c2 => ?_⟩
        show gDn (v.2.1 133) c2 294 + v.1 2099 * e = gDn (s0.2.1 132) _ (gph x) + s0.2.1 132 (gph x) * _
        rw [k3 e c2, e133, et99, hd e c2, et132, h132, gpi_gph]
    · rintro ⟨w, u⟩ ⟨e1, hF, hC, h132, hv1, hd⟩
      have e1 : w = nI 294 := e1
      subst e1
      unfold xf_10_countOn_l9
      exact wO_pos (Int32.le_refl _) (wO_some ⟨hF, hC, h132, hv1, hd⟩)
  · rintro t ⟨t1, t2, t3, t4, t5⟩
    unfold xf_10_swap
    refine wO_some ⟨(f0.g (by decide) (by decide)).tr ((t1.g (fun _ h => h) (fun _ h => h)).tr (xs_sw_g (by decide) (by decide))), t2.sw, t4, fun e c => ?_⟩
    rw [← e132]
    exact t5 e c
