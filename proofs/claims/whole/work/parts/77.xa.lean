/-! the class: opening a standing; a turn from it -/
theorem gCan_wo (g : gT) (po : Option (Nat × Nat)) (wo sl tu la w : Nat) : gCan g po wo sl tu la w = (gCan g po 0 sl tu la w && !wo.testBit w) := by
  unfold gCan
  cases po with
  | none => rfl
  | some p =>
    simp only [Nat.zero_testBit]
    cases decide (0 < sl) <;> cases decide (sl < 20) <;> cases decide (w = la) <;> cases wo.testBit w <;> cases gX g p.1 p.2 sl tu la w <;> rfl
theorem gBs_congr {f h : Nat → Bool} : ∀ {n : Nat}, (∀ w, w < n → f w = h w) → gBs f n = gBs h n
  | 0, _ => rfl
  | n + 1, e => by
    simp only [gBs]
    rw [gBs_congr (fun w hw => e w (by omega)), e n (by omega)]
theorem gBs_an {f : Nat → Bool} {wo n : Nat} (hn : n ≤ 6) : gBs f n &&& (63 ^^^ wo) = gBs (fun w => f w && !wo.testBit w) n := by
  apply Nat.eq_of_testBit_eq
  intro w
  rw [Nat.testBit_and, Nat.testBit_xor, gBs_bit, gBs_bit]
  by_cases hw : w < n
  · have h63 : Nat.testBit 63 w = true := by
      have h6 : w < 6 := by omega
      rcases (show w = 0 ∨ w = 1 ∨ w = 2 ∨ w = 3 ∨ w = 4 ∨ w = 5 by omega) with rfl | rfl | rfl | rfl | rfl | rfl <;> rfl
    rw [h63, decide_eq_true hw]
    cases f w <;> cases wo.testBit w <;> rfl
  · rw [decide_eq_false hw]
    simp
theorem pu_an : ∀ B, B < 64 → ∀ wo, wo < 64 → (nI B &&& (nI wo ^^^ (-1 : Int32))) = nI (B &&& (63 ^^^ wo)) := by decide +kernel
theorem gBs_lt64 {f : Nat → Bool} {n : Nat} (hn : n ≤ 6) : gBs f n < 64 := by
  have h1 := gBs_lt f n
  have h2 : 2 ^ n ≤ 2 ^ 6 := Nat.pow_le_pow_right (by omega) hn
  omega
theorem x_after {g : gT} {po : Option (Nat × Nat)} {s : xs_S} {st w wo : Nat} (hn : g.1.2 ≤ 6) (hs : gSt g.1.2 st) (h : gOp g po (s.2.1 118) (s.2.1 119) st) (hw : w < 7) (hwo : wo < 64) : xf_1_after s (nI (gph st)) (nI w) (nI wo) = some (gE ((gNx g po wo st w).map gph), s) := by
  have hst := hs.1
  have hgl := gph_lt hst
  obtain ⟨h1, h2, h3⟩ := h
  refine wO_iff.mp ?_
  unfold xf_1_after
  refine wO_agv (k := gph st) rfl (by omega) (by omega) h1 ?_
  have hB : gBs (gCan g po 0 (st / 14) (st / 7 % 2) (st % 7)) g.1.2 < 64 := gBs_lt64 hn
  rw [pu_an _ hB wo hwo, gBs_an hn]
  have hc : gBs (fun w => gCan g po 0 (st / 14) (st / 7 % 2) (st % 7) w && !wo.testBit w) g.1.2 = gBs (gCan g po wo (st / 14) (st / 7 % 2) (st % 7)) g.1.2 := gBs_congr (fun w _ => (gCan_wo g po wo _ _ _ w).symm)
  rw [hc]
  have hC : gBs (gCan g po wo (st / 14) (st / 7 % 2) (st % 7)) g.1.2 < 64 := gBs_lt64 hn
  have hbit := gBs_bit (gCan g po wo (st / 14) (st / 7 % 2) (st % 7)) w g.1.2
  have yes : ∀ v : Int32, s.2.1 119 (7 * gph st + w) = v → wO (xf_1_after_j28 s (nI (gph st)) (nI w) 1) (fun y => y = (v, s)) := by
    intro v hv
    unfold xf_1_after_j28
    refine wO_neg pu_10 (wO_agv (k := 7 * gph st + w) ?_ (by omega) (by omega) hv (wO_some rfl))
    rw [show nI (gph st) * (7 : Int32) = nI (gph st * 7) from pu_mul _ 7, nI_add]
    congr 1
    omega
  have no : wO (xf_1_after_j28 s (nI (gph st)) (nI w) 0) (fun y => y = (-1, s)) := by
    unfold xf_1_after_j28
    exact wO_pos pu_00 (wO_some rfl)
  refine wO_ite (fun c => ?_) (fun c => ?_)
  · have h6 : w = 6 := (nI_eq (b := 6) (by omega) (by omega)).mp c
    subst h6
    refine wO_ite (fun d => ?_) (fun d => ?_)
    · have hz : gBs (gCan g po wo (st / 14) (st / 7 % 2) (st % 7)) g.1.2 = 0 := (nI_eq (b := 0) (by omega) (by omega)).mp d
      refine yes _ (h2.trans ?_)
      unfold gNx gRs
      cases po with
      | none => rfl
      | some p =>
        simp only
        rw [if_neg (by omega), if_pos trivial, decide_eq_true hz, Bool.and_true]
    · have hz : ¬ gBs (gCan g po wo (st / 14) (st / 7 % 2) (st % 7)) g.1.2 = 0 := fun e => d (by rw [e]; rfl)
      refine wO_mono no (fun y hy => hy.trans ?_)
      unfold gNx
      cases po with
      | none => rfl
      | some p =>
        simp only
        rw [if_neg (by omega), if_pos trivial, decide_eq_false hz, Bool.and_false, Bool.and_false]
        rfl
  · have h6 : w < 6 := by
      have : ¬ w = 6 := fun e => c (by rw [e]; rfl)
      omega
    rw [pu_bit _ hC w (by omega), hbit]
    cases hb : (decide (w < g.1.2) && gCan g po wo (st / 14) (st / 7 % 2) (st % 7) w) with
    | false =>
      refine wO_neg (by decide) ?_
      refine wO_mono no (fun y hy => hy.trans ?_)
      unfold gNx
      cases po with
      | none => rfl
      | some p =>
        simp only
        rw [if_pos h6, hb]
        rfl
    | true =>
      refine wO_pos (by decide) ?_
      have hb2 := hb
      rw [Bool.and_eq_true, decide_eq_true_eq] at hb2
      have hb3 := hb2.2
      rw [gCan_wo, Bool.and_eq_true] at hb3
      refine yes _ ((h3 w hb2.1 hb3.1).trans ?_)
      unfold gNx
      cases po with
      | none => rfl
      | some p =>
        simp only
        rw [if_pos h6, if_pos h6, hb, decide_eq_true hb2.1, hb3.1]
        rfl
def xKo : List Nat := [15, 16, 118, 119]
/-- text, pair and game of the class -/
def XG (g : gT) (s : xs_S) (po : Option (Nat × Nat)) : Prop := XT g s ∧ gPX s po g.1.1 ∧ gCa g po (s.2.1 118) (s.2.1 119)
theorem x_open {g : gT} {po : Option (Nat × Nat)} {s : xs_S} {st : Nat} (h : XG g s po) (hs : gSt g.1.2 st) : wO (xf_1_open s (nI (gph st))) (fun t => xsF [] xKo s t ∧ gCa g po (t.2.1 118) (t.2.1 119) ∧ gOp g po (t.2.1 118) (t.2.1 119) st ∧ ∀ j, ¬ s.2.1 118 j = -1 → ¬ t.2.1 118 j = -1) := by
  obtain ⟨hT, hPX, hCa⟩ := h
  have hst := hs.1
  have hgl := gph_lt hst
  have hn := hT.2.1
  unfold xf_1_open
  refine wO_ag (k := gph st) rfl (by omega) (by omega) ?_
  refine wO_ite (fun c => ?_) (fun c => ?_)
  · have ei : nI (gph st) * (7 : Int32) + (6 : Int32) = nI (7 * gph st + 6) := by
      rw [show nI (gph st) * (7 : Int32) = nI (gph st * 7) from pu_mul _ 7]
      exact (nI_add (gph st * 7) 6).trans (congrArg nI (by omega))
    refine wO_in (k := gph st) rfl (by omega) (by omega) ?_
    refine wO_in (k := 7 * gph st + 6) ei (by omega) (by omega) ?_
    rw [nI_clamp (by omega), ei, nI_clamp (by omega)]
    generalize hs0 : xs_sA (xs_sA s 118 (upd (s.2.1 118) (gph st) 0)) 119 (upd (s.2.1 119) (7 * gph st + 6) (-1)) = s0
    have f0 : xsF [] xKo s s0 := by rw [← hs0]; exact (xsF.sA (by decide)).tr (xsF.sA (by decide))
    have can0 : s0.2.1 118 = upd (s.2.1 118) (gph st) 0 := by rw [← hs0]; rfl
    have nx0 : s0.2.1 119 = upd (s.2.1 119) (7 * gph st + 6) (-1) := by rw [← hs0]; rfl
    -- from the row of this standing to all
    have all : ∀ t : xs_S, xsF [] xKo s t → (∀ j, ¬ j = gph st → t.2.1 118 j = s.2.1 118 j) → (∀ j, (j < 7 * gph st ∨ 7 * gph st + 7 ≤ j) → t.2.1 119 j = s.2.1 119 j) → gOp g po (t.2.1 118) (t.2.1 119) st → xsF [] xKo s t ∧ gCa g po (t.2.1 118) (t.2.1 119) ∧ gOp g po (t.2.1 118) (t.2.1 119) st ∧ ∀ j, ¬ s.2.1 118 j = -1 → ¬ t.2.1 118 j = -1 := by
      intro t t1 t2 t3 t4
      refine ⟨t1, fun st2 hs2 => ?_, t4, fun j hj => ?_⟩
      · by_cases he : st2 = st
        · subst he; exact Or.inr t4
        · have hne : ¬ gph st2 = gph st := fun e => he (gph_inj e)
          have hl2 := gph_lt hs2.1
          rcases hCa st2 hs2 with q | q
          · exact Or.inl ((t2 _ hne).trans q)
          · obtain ⟨q1, q2, q3⟩ := q
            refine Or.inr ⟨(t2 _ hne).trans q1, ?_, fun w hw hc => ?_⟩
            · rw [t3 _ (by omega)]; exact q2
            · rw [t3 _ (by omega)]; exact q3 w hw hc
      · by_cases he : j = gph st
        · subst he; exact absurd c hj
        · rw [t2 j he]; exact hj
    have hP0 : gPX s0 po g.1.1 := by
      unfold gPX at hPX ⊢
      rw [f0.1 1873 (by decide), f0.1 1874 (by decide)]
      exact hPX
    refine wO_eq (x_hasPair hP0 hT.1) ?_
    cases po with
    | none =>
      refine wO_pos pu_00 (wO_some (all s0 f0 (fun j hj => by rw [can0]; exact upd_ne hj) (fun j hj => by rw [nx0]; exact upd_ne (by omega)) ⟨?_, ?_, ?_⟩))
      · rw [can0, upd_eq]
        have e : gBs (gCan g none 0 (st / 14) (st / 7 % 2) (st % 7)) g.1.2 = 0 := by
          have : ∀ n, gBs (gCan g none 0 (st / 14) (st / 7 % 2) (st % 7)) n = 0 := by
            intro n
            induction n with
            | zero => rfl
            | succ n ih => simp [gBs, ih, gCan]
          exact this _
        rw [e]; rfl
      · rw [nx0, upd_eq]; rfl
      · intro w hw hc; cases hc
    | some p =>
      obtain ⟨l, r⟩ := p
      obtain ⟨p1, p2, p3, p4⟩ := id hPX
      refine wO_neg pu_10 ?_
      refine wO_eq (x_awake hst) ?_
      cases ha : (decide (0 < st / 14) && decide (st / 14 < 20)) with
      | false =>
        refine wO_neg pu_10 (wO_some (all s0 f0 (fun j hj => by rw [can0]; exact upd_ne hj) (fun j hj => by rw [nx0]; exact upd_ne (by omega)) ⟨?_, ?_, ?_⟩))
        · rw [can0, upd_eq]
          have e : gBs (gCan g (some (l, r)) 0 (st / 14) (st / 7 % 2) (st % 7)) g.1.2 = 0 := by
            have : ∀ n, gBs (gCan g (some (l, r)) 0 (st / 14) (st / 7 % 2) (st % 7)) n = 0 := by
              intro n
              induction n with
              | zero => rfl
              | succ n ih =>
                have hz : gCan g (some (l, r)) 0 (st / 14) (st / 7 % 2) (st % 7) n = false := by
                  unfold gCan
                  simp only
                  rw [← Bool.and_assoc, ha]
                  rfl
                simp [gBs, ih, hz]
            exact this _
          rw [e]; rfl
        · rw [nx0, upd_eq]
          unfold gRs
          simp only
          rw [ha]
          rfl
        · intro w hw hc
          unfold gCan at hc
          simp only at hc
          rw [← Bool.and_assoc, ha] at hc
          cases hc
      | true =>
        refine wO_pos pu_00 ?_
        refine wO_eq (x_last hst) ?_
        have f1 : ∀ w, gCan g (some (l, r)) 0 (st / 14) (st / 7 % 2) (st % 7) w = (!decide (w = st % 7) && !gX g l r (st / 14) (st / 7 % 2) (st % 7) w) := by
          intro w
          unfold gCan
          simp only
          rw [← Bool.and_assoc, ha, Nat.zero_testBit]
          rfl
        refine wO_bd (Q := fun t => xsF [] xKo s t ∧ (∀ j, ¬ j = gph st → t.2.1 118 j = s.2.1 118 j) ∧ t.2.1 118 (gph st) = nI (gBs (gCan g (some (l, r)) 0 (st / 14) (st / 7 % 2) (st % 7)) g.1.2) ∧ (∀ j, (j < 7 * gph st ∨ 7 * gph st + 7 ≤ j) → t.2.1 119 j = s.2.1 119 j) ∧ ∀ w, w < g.1.2 → gCan g (some (l, r)) 0 (st / 14) (st / 7 % 2) (st % 7) w = true → t.2.1 119 (7 * gph st + w) = gE ((gNx g (some (l, r)) 0 st w).map gph)) ?_ ?_
        · refine wO_count (fun i q => q.1 = nI i ∧ xsF [] xKo s q.2 ∧ (∀ j, ¬ j = gph st → q.2.2.1 118 j = s.2.1 118 j) ∧ q.2.2.1 118 (gph st) = nI (gBs (gCan g (some (l, r)) 0 (st / 14) (st / 7 % 2) (st % 7)) i) ∧ (∀ j, (j < 7 * gph st ∨ 7 * gph st + 7 ≤ j) → q.2.2.1 119 j = s.2.1 119 j) ∧ ∀ w, w < i → gCan g (some (l, r)) 0 (st / 14) (st / 7 % 2) (st % 7) w = true → q.2.2.1 119 (7 * gph st + w) = gE ((gNx g (some (l, r)) 0 st w).map gph)) g.1.2 ?_ ?_ _ ⟨rfl, f0, fun j hj => by rw [can0]; exact upd_ne hj, by rw [can0, upd_eq]; rfl, fun j hj => by rw [nx0]; exact upd_ne (by omega), fun w hw => absurd hw (by omega)⟩
          · rintro i ⟨w4, u⟩ hi ⟨e1, u1, u2, u3, u4, u5⟩
            have e1 : w4 = nI i := e1
            subst e1
            have u1 : xsF [] xKo s u := u1
            have u2 : ∀ j, ¬ j = gph st → u.2.1 118 j = s.2.1 118 j := u2
            have u3 : u.2.1 118 (gph st) = nI (gBs (gCan g (some (l, r)) 0 (st / 14) (st / 7 % 2) (st % 7)) i) := u3
            have u4 : ∀ j, (j < 7 * gph st ∨ 7 * gph st + 7 ≤ j) → u.2.1 119 j = s.2.1 119 j := u4
            have u5 : ∀ w, w < i → gCan g (some (l, r)) 0 (st / 14) (st / 7 % 2) (st % 7) w = true → u.2.1 119 (7 * gph st + w) = gE ((gNx g (some (l, r)) 0 st w).map gph) := u5
            have hTu : XT g u := hT.mv u1 (by decide) (by decide)
            have eL : u.1 1873 = nI l := (u1.1 1873 (by decide)).trans p1
            have eR : u.1 1874 = nI r := (u1.1 1874 (by decide)).trans p2
            have e148 : u.1 148 = nI g.1.2 := (u1.1 148 (by decide)).trans hT.2.2.2.1
            -- nothing is said
            have skip : ∀ t : xs_S, xsF [] [15, 16] u t → gCan g (some (l, r)) 0 (st / 14) (st / 7 % 2) (st % 7) i = false → wO (xf_1_open_j87 t (nI (gph st)) (nI (gph st) * (7 : Int32)) (gLa (st % 7)) (nI i)) (mo_sum (fun q => q.1 = nI (i + 1) ∧ xsF [] xKo s q.2 ∧ (∀ j, ¬ j = gph st → q.2.2.1 118 j = s.2.1 118 j) ∧ q.2.2.1 118 (gph st) = nI (gBs (gCan g (some (l, r)) 0 (st / 14) (st / 7 % 2) (st % 7)) (i + 1)) ∧ (∀ j, (j < 7 * gph st ∨ 7 * gph st + 7 ≤ j) → q.2.2.1 119 j = s.2.1 119 j) ∧ ∀ w, w < i + 1 → gCan g (some (l, r)) 0 (st / 14) (st / 7 % 2) (st % 7) w = true → q.2.2.1 119 (7 * gph st + w) = gE ((gNx g (some (l, r)) 0 st w).map gph)) (fun t => xsF [] xKo s t ∧ (∀ j, ¬ j = gph st → t.2.1 118 j = s.2.1 118 j) ∧ t.2.1 118 (gph st) = nI (gBs (gCan g (some (l, r)) 0 (st / 14) (st / 7 % 2) (st % 7)) g.1.2) ∧ (∀ j, (j < 7 * gph st ∨ 7 * gph st + 7 ≤ j) → t.2.1 119 j = s.2.1 119 j) ∧ ∀ w, w < g.1.2 → gCan g (some (l, r)) 0 (st / 14) (st / 7 % 2) (st % 7) w = true → t.2.1 119 (7 * gph st + w) = gE ((gNx g (some (l, r)) 0 st w).map gph))) := by
              intro t hF hc
              unfold xf_1_open_j87
              have t118 : t.2.1 118 = u.2.1 118 := hF.2.1 118 (by decide)
              have t119 : t.2.1 119 = u.2.1 119 := hF.2.1 119 (by decide)
              refine wO_some ⟨nI_1 i, u1.tr (hF.wk (by decide) (by decide)), fun j hj => ?_, ?_, fun j hj => ?_, fun w hw hcw => ?_⟩
              · show t.2.1 118 j = _
                rw [t118]; exact u2 j hj
              · show t.2.1 118 _ = _
                rw [t118, u3]
                simp [gBs, hc]
              · show t.2.1 119 j = _
                rw [t119]; exact u4 j hj
              · show t.2.1 119 _ = _
                rw [t119]
                by_cases he : w = i
                · subst he; rw [hc] at hcw; cases hcw
                · exact u5 w (by omega) hcw
            unfold xf_1_open_l35
            refine wO_neg (by show ¬ u.1 148 ≤ nI i; rw [e148]; exact nI_ge hi (by omega)) ?_
            refine wO_ite (fun c2 => ?_) (fun c2 => ?_)
            · have hil : i = st % 7 := by
                unfold gLa at c2
                by_cases h6 : st % 7 = 6
                · rw [if_pos h6] at c2
                  exfalso
                  have h9 := nI_pos (n := i) (by omega)
                  rw [c2] at h9
                  exact h9 (by decide)
                · rw [if_neg h6] at c2
                  exact (nI_eq (by omega) (by omega)).mp c2
              exact skip u xsF.rf (by rw [f1, decide_eq_true hil]; rfl)
            · have hil : ¬ i = st % 7 := by
                intro e
                apply c2
                unfold gLa
                rw [if_neg (by omega), e]
              rw [eL, eR]
              refine wO_bd (x_lawOf (k := 3) (w := some i) hTu (by omega) p3 p4 hs (fun x hx => by cases hx; exact hi)) ?_
              rintro ⟨v3, t⟩ ⟨rfl, hF⟩
              refine wO_ite (fun c3 => ?_) (fun c3 => ?_)
              · refine skip t hF ?_
                have e : gX g l r (st / 14) (st / 7 % 2) (st % 7) i = true := decide_eq_true c3
                rw [f1, e]
                simp
              · have e : gX g l r (st / 14) (st / 7 % 2) (st % 7) i = false := decide_eq_false c3
                have hci : gCan g (some (l, r)) 0 (st / 14) (st / 7 % 2) (st % 7) i = true := by rw [f1, e, decide_eq_false hil]; rfl
                have hTt : XT g t := hTu.mv hF (by decide) (by decide)
                have eL2 : t.1 1873 = nI l := (hF.1 1873 (by decide)).trans eL
                have eR2 : t.1 1874 = nI r := (hF.1 1874 (by decide)).trans eR
                rw [eL2, eR2]
                refine wO_bd (x_lawOf (k := 0) (w := some i) hTt (by omega) p3 p4 hs (fun x hx => by cases hx; exact hi)) ?_
                rintro ⟨v0, t2⟩ ⟨rfl, hF2⟩
                have hF3 := hF.tr hF2
                have t118 : t2.2.1 118 = u.2.1 118 := hF3.2.1 118 (by decide)
                have t119 : t2.2.1 119 = u.2.1 119 := hF3.2.1 119 (by decide)
                refine wO_agv (k := gph st) (v := nI (gBs (gCan g (some (l, r)) 0 (st / 14) (st / 7 % 2) (st % 7)) i)) rfl (by omega) (by omega) (by rw [t118]; exact u3) ?_
                refine wO_in (k := gph st) rfl (by omega) (by omega) ?_
                refine wO_eq (gcl_x _ (M := 9) (by omega)) ?_
                refine wO_eq (x_pushed (g := g) (l := l) (r := r) hst (by omega)) ?_
                have ej : nI (gph st) * (7 : Int32) + nI i = nI (7 * gph st + i) := by
                  rw [show nI (gph st) * (7 : Int32) = nI (gph st * 7) from pu_mul _ 7, nI_add]
                  congr 1
                  omega
                refine wO_in (k := 7 * gph st + i) ej (by omega) (by omega) ?_
                unfold xf_1_open_j87
                rw [ej, nI_clamp (by omega), nI_clamp (by omega), pu_or i (by omega) _ (gBs_lt _ i)]
                refine wO_some ⟨nI_1 i, (u1.tr (hF3.wk (by decide) (by decide))).tr ((xsF.sA (by decide)).tr (xsF.sA (by decide))), fun j hj => ?_, ?_, fun j hj => ?_, fun w hw hcw => ?_⟩
                · show upd (t2.2.1 118) _ _ j = _
                  rw [upd_ne hj, t118]; exact u2 j hj
                · show upd (t2.2.1 118) _ _ _ = _
                  rw [upd_eq]
                  simp [gBs, hci]
                · show upd (t2.2.1 119) _ _ j = _
                  rw [upd_ne (by omega), t119]; exact u4 j hj
                · show upd (t2.2.1 119) _ _ _ = _
                  by_cases he : w = i
                  · subst he
                    rw [upd_eq]
                    unfold gNx
                    simp only
                    rw [if_pos (by omega), decide_eq_true hi, hci]
                    rfl
                  · rw [upd_ne (by omega), t119]
                    exact u5 w (by omega) hcw
          · rintro ⟨w4, u⟩ ⟨e1, u1, u2, u3, u4, u5⟩
            have e1 : w4 = nI g.1.2 := e1
            subst e1
            unfold xf_1_open_l35
            refine wO_pos ?_ (wO_some ⟨u1, u2, u3, u4, u5⟩)
            show u.1 148 ≤ nI g.1.2
            rw [show u.1 148 = nI g.1.2 from (u1.1 148 (by decide)).trans hT.2.2.2.1]
            exact Int32.le_refl _
        · rintro u ⟨u1, u2, u3, u4, u5⟩
          have hTu : XT g u := hT.mv u1 (by decide) (by decide)
          have eL : u.1 1873 = nI l := (u1.1 1873 (by decide)).trans p1
          have eR : u.1 1874 = nI r := (u1.1 1874 (by decide)).trans p2
          rw [eL, eR]
          refine wO_bd (x_lawOf (k := 2) (w := none) hTu (by omega) p3 p4 hs (fun x hx => by cases hx)) ?_
          rintro ⟨v2, t⟩ ⟨rfl, hF⟩
          refine wO_eq (gcl_x _ (M := 9) (by omega)) ?_
          refine wO_eq (x_rested (g := g) (l := l) (r := r) hst) ?_
          refine wO_in (k := 7 * gph st + 6) rfl (by omega) (by omega) ?_
          have t118 : t.2.1 118 = u.2.1 118 := hF.2.1 118 (by decide)
          have t119 : t.2.1 119 = u.2.1 119 := hF.2.1 119 (by decide)
          refine wO_some (all _ ((u1.tr (hF.wk (by decide) (by decide))).tr (xsF.sA (by decide))) (fun j hj => ?_) (fun j hj => ?_) ⟨?_, ?_, fun w hw hcw => ?_⟩)
          · show t.2.1 118 j = _
            rw [t118]; exact u2 j hj
          · show upd (t.2.1 119) _ _ j = _
            rw [upd_ne (by omega), t119]; exact u4 j hj
          · show t.2.1 118 _ = _
            rw [t118]; exact u3
          · show upd (t.2.1 119) _ _ _ = _
            rw [upd_eq]
            unfold gRs
            simp only
            rw [ha]
            rfl
          · show upd (t.2.1 119) _ _ _ = _
            rw [upd_ne (by omega), t119]
            exact u5 w hw hcw
  · exact wO_some ⟨xsF.rf, hCa, (hCa st hs).resolve_left c, fun j hj => hj⟩
