/-! the class: decide, settle -/
theorem x_decide {g : gT} {po : Option (Nat × Nat)} {s : xs_S} {wo st R : Nat} {f : Nat → Option (Nat × Nat)} (hn : g.1.2 ≤ 6) (hwo : wo < 64) (hs : gSt g.1.2 st) (hO : gOp g po (s.2.1 118) (s.2.1 119) st) (hf : ∀ w u, w < 7 → gNx g po wo st w = some u → gSn (fun v => s.2.1 129 (gph v)) (fun v => s.2.1 130 (gph v)) R (f u) u) (hR : R < 2 ^ 31) (h2 : s.1 2022 = nI wo) : xf_0_decide s (nI (gph st)) (nI R) = some (match gDc (gNx g po wo) f st R with
    | none => (0, s)
    | some p => (1, xs_sA (xs_sA s 129 (upd (s.2.1 129) (gph st) (nI p.1))) 130 (upd (s.2.1 130) (gph st) (nI R)))) := by
  have hst := hs.1
  have hgl := gph_lt hst
  generalize hnx : gNx g po wo = nx at hf
  have hok : ∀ w u, w < 7 → nx st w = some u → gSt g.1.2 u := fun w u _ hu => by rw [← hnx] at hu; exact gNx_ok hn hst hu
  refine wO_iff.mp ?_
  have j64 : ∀ mv : Nat, 1 ≤ mv → mv ≤ 2 → wO (xf_0_decide_j64 s (nI (gph st)) (nI R) (nI mv) 1) (fun y => y = (1, xs_sA (xs_sA s 129 (upd (s.2.1 129) (gph st) (nI mv))) 130 (upd (s.2.1 130) (gph st) (nI R)))) := by
    intro mv h1 h2
    unfold xf_0_decide_j64
    refine wO_neg pu_10 ?_
    refine wO_neg (fun e => absurd ((nI_eq (b := 0) (by omega) (by omega)).mp e) (by omega)) ?_
    refine wO_in (k := gph st) rfl (by omega) (by omega) ?_
    refine wO_in (k := gph st) rfl (by omega) (by omega) ?_
    rw [nI_clamp (by omega)]
    exact wO_some rfl
  have main : ∀ mv : Nat, mv = 1 + st / 7 % 2 → wO (xf_0_decide_j6 s (nI (gph st)) (nI R) (nI mv)) (fun y => y = (match gDc nx f st R with
    | none => (0, s)
    | some p => (1, xs_sA (xs_sA s 129 (upd (s.2.1 129) (gph st) (nI p.1))) 130 (upd (s.2.1 130) (gph st) (nI R))))) := by
    intro mv hmv
    unfold xf_0_decide_j6
    refine wO_bd (Q := fun x => (x = .inl (1, s) ∧ gAny (gHit nx f mv st) 7 = true) ∨ (x = .inr ((if gCt (gFnd nx f st) 7 = gCt (gMv nx st) 7 then nI (3 - mv) else 0), (if gAny (gMv nx st) 7 = true then 1 else 0), s) ∧ gAny (gHit nx f mv st) 7 = false)) ?_ ?_
    · refine wO_count (fun (i : Nat) (q : Int32 × Int32 × Int32 × xs_S) => q = ((if gCt (gFnd nx f st) i = gCt (gMv nx st) i then nI (3 - mv) else 0), (if gAny (gMv nx st) i = true then 1 else 0), nI i, s) ∧ gAny (gHit nx f mv st) i = false) 7 ?_ ?_ _ ⟨?_, rfl⟩
      · rintro i _ hi ⟨rfl, hno⟩
        unfold xf_0_decide_l15
        refine wO_neg (show ¬ (7 : Int32) ≤ nI i from nI_ge (b := 7) hi (by omega)) ?_
        refine wO_eq (by rw [h2]; exact x_after hn hs hO hi hwo) ?_
        rw [hnx]
        have hc := gCt_sub (p := gMv nx st) (q := gFnd nx f st) (n := i) (fun w _ hw => by
          unfold gFnd at hw
          unfold gMv
          cases h3 : nx st w with
          | none => rw [h3] at hw; cases hw
          | some u => rfl)
        cases hu : nx st i with
        | none =>
          show wO (if (-1 : Int32) = -1 then _ else _) _
          refine wO_pos rfl ?_
          unfold xf_0_decide_j62
          have m1 : gMv nx st i = false := by unfold gMv; rw [hu]; rfl
          have m2 : gFnd nx f st i = false := by unfold gFnd; rw [hu]
          have m3 : gHit nx f mv st i = false := by unfold gHit; rw [hu]
          refine wO_some ⟨?_, ?_⟩
          · simp only [gCt, gAny, m1, m2, cond_false, Bool.or_false, Nat.add_zero]
            rw [nI_1]
          · simp only [gAny, m3, hno, Bool.or_false]
        | some u =>
          have hsu := hok i u hi hu
          have hgu := gph_lt hsu.1
          show wO (if nI (gph u) = (-1 : Int32) then _ else _) _
          refine wO_neg (pu_n1 (by omega)) ?_
          have m1 : gMv nx st i = true := by unfold gMv; rw [hu]; rfl
          have hsn := hf i u hi hu
          refine wO_ag (k := gph u) rfl (by omega) (by omega) ?_
          have no : gFnd nx f st i = false → gHit nx f mv st i = false → wO (xf_0_decide_j46 s (nI (gph st)) (nI R) (nI mv) (if gCt (gFnd nx f st) i = gCt (gMv nx st) i then nI (3 - mv) else 0) 1 (nI i) (nI (gph u)) 1) (mo_sum (fun q => q = ((if gCt (gFnd nx f st) (i + 1) = gCt (gMv nx st) (i + 1) then nI (3 - mv) else 0), (if gAny (gMv nx st) (i + 1) = true then 1 else 0), nI (i + 1), s) ∧ gAny (gHit nx f mv st) (i + 1) = false) (fun x => (x = .inl (1, s) ∧ gAny (gHit nx f mv st) 7 = true) ∨ (x = .inr ((if gCt (gFnd nx f st) 7 = gCt (gMv nx st) 7 then nI (3 - mv) else 0), (if gAny (gMv nx st) 7 = true then 1 else 0), s) ∧ gAny (gHit nx f mv st) 7 = false))) := by
            intro m2 m3
            unfold xf_0_decide_j46 xf_0_decide_j58 xf_0_decide_j62
            refine wO_neg pu_10 (wO_neg pu_10 (wO_some ⟨?_, ?_⟩))
            · simp only [gCt, gAny, m1, m2, cond_false, cond_true, Bool.or_true, Nat.add_zero]
              rw [if_neg (by have := hc.1; omega), if_pos trivial, nI_1]
            · simp only [gAny, m3, hno, Bool.or_false]
          cases hfu : f u with
          | none =>
            rw [hfu] at hsn
            have m2 : gFnd nx f st i = false := by unfold gFnd; rw [hu]; simp only; rw [hfu]; rfl
            have m3 : gHit nx f mv st i = false := by unfold gHit; rw [hu]; simp only; rw [hfu]; rfl
            rcases hsn with k | ⟨p, b, k1, k2, k3, k4, k5, k6⟩
            · refine wO_pos k ?_
              unfold xf_0_decide_j43
              exact no m2 m3
            · refine wO_neg (fun e => ?_) ?_
              · have e2 : nI p = (0 : Int32) := k1.symm.trans e
                exact absurd ((nI_eq (b := 0) (by omega) (by omega)).mp e2) (by omega)
              · refine wO_agv (k := gph u) rfl (by omega) (by omega) k4 ?_
                refine wO_neg (nI_nlt k5 k6) ?_
                unfold xf_0_decide_j43
                exact no m2 m3
          | some p =>
            rw [hfu] at hsn
            obtain ⟨k1, k2, k3, k4, k5⟩ := hsn
            have m2 : gFnd nx f st i = true := by unfold gFnd; rw [hu]; simp only; rw [hfu]; rfl
            refine wO_neg (fun e => ?_) ?_
            · have e2 : nI p.1 = (0 : Int32) := k1.symm.trans e
              exact absurd ((nI_eq (b := 0) (by omega) (by omega)).mp e2) (by omega)
            · refine wO_agv (k := gph u) rfl (by omega) (by omega) k4 ?_
              refine wO_pos (nI_lt k5 hR) ?_
              unfold xf_0_decide_j46
              refine wO_pos rfl ?_
              refine wO_agv (k := gph u) rfl (by omega) (by omega) k1 ?_
              by_cases hp : p.1 = mv
              · refine wO_pos (by rw [hp]) (wO_some (Or.inl ⟨rfl, gAny_iff.mpr ⟨i, hi, ?_⟩⟩))
                unfold gHit
                rw [hu]
                simp only
                rw [hfu]
                exact decide_eq_true (congrArg some hp)
              · refine wO_neg (fun e => hp ((nI_eq (by omega) (by omega)).mp e)) ?_
                have m3 : gHit nx f mv st i = false := by
                  unfold gHit
                  rw [hu]
                  simp only
                  rw [hfu]
                  exact decide_eq_false (fun e => hp (Option.some.inj e))
                unfold xf_0_decide_j58 xf_0_decide_j62
                refine wO_pos rfl (wO_some ⟨?_, ?_⟩)
                · simp only [gCt, gAny, m1, m2, cond_true, Bool.or_true]
                  rw [nI_1]
                  by_cases hq : gCt (gFnd nx f st) i = gCt (gMv nx st) i
                  · rw [if_pos hq, if_pos (by omega), if_pos trivial]
                  · rw [if_neg hq, if_neg (by omega), if_pos trivial]
                · simp only [gAny, m3, hno, Bool.or_false]
      · rintro _ ⟨rfl, hno⟩
        unfold xf_0_decide_l15
        exact wO_pos (show (7 : Int32) ≤ nI 7 from Int32.le_refl _) (wO_some (Or.inr ⟨rfl, hno⟩))
      · rw [if_pos (show gCt (gFnd nx f st) 0 = gCt (gMv nx st) 0 from rfl), if_neg (show ¬ gAny (gMv nx st) 0 = true by simp [gAny])]
        rw [show (3 : Int32) - nI mv = nI (3 - mv) from pu_sub (a := 3) (by omega)]
        rfl
    · rintro x (⟨rfl, hh⟩ | ⟨rfl, hh⟩)
      · have e : gDc nx f st R = some (mv, R) := by
          unfold gDc
          rw [← hmv, hh]
          rfl
        rw [e]
        exact j64 mv (by omega) (by omega)
      · simp only
        by_cases ha : gAny (gMv nx st) 7 = true
        · rw [if_pos ha]
          by_cases hq : gCt (gFnd nx f st) 7 = gCt (gMv nx st) 7
          · rw [if_pos hq]
            have e : gDc nx f st R = some (3 - mv, R) := by
              unfold gDc
              rw [← hmv, hh, ha, decide_eq_true hq]
              rfl
            rw [e]
            exact j64 (3 - mv) (by omega) (by omega)
          · rw [if_neg hq]
            have e : gDc nx f st R = none := by
              unfold gDc
              rw [← hmv, hh, ha, decide_eq_false hq]
              rfl
            rw [e]
            unfold xf_0_decide_j64
            exact wO_neg pu_10 (wO_pos rfl (wO_some rfl))
        · rw [if_neg ha]
          have e : gDc nx f st R = none := by
            unfold gDc
            rw [← hmv, hh, Bool.eq_false_iff.mpr ha]
            rfl
          rw [e]
          unfold xf_0_decide_j64
          exact wO_pos rfl (wO_some rfl)
  unfold xf_0_decide
  refine wO_eq (x_turn hst) ?_
  by_cases ht : st / 7 % 2 = 0
  · rw [ht]
    exact wO_pos rfl (main 1 (by omega))
  · have ht : st / 7 % 2 = 1 := by omega
    rw [ht]
    exact wO_neg pu_10 (main 2 (by omega))
