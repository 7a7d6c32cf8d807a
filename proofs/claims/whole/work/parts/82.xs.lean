/-! the class: spread -/
theorem pu_n1 {k : Nat} (h : k < 2 ^ 31) : ¬ nI k = (-1 : Int32) := fun e => by
  have h1 : (0 : Int32) ≤ nI k := nI_le (a := 0) (by omega) h
  rw [e] at h1
  exact absurd h1 (by decide)
theorem pu_nn {k : Nat} (h : k < 2 ^ 31) : ¬ nI k < (0 : Int32) := nI_nlt (b := 0) (by omega) h
theorem gOp_n1 {g : gT} {po : Option (Nat × Nat)} {can nx : Nat → Int32} {st : Nat} (hn : g.1.2 ≤ 6) (h : gOp g po can nx st) : ¬ can (gph st) = -1 := by
  rw [h.1]
  have := gBs_lt64 (f := gCan g po 0 (st / 14) (st / 7 % 2) (st % 7)) hn
  exact pu_n1 (by omega)
theorem gPX.mv {s t : xs_S} {po : Option (Nat × Nat)} {n : Nat} (h : gPX s po n) (h1 : t.1 1873 = s.1 1873) (h2 : t.1 1874 = s.1 1874) : gPX t po n := by
  cases po with
  | none => exact ⟨h1.trans h.1, h2.trans h.2⟩
  | some p => exact ⟨h1.trans h.1, h2.trans h.2.1, h.2.2⟩
theorem x_fill128 {s : xs_S} {v : Int32} : wO (xf_7_fill_53178_128 s v) (fun t => xsF [] [128] s t ∧ ∀ j, j < 294 → t.2.1 128 j = v) := by
  unfold xf_7_fill_53178_128
  refine wO_bd (Q := fun t => xsF [] [128] s t ∧ ∀ j, j < 294 → t.2.1 128 j = v) ?_ (fun t ht => wO_some ht)
  refine wO_count (fun i q => q.1 = nI i ∧ xsF [] [128] s q.2 ∧ ∀ j, j < i → q.2.2.1 128 j = v) 294 ?_ ?_ _ ⟨rfl, xsF.rf, fun j hj => absurd hj (by omega)⟩
  · rintro i ⟨w, u⟩ hi ⟨e, hF, hu⟩
    have e : w = nI i := e
    subst e
    unfold xf_7_fill_53178_128_l5
    refine wO_neg (show ¬ nI 294 ≤ nI i from nI_ge (b := 294) hi (by omega)) ?_
    refine wO_in (k := i) rfl (by omega) (by omega) ?_
    rw [nI_clamp (by omega)]
    refine wO_some ⟨nI_1 i, hF.tr (xsF.sA (by decide)), fun j hj => ?_⟩
    show upd (u.2.1 128) i v j = v
    by_cases he : j = i
    · subst he; exact upd_eq
    · rw [upd_ne he]; exact hu j (by omega)
  · rintro ⟨w, u⟩ ⟨e, hF, hu⟩
    have e : w = nI 294 := e
    subst e
    unfold xf_7_fill_53178_128_l5
    exact wO_pos (Int32.le_refl _) (wO_some ⟨hF, hu⟩)
theorem x_spread_in {g : gT} {po : Option (Nat × Nat)} {s : xs_S} {wo x : Nat} {i : Int32} {q : List Nat × (Nat → Nat)} (hn : g.1.2 ≤ 6) (hwo : wo < 64) (hO : gOp g po (s.2.1 118) (s.2.1 119) x) (hq : gBo g.1.2 q) (hx : x ∈ q.1) (hv : gBv gph g.1.2 q (s.2.1 127) (s.2.1 128) (s.1 2018)) : wO (mo_loop (xf_0_spread_l48 (nI wo) i (nI (gph x))) (0, s)) (fun t => xsF [2018] [127, 128] s t ∧ gBv gph g.1.2 (gB7 (gNx g po wo) x q 7) (t.2.1 127) (t.2.1 128) (t.1 2018)) := by
  have hsx := (hq.2 x hx).1
  have hok : ∀ w u, w < 7 → gNx g po wo x w = some u → gSt g.1.2 u := fun w u _ hu => gNx_ok hn hsx.1 hu
  refine wO_count (fun (k : Nat) (p : Int32 × xs_S) => p.1 = nI k ∧ xsF [2018] [127, 128] s p.2 ∧ gBv gph g.1.2 (gB7 (gNx g po wo) x q k) (p.2.2.1 127) (p.2.2.1 128) (p.2.1 2018)) 7 ?_ ?_ _ ⟨rfl, xsF.rf, hv⟩
  · rintro k ⟨w5, u⟩ hk ⟨e, hF, hb⟩
    have e : w5 = nI k := e
    subst e
    have hF : xsF [2018] [127, 128] s u := hF
    have hb : gBv gph g.1.2 (gB7 (gNx g po wo) x q k) (u.2.1 127) (u.2.1 128) (u.1 2018) := hb
    obtain ⟨hq1, hq2, hq3, hq4⟩ := gB7_ok (nx := gNx g po wo) hq hx k (fun w u hw => hok w u (by omega))
    unfold xf_0_spread_l48
    refine wO_neg (show ¬ (7 : Int32) ≤ nI k from nI_ge (b := 7) hk (by omega)) ?_
    refine wO_eq (x_after hn hsx (by rw [hF.2.1 118 (by decide), hF.2.1 119 (by decide)]; exact hO) hk hwo) ?_
    show wO (if gE ((gNx g po wo x k).map gph) = (-1 : Int32) then _ else _) _
    unfold xf_0_spread_j93
    have same : gB7 (gNx g po wo) x q (k + 1) = gB7 (gNx g po wo) x q k → wO (some (Sum.inl (nI k + (1 : Int32), u)) : Option ((Int32 × xs_S) ⊕ xs_S)) (mo_sum (fun p => p.1 = nI (k + 1) ∧ xsF [2018] [127, 128] s p.2 ∧ gBv gph g.1.2 (gB7 (gNx g po wo) x q (k + 1)) (p.2.2.1 127) (p.2.2.1 128) (p.2.1 2018)) (fun t => xsF [2018] [127, 128] s t ∧ gBv gph g.1.2 (gB7 (gNx g po wo) x q 7) (t.2.1 127) (t.2.1 128) (t.1 2018))) := fun e => wO_some ⟨nI_1 k, hF, by rw [e]; exact hb⟩
    cases hu : gNx g po wo x k with
    | none => exact wO_pos rfl (same (by simp only [gB7, gB1, hu]))
    | some y =>
      have hsy := hok k y hk hu
      rw [show gE (Option.map gph (some y)) = nI (gph y) from rfl]
      have hgy := gph_lt hsy.1
      refine wO_neg (show ¬ nI (gph y) = -1 from pu_n1 (by omega)) ?_
      have hd := hb.2.2 y hsy
      by_cases hm : y ∈ (gB7 (gNx g po wo) x q k).1
      · rw [if_pos hm] at hd
        refine wO_agv (k := gph y) rfl (by omega) (by omega) hd ?_
        have h1 := (hq1.2 y hm).2
        have h2 := hq1.len
        exact wO_neg (pu_n1 (by omega)) (same (by simp only [gB7, gB1, hu]; rw [if_pos hm]))
      · rw [if_neg hm] at hd
        refine wO_agv (k := gph y) rfl (by omega) (by omega) hd ?_
        refine wO_pos rfl ?_
        have hl := hq1.lt hsy hm
        refine wO_neg (show ¬ (294 : Int32) ≤ u.1 2018 by rw [hb.1]; exact nI_ge (b := 294) hl (by omega)) ?_
        have hdx := hb.2.2 x hsx
        rw [if_pos (hq2 x hx)] at hdx
        have hgx := gph_lt hsx.1
        refine wO_agv (k := gph x) rfl (by omega) (by omega) hdx ?_
        refine wO_in (k := gph y) rfl (by omega) (by omega) ?_
        refine wO_in (k := (gB7 (gNx g po wo) x q k).1.length) hb.1 (by omega) (by omega) ?_
        refine wO_some ⟨nI_1 k, hF.tr ((xsF.sI (by decide)).tr ((xsF.sA (by decide)).tr (xsF.sA (by decide)))), ?_⟩
        have e2 : gB7 (gNx g po wo) x q (k + 1) = ((gB7 (gNx g po wo) x q k).1 ++ [y], fun z => if z = y then (gB7 (gNx g po wo) x q k).2 x + 1 else (gB7 (gNx g po wo) x q k).2 z) := by
          simp only [gB7, gB1, hu]
          rw [if_neg hm]
        rw [e2]
        have h9 := gBv_add (x := x) (fun a b => gph_inj) hb hm
        rw [hb.1] at h9 ⊢
        rw [nI_clamp (by omega), nI_clamp (by omega)]
        exact h9
  · rintro ⟨w5, u⟩ ⟨e, hF, hb⟩
    have e : w5 = nI 7 := e
    subst e
    unfold xf_0_spread_l48
    exact wO_pos (Int32.le_refl _) (wO_some ⟨hF, hb⟩)
