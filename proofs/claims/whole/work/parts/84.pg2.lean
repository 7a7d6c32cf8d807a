/-! the reference: copies, goesThrough -/
def gPN (s : ms_S) (po : Option (Nat × Nat)) (n : Nat) : Prop := match po with
  | none => s.2.1 47 3 = -2 ∧ s.2.1 47 4 = -2
  | some (l, r) => s.2.1 47 3 = nI l ∧ s.2.1 47 4 = nI r ∧ l < n ∧ r < n
/-- text and standing of the reference -/
def MN (g : gT) (lv : Nat) (s : ms_S) (po : Option (Nat × Nat)) (st : Nat) : Prop := MT g lv s ∧ gSt g.1.2 st ∧ s.2.1 47 0 = nI (st / 14) ∧ s.2.1 47 1 = nI (st / 7 % 2) ∧ s.2.1 47 2 = nI (st % 7) ∧ gPN s po g.1.1
theorem m_copies {g : gT} {lv : Nat} {s : ms_S} {po : Option (Nat × Nat)} {st : Nat} (h : MN g lv s po st) : wO (mf_copies s) (fun t => msF [48, 49, 50] s t ∧ (∀ j, j < 12 → t.2.1 48 j = s.2.1 47 j) ∧ t.1 49 = s.2.1 30 lv ∧ MW g lv t po 0 (st / 14) (st / 7 % 2) (st % 7)) := by
  obtain ⟨h1, h2, h3, h4, h5, h6⟩ := h
  have hlv := h1.1
  have h18 := h1.2.1
  unfold mf_copies
  refine wO_bd (Q := fun t => msF [48] s t ∧ ∀ j, j < 12 → t.2.1 48 j = s.2.1 47 j) ?_ ?_
  · refine wO_count (fun (i : Nat) (p : Int32 × ms_S) => p.1 = nI i ∧ msF [48] s p.2 ∧ ∀ j, j < i → p.2.2.1 48 j = s.2.1 47 j) 12 ?_ ?_ _ ⟨rfl, msF.rf, fun j hj => absurd hj (by omega)⟩
    · rintro i ⟨w, u⟩ hi ⟨e, hF, hu⟩
      have e : w = nI i := e
      subst e
      have hF : msF [48] s u := hF
      unfold mf_copies_l2
      refine wO_neg (show ¬ (12 : Int32) ≤ nI i from nI_ge (b := 12) hi (by omega)) ?_
      refine wO_agv (k := i) rfl (by omega) (by omega) (by rw [hF.a 47 (by decide)]) ?_
      refine wO_in (k := i) rfl (by omega) (by omega) ?_
      rw [nI_clamp (by omega)]
      refine wO_some ⟨nI_1 i, hF.tr (msF.sA (by decide)), fun j hj => ?_⟩
      show upd (u.2.1 48) i (s.2.1 47 i) j = _
      by_cases he : j = i
      · subst he; exact upd_eq
      · rw [upd_ne he]; exact hu j (by omega)
    · rintro ⟨w, u⟩ ⟨e, hF, hu⟩
      have e : w = nI 12 := e
      subst e
      unfold mf_copies_l2
      exact wO_pos (Int32.le_refl _) (wO_some ⟨hF, hu⟩)
  · rintro t ⟨hF, ht⟩
    refine wO_agv (k := lv) (by rw [hF.i 18 (by decide)]; exact h18) (by omega) (by omega) (by rw [hF.a 30 (by decide)]) ?_
    have hF2 : msF [48, 49, 50] s (ms_sI (ms_sI t 49 (s.2.1 30 lv)) 50 0) := (hF.wk (by decide)).tr ((msF.sI (by decide)).tr (msF.sI (by decide)))
    refine wO_some ⟨hF2, ht, rfl, h1.mv hF2 (by decide), ?_, rfl, by omega, (ht 0 (by omega)).trans h3, (ht 1 (by omega)).trans h4, (ht 2 (by omega)).trans h5, ?_, by omega, h2.2⟩
    · have a3 := ht 3 (by omega)
      have a4 := ht 4 (by omega)
      cases po with
      | none => exact ⟨a3.trans h6.1, a4.trans h6.2⟩
      | some p => exact ⟨a3.trans h6.1, a4.trans h6.2.1, h6.2.2⟩
    · have := h2.1
      omega
theorem m_num {g : gT} {lv : Nat} {s : ms_S} {po : Option (Nat × Nat)} {wo st : Nat} (h : MW g lv s po wo (st / 14) (st / 7 % 2) (st % 7)) : mf_numberNow s = some (nI st, s) := by
  rw [m_number h.2.2.2.2.1 h.2.2.2.2.2.1 h.2.2.2.2.2.2.1]
  congr 3
  omega
theorem m_goes_in {nw x i : Nat} {s : ms_S} {nx : Nat → Nat → Option Nat} {q : List Nat × (Nat → Nat)} (hth : ∀ st, gSt nw st → ∀ w, w < 7 → s.2.1 51 (7 * st + w) = gE (nx st w)) (hok : ∀ st w u, gSt nw st → w < 7 → nx st w = some u → gSt nw u) (hq : gBo nw q) (hx : q.1[i]? = some x) (hv : gBv id nw q (s.2.1 59) (s.2.1 58) (s.1 60)) : wO (mo_loop (mf_goesThrough_l39 (nI i)) (0, s)) (fun t => msF [58, 59, 60] s t ∧ gBv id nw (gB7 nx x q 7) (t.2.1 59) (t.2.1 58) (t.1 60)) := by
  have hm := g_mem hx
  have hi := g_slt hx
  have hlen := hq.len
  have hsx := (hq.2 x hm).1
  have hsx1 := hsx.1
  refine wO_count (fun (k : Nat) (p : Int32 × ms_S) => p.1 = nI k ∧ msF [58, 59, 60] s p.2 ∧ gBv id nw (gB7 nx x q k) (p.2.2.1 59) (p.2.2.1 58) (p.2.1 60)) 7 ?_ ?_ _ ⟨rfl, msF.rf, hv⟩
  · rintro k ⟨w5, u⟩ hk ⟨e, hF, hb⟩
    have e : w5 = nI k := e
    subst e
    have hF : msF [58, 59, 60] s u := hF
    have hb : gBv id nw (gB7 nx x q k) (u.2.1 59) (u.2.1 58) (u.1 60) := hb
    obtain ⟨hq1, hq2, hq3, hq4⟩ := gB7_ok (nx := nx) hq hm k (fun w u hw => hok x w u hsx (by omega))
    unfold mf_goesThrough_l39
    refine wO_neg (show ¬ (7 : Int32) ≤ nI k from nI_ge (b := 7) hk (by omega)) ?_
    have hli : u.2.1 59 i = nI x := hb.2.1 i x (hq3 i x hx)
    refine wO_agv (k := i) rfl (by omega) (by omega) hli ?_
    have ei : (7 : Int32) * nI x + nI k = nI (7 * x + k) := (congrArg (· + nI k) (pu_mul 7 x)).trans (nI_add _ _)
    refine wO_agv (k := 7 * x + k) (v := gE (nx x k)) ei (by omega) (by omega) (by rw [hF.a 51 (by decide)]; exact hth x hsx k hk) ?_
    unfold mf_goesThrough_j87
    have same : gB7 nx x q (k + 1) = gB7 nx x q k → wO (some (Sum.inl (nI k + (1 : Int32), u)) : Option ((Int32 × ms_S) ⊕ ms_S)) (mo_sum (fun p => p.1 = nI (k + 1) ∧ msF [58, 59, 60] s p.2 ∧ gBv id nw (gB7 nx x q (k + 1)) (p.2.2.1 59) (p.2.2.1 58) (p.2.1 60)) (fun t => msF [58, 59, 60] s t ∧ gBv id nw (gB7 nx x q 7) (t.2.1 59) (t.2.1 58) (t.1 60))) := fun e => wO_some ⟨nI_1 k, hF, by rw [e]; exact hb⟩
    cases hu : nx x k with
    | none => exact wO_pos (show (-1 : Int32) < 0 by decide) (same (by simp only [gB7, gB1, hu]))
    | some y =>
      have hsy := hok x k y hsx hk hu
      have hy1 := hsy.1
      rw [show gE (some y) = nI y from rfl]
      refine wO_neg (pu_nn (by omega)) ?_
      have hd : u.2.1 58 y = _ := hb.2.2 y hsy
      by_cases hmy : y ∈ (gB7 nx x q k).1
      · rw [if_pos hmy] at hd
        refine wO_agv (k := y) rfl (by omega) (by omega) hd ?_
        have h1 := (hq1.2 y hmy).2
        have h2 := hq1.len
        exact wO_neg (pu_nn (by omega)) (same (by simp only [gB7, gB1, hu]; rw [if_pos hmy]))
      · rw [if_neg hmy] at hd
        refine wO_agv (k := y) rfl (by omega) (by omega) hd ?_
        refine wO_pos (show (-1 : Int32) < 0 by decide) ?_
        have hdx : u.2.1 58 x = _ := hb.2.2 x hsx
        rw [if_pos (hq2 x hm)] at hdx
        refine wO_agv (k := i) rfl (by omega) (by omega) hli ?_
        refine wO_agv (k := x) rfl (by omega) (by omega) hdx ?_
        have hl := hq1.lt hsy hmy
        refine wO_in (k := y) rfl (by omega) (by omega) ?_
        refine wO_in (k := (gB7 nx x q k).1.length) hb.1 (by omega) (by omega) ?_
        refine wO_some ⟨nI_1 k, hF.tr ((msF.sI (by decide)).tr ((msF.sA (by decide)).tr (msF.sA (by decide)))), ?_⟩
        have e2 : gB7 nx x q (k + 1) = ((gB7 nx x q k).1 ++ [y], fun z => if z = y then (gB7 nx x q k).2 x + 1 else (gB7 nx x q k).2 z) := by
          simp only [gB7, gB1, hu]
          rw [if_neg hmy]
        rw [e2]
        have h9 := gBv_add (x := x) (fun a b e => e) hb hmy
        rw [hb.1] at h9 ⊢
        rw [nI_clamp (by omega), nI_clamp (by omega)]
        exact h9
  · rintro ⟨w5, u⟩ ⟨e, hF, hb⟩
    have e : w5 = nI 7 := e
    subst e
    unfold mf_goesThrough_l39
    exact wO_pos (Int32.le_refl _) (wO_some ⟨hF, hb⟩)
def gKg : List Nat := [44, 45, 46, 48, 49, 50, 51, 58, 59, 60]
theorem m_goes {g : gT} {lv : Nat} {s : ms_S} {po : Option (Nat × Nat)} {st : Nat} (h : MN g lv s po st) : wO (mf_goesThrough s) (fun t => msF gKg s t ∧ gTh g po 0 (t.2.1 51) ∧ gBv id g.1.2 (gBf (gNx g po 0) st) (t.2.1 59) (t.2.1 58) (t.1 60)) := by
  have hn := h.1.2.2.2.1
  have hst := h.2.1
  have hst1 := hst.1
  have hok : ∀ st w u, gSt g.1.2 st → w < 7 → gNx g po 0 st w = some u → gSt g.1.2 u := fun st w u hst _ hu => gNx_ok hn hst.1 hu
  unfold mf_goesThrough
  refine wO_bd (m_copies h) ?_
  rintro s1 ⟨f1, r1, l1, w1⟩
  refine wO_bd (m_fillsThen w1) ?_
  rintro s2 ⟨f2, r2, th2⟩
  refine wO_bd (Q := fun t => msF [58] s2 t ∧ ∀ j, j < 294 → t.2.1 58 j = -1) ?_ ?_
  · refine wO_count (fun (i : Nat) (p : Int32 × ms_S) => p.1 = nI i ∧ msF [58] s2 p.2 ∧ ∀ j, j < i → p.2.2.1 58 j = -1) 294 ?_ ?_ _ ⟨rfl, msF.rf, fun j hj => absurd hj (by omega)⟩
    · rintro i ⟨w, u⟩ hi ⟨e, hF, hu⟩
      have e : w = nI i := e
      subst e
      unfold mf_goesThrough_l6
      refine wO_neg (show ¬ (294 : Int32) ≤ nI i from nI_ge (b := 294) hi (by omega)) ?_
      refine wO_in (k := i) rfl (by omega) (by omega) ?_
      rw [nI_clamp (by omega)]
      refine wO_some ⟨nI_1 i, hF.tr (msF.sA (by decide)), fun j hj => ?_⟩
      show upd (u.2.1 58) i (-1) j = -1
      by_cases he : j = i
      · subst he; exact upd_eq
      · rw [upd_ne he]; exact hu j (by omega)
    · rintro ⟨w, u⟩ ⟨e, hF, hu⟩
      have e : w = nI 294 := e
      subst e
      unfold mf_goesThrough_l6
      exact wO_pos (Int32.le_refl _) (wO_some ⟨hF, hu⟩)
  · rintro s3 ⟨f3, d3⟩
    have e48 : ∀ j, s3.2.1 48 j = s1.2.1 48 j := fun j => by rw [f3.a 48 (by decide), r2]
    have num : ∀ t : ms_S, t.2.1 48 = s3.2.1 48 → mf_numberNow t = some (nI st, t) := fun t ht => by
      rw [m_number (sl := st / 14) (tu := st / 7 % 2) (la := st % 7) (by rw [ht, e48]; exact w1.2.2.2.2.1) (by rw [ht, e48]; exact w1.2.2.2.2.2.1) (by rw [ht, e48]; exact w1.2.2.2.2.2.2.1)]
      congr 3
      omega
    refine wO_eq (num s3 rfl) ?_
    refine wO_eq (num _ rfl) ?_
    refine wO_in (k := st) rfl (by omega) (by omega) ?_
    rw [nI_clamp (by omega)]
    generalize hs4 : ms_sA (ms_sA (ms_sI s3 60 (1 : Int32)) 59 (upd (s3.2.1 59) 0 (nI st))) 58 (upd ((ms_sA (ms_sI s3 60 (1 : Int32)) 59 (upd (s3.2.1 59) 0 (nI st))).2.1 58) st (0 : Int32)) = s4
    have f4 : msF [58, 59, 60] s3 s4 := by
      rw [← hs4]
      exact (msF.sI (by decide)).tr ((msF.sA (by decide)).tr (msF.sA (by decide)))
    have f24 : msF [58, 59, 60] s2 s4 := (f3.wk (by decide)).tr f4
    have th4 : gTh g po 0 (s4.2.1 51) := by rw [f24.a 51 (by decide)]; exact th2
    have v4 : gBv id g.1.2 (gBn (gNx g po 0) st 0) (s4.2.1 59) (s4.2.1 58) (s4.1 60) := by
      rw [← hs4]
      refine ⟨rfl, fun j x hj => ?_, fun u hu => ?_⟩
      · have hj2 : j = 0 := by
          have : j < 1 := g_slt hj
          omega
        subst hj2
        have : st = x := Option.some.inj hj
        subst this
        show upd (s3.2.1 59) 0 (nI st) 0 = nI st
        exact upd_eq
      · show upd (s3.2.1 58) st 0 u = if u ∈ [st] then nI 0 else -1
        by_cases he : u = st
        · subst he
          rw [upd_eq, if_pos (List.mem_singleton.mpr rfl)]
          rfl
        · rw [upd_ne he, if_neg (fun k => he (List.mem_singleton.mp k))]
          exact d3 _ hu.1
    refine wO_bd (Q := fun t => msF [58, 59, 60] s4 t ∧ gBv id g.1.2 (gBf (gNx g po 0) st) (t.2.1 59) (t.2.1 58) (t.1 60)) ?_ ?_
    · refine wO_loop (fun (n : Nat) (p : Int32 × ms_S) => ∃ i, i + n = 294 ∧ p.1 = nI i ∧ i ≤ (gBn (gNx g po 0) st i).1.length ∧ msF [58, 59, 60] s4 p.2 ∧ gBv id g.1.2 (gBn (gNx g po 0) st i) (p.2.2.1 59) (p.2.2.1 58) (p.2.1 60)) ?_ 294 _ ⟨0, rfl, rfl, Nat.zero_le _, msF.rf, v4⟩
      rintro n ⟨w3, u⟩ ⟨i, hi, e, hil, hF, hb⟩
      have e : w3 = nI i := e
      subst e
      have hF : msF [58, 59, 60] s4 u := hF
      have hb : gBv id g.1.2 (gBn (gNx g po 0) st i) (u.2.1 59) (u.2.1 58) (u.1 60) := hb
      obtain ⟨b1, b2, b3⟩ := gBn_ok hst hok i
      have hlen := b1.len
      unfold mf_goesThrough_l33
      rcases Nat.lt_or_ge i (gBn (gNx g po 0) st i).1.length with hlt | hge
      · refine wO_neg (show ¬ u.1 60 ≤ nI i by rw [hb.1]; exact nI_ge hlt (by omega)) ?_
        have hx : (gBn (gNx g po 0) st i).1[i]? = some ((gBn (gNx g po 0) st i).1[i]) := List.getElem?_eq_getElem hlt
        generalize (gBn (gNx g po 0) st i).1[i] = x at hx
        have hm := g_mem hx
        refine wO_bd (m_goes_in (nx := gNx g po 0) (fun st hs w hw => by rw [hF.a 51 (by decide)]; exact th4 st hs w hw) hok b1 hx hb) ?_
        rintro t2 ⟨g2, v2⟩
        have en : gBn (gNx g po 0) st (i + 1) = gB7 (gNx g po 0) x (gBn (gNx g po 0) st i) 7 := by simp only [gBn, hx]
        obtain ⟨k1, k2, k3, k4⟩ := gB7_ok (nx := gNx g po 0) b1 hm 7 (fun w u hw => hok x w u (b1.2 x hm).1 hw)
        rw [← en] at k1 k2 k3 k4 v2
        exact wO_some ⟨n - 1, by omega, i + 1, by omega, nI_1 i, g_slt (k3 i x hx), hF.tr g2, v2⟩
      · refine wO_pos (show u.1 60 ≤ nI i by rw [hb.1]; exact nI_le hge (by omega)) ?_
        have ee := gBn_end hst hok hge
        rw [ee] at hb
        exact wO_some ⟨hF, hb⟩
    · rintro t ⟨t1, t2⟩
      refine wO_some ⟨((f1.wk (by decide)).tr (f2.wk (by decide))).tr ((f24.tr t1).wk (by decide)), ?_, t2⟩
      rw [t1.a 51 (by decide)]
      exact th4
