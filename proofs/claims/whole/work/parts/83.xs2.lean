/-! the class: spread, whole; the reference: goesThrough -/
theorem g_slt {L : List Nat} {j v : Nat} (h : L[j]? = some v) : j < L.length := by
  rcases Nat.lt_or_ge j L.length with k | k
  · exact k
  · rw [List.getElem?_eq_none k] at h; cases h
theorem g_pre {L M : List Nat} {j y : Nat} (h : ∀ (j : Nat) (v : Nat), L[j]? = some v → M[j]? = some v) (hj : j < L.length) (hy : M[j]? = some y) : L[j]? = some y := by
  have h1 := h j _ (List.getElem?_eq_getElem hj)
  rw [h1] at hy
  rw [List.getElem?_eq_getElem hj]
  exact hy
def xKsA : List Nat := [15, 16, 118, 119, 127, 128]
def xKsI : List Nat := [2018, 2022, 2023, 2024]
theorem XG.mv {g : gT} {Ki Ka : List Nat} {s t : xs_S} {po : Option (Nat × Nat)} (h : XG g s po) (hF : xsF Ki Ka s t) (h1 : ∀ j ∈ [147, 148, 193, 1873, 1874], ¬ j ∈ Ki) (h2 : ∀ j ∈ xTa, ¬ j ∈ Ka) (h3 : gCa g po (t.2.1 118) (t.2.1 119)) : XG g t po := by
  refine ⟨h.1.mv hF (fun j hj => h1 j ?_) h2, h.2.1.mv (hF.1 1873 (h1 1873 (by decide))) (hF.1 1874 (h1 1874 (by decide))), h3⟩
  have : ∀ j ∈ xTi, j ∈ [147, 148, 193, 1873, 1874] := by decide
  exact this j hj
theorem x_spread_out {g : gT} {po : Option (Nat × Nat)} {s : xs_S} {wo st0 : Nat} (h : XG g s po) (hst : gSt g.1.2 st0) (hwo : wo < 64) (hv : gBv gph g.1.2 (gBn (gNx g po wo) st0 0) (s.2.1 127) (s.2.1 128) (s.1 2018)) : wO (mo_loop (xf_0_spread_l30 (nI wo)) (0, s)) (fun t => xsF [2018] xKsA s t ∧ XG g t po ∧ gBv gph g.1.2 (gBf (gNx g po wo) st0) (t.2.1 127) (t.2.1 128) (t.1 2018) ∧ ∀ x ∈ (gBf (gNx g po wo) st0).1, gOp g po (t.2.1 118) (t.2.1 119) x) := by
  have hn := h.1.2.1
  have hok : ∀ st w u, gSt g.1.2 st → w < 7 → gNx g po wo st w = some u → gSt g.1.2 u := fun st w u hst _ hu => gNx_ok hn hst.1 hu
  refine wO_loop (fun (n : Nat) (p : Int32 × xs_S) => ∃ i, i + n = 294 ∧ p.1 = nI i ∧ i ≤ (gBn (gNx g po wo) st0 i).1.length ∧ xsF [2018] xKsA s p.2 ∧ XG g p.2 po ∧ gBv gph g.1.2 (gBn (gNx g po wo) st0 i) (p.2.2.1 127) (p.2.2.1 128) (p.2.1 2018) ∧ ∀ (j x : Nat), j < i → (gBn (gNx g po wo) st0 i).1[j]? = some x → ¬ p.2.2.1 118 (gph x) = -1) ?_ 294 _ ⟨0, rfl, rfl, Nat.zero_le _, xsF.rf, h, hv, fun j x hj => absurd hj (by omega)⟩
  rintro n ⟨w3, u⟩ ⟨i, hi, e, hil, hF, hG, hb, ho⟩
  have e : w3 = nI i := e
  subst e
  have hF : xsF [2018] xKsA s u := hF
  have hG : XG g u po := hG
  have hb : gBv gph g.1.2 (gBn (gNx g po wo) st0 i) (u.2.1 127) (u.2.1 128) (u.1 2018) := hb
  have ho : ∀ (j x : Nat), j < i → (gBn (gNx g po wo) st0 i).1[j]? = some x → ¬ u.2.1 118 (gph x) = -1 := ho
  obtain ⟨b1, b2, b3⟩ := gBn_ok hst hok i
  have hlen := b1.len
  unfold xf_0_spread_l30
  rcases Nat.lt_or_ge i (gBn (gNx g po wo) st0 i).1.length with hlt | hge
  · refine wO_neg (show ¬ u.1 2018 ≤ nI i by rw [hb.1]; exact nI_ge hlt (by omega)) ?_
    refine wO_neg (show ¬ (294 : Int32) ≤ nI i from nI_ge (b := 294) (by omega) (by omega)) ?_
    have hx : (gBn (gNx g po wo) st0 i).1[i]? = some ((gBn (gNx g po wo) st0 i).1[i]) := List.getElem?_eq_getElem hlt
    generalize (gBn (gNx g po wo) st0 i).1[i] = x at hx
    have hm := g_mem hx
    have hsx := (b1.2 x hm).1
    refine wO_agv (k := i) rfl (by omega) (by omega) (hb.2.1 i x hx) ?_
    refine wO_bd (x_open hG hsx) ?_
    rintro t1 ⟨f1, c1, o1, m1⟩
    refine wO_bd (x_spread_in (g := g) (po := po) (q := gBn (gNx g po wo) st0 i) hn hwo o1 b1 hm (by rw [f1.2.1 127 (by decide), f1.2.1 128 (by decide), f1.1 2018 (by decide)]; exact hb)) ?_
    rintro t2 ⟨f2, v2⟩
    have f12 : xsF [2018] xKsA u t2 := (f1.wk (by decide) (by decide)).tr (f2.wk (by decide) (by decide))
    have e118 : t2.2.1 118 = t1.2.1 118 := f2.2.1 118 (by decide)
    have e119 : t2.2.1 119 = t1.2.1 119 := f2.2.1 119 (by decide)
    have en : gBn (gNx g po wo) st0 (i + 1) = gB7 (gNx g po wo) x (gBn (gNx g po wo) st0 i) 7 := by simp only [gBn, hx]
    obtain ⟨k1, k2, k3, k4⟩ := gB7_ok (nx := gNx g po wo) b1 hm 7 (fun w u hw => hok x w u hsx hw)
    rw [← en] at k1 k2 k3 k4 v2
    refine wO_some ⟨n - 1, by omega, i + 1, by omega, nI_1 i, g_slt (k3 i x hx), hF.tr f12, hG.mv f12 (by decide) (by decide) (by rw [e118, e119]; exact c1), v2, fun j y hj hy => ?_⟩
    show ¬ t2.2.1 118 (gph y) = -1
    rw [e118]
    by_cases he : j = i
    · subst he
      rw [k3 j x hx] at hy
      cases hy
      exact gOp_n1 hn o1
    · exact m1 _ (ho j y (by omega) (g_pre k3 (by omega) hy))
  · refine wO_pos (show u.1 2018 ≤ nI i by rw [hb.1]; exact nI_le hge (by omega)) ?_
    have ee := gBn_end hst hok hge
    rw [ee] at hb ho b1 hil hge
    refine wO_some ⟨hF, hG, hb, fun x hx => ?_⟩
    obtain ⟨j, hj⟩ := List.getElem?_of_mem hx
    have hjl := g_slt hj
    rcases hG.2.2 x (b1.2 x hx).1 with k | k
    · exact absurd k (ho j x (by omega) hj)
    · exact k
theorem x_spread {g : gT} {po : Option (Nat × Nat)} {s : xs_S} {wo st0 : Nat} (h : XG g s po) (hst : gSt g.1.2 st0) (hwo : wo < 64) : wO (xf_0_spread s (nI (gph st0)) (nI wo)) (fun t => xsF xKsI xKsA s t ∧ XG g t po ∧ (t.1 2022 = nI wo ∧ t.1 2023 = s.1 1875 ∧ t.1 2024 = 0) ∧ gBv gph g.1.2 (gBf (gNx g po wo) st0) (t.2.1 127) (t.2.1 128) (t.1 2018) ∧ ∀ x ∈ (gBf (gNx g po wo) st0).1, gOp g po (t.2.1 118) (t.2.1 119) x) := by
  unfold xf_0_spread
  generalize hs0 : xs_sI (xs_sI (xs_sI s 2022 (nI wo)) 2023 (s.1 1875)) 2024 (0 : Int32) = s0
  have f0 : xsF xKsI xKsA s s0 := by
    rw [← hs0]
    exact (xsF.sI (by decide)).tr ((xsF.sI (by decide)).tr (xsF.sI (by decide)))
  have i0 : s0.1 2022 = nI wo ∧ s0.1 2023 = s.1 1875 ∧ s0.1 2024 = 0 := by
    rw [← hs0]
    exact ⟨rfl, rfl, rfl⟩
  have c0 : gCa g po (s0.2.1 118) (s0.2.1 119) := by rw [← hs0]; exact h.2.2
  refine wO_bd x_fill128 ?_
  rintro s1 ⟨f1, d1⟩
  have hgl := gph_lt hst.1
  refine wO_in (k := gph st0) rfl (by omega) (by omega) ?_
  rw [nI_clamp (by omega)]
  generalize hs2 : xs_sA (xs_sA (xs_sI s1 2018 (1 : Int32)) 127 (upd (s1.2.1 127) 0 (nI (gph st0)))) 128 (upd (s1.2.1 128) (gph st0) (0 : Int32)) = s2
  have f2 : xsF [2018] xKsA s0 s2 := by
    rw [← hs2]
    exact (f1.wk (by decide) (by decide)).tr ((xsF.sI (by decide)).tr ((xsF.sA (by decide)).tr (xsF.sA (by decide))))
  have f02 : xsF xKsI xKsA s s2 := f0.tr (f2.wk (by decide) (by decide))
  have c2 : gCa g po (s2.2.1 118) (s2.2.1 119) := by
    rw [← hs2]
    show gCa g po (s1.2.1 118) (s1.2.1 119)
    rw [f1.2.1 118 (by decide), f1.2.1 119 (by decide)]
    exact c0
  have v2 : gBv gph g.1.2 (gBn (gNx g po wo) st0 0) (s2.2.1 127) (s2.2.1 128) (s2.1 2018) := by
    rw [← hs2]
    refine ⟨rfl, fun j x hj => ?_, fun u hu => ?_⟩
    · have hj2 : j = 0 := by
        have : j < 1 := g_slt hj
        omega
      subst hj2
      have : st0 = x := Option.some.inj hj
      subst this
      show upd (s1.2.1 127) 0 (nI (gph st0)) 0 = nI (gph st0)
      exact upd_eq
    · show upd (s1.2.1 128) (gph st0) 0 (gph u) = if u ∈ [st0] then nI 0 else -1
      by_cases he : u = st0
      · subst he
        rw [upd_eq, if_pos (List.mem_singleton.mpr rfl)]
        rfl
      · rw [upd_ne (fun e => he (gph_inj e)), if_neg (fun k => he (List.mem_singleton.mp k))]
        exact d1 _ (gph_lt hu.1)
  refine wO_bd (x_spread_out (h.mv f02 (by decide) (by decide) c2) hst hwo v2) ?_
  rintro t ⟨t1, t2, t3, t4⟩
  have f3 := f2.tr t1
  exact wO_some ⟨f02.tr (t1.wk (by decide) (by decide)), t2, ⟨(f3.1 2022 (by decide)).trans i0.1, (f3.1 2023 (by decide)).trans i0.2.1, (f3.1 2024 (by decide)).trans i0.2.2⟩, t3, t4⟩
