/-! rows, listen -/
theorem RT_tl {s : xs_S} {m : ms_S} (h : RT s m) : ∃ z be bn so, z ≤ 20 ∧ s.1 1924 = nI z ∧ m.1 63 = nI z ∧ gTl z be bn so (s.2.1 121) (s.2.1 122) (s.2.1 123) ∧ gTl z be bn so (m.2.1 64) (m.2.1 65) (m.2.1 66) := by
  obtain ⟨z, z1, z2, z3, z4⟩ := h
  refine ⟨z, fun i => (s.2.1 121 i).toNatClampNeg, fun i => (s.2.1 122 i).toNatClampNeg, fun i => decide (s.2.1 123 i = 1), z1, z2, z3, fun i hi => ?_, fun i hi => ?_⟩
  · obtain ⟨⟨a, a1, a2, a3, a4⟩, ⟨b, b1, b2, b3⟩, c1, c2⟩ := z4 i hi
    dsimp only
    rw [a3, b2, nI_clamp (by omega), nI_clamp (by omega)]
    refine ⟨rfl, a1, a2, rfl, b1, ?_⟩
    rcases c2 with c2 | c2
    · rw [c2]; rfl
    · rw [c2]; rfl
  · obtain ⟨⟨a, a1, a2, a3, a4⟩, ⟨b, b1, b2, b3⟩, c1, c2⟩ := z4 i hi
    dsimp only
    rw [a3, b2, a4, b3, ← c1, nI_clamp (by omega), nI_clamp (by omega)]
    refine ⟨rfl, a1, a2, rfl, b1, ?_⟩
    rcases c2 with c2 | c2
    · rw [c2]; rfl
    · rw [c2]; rfl
theorem gTl.le {z k : Nat} {be bn : Nat → Nat} {so : Nat → Bool} {A B C : Nat → Int32} (h : gTl z be bn so A B C) (hk : k ≤ z) : gTl k be bn so A B C := fun i hi => h i (by omega)
def gFst (p : Nat → Bool) (X N : Nat) (w : Int32) : Prop := ((∀ n, X ≤ n → n < N → p n = false) ∧ w = -2) ∨ ∃ n, X ≤ n ∧ n < N ∧ p n = true ∧ (∀ j, X ≤ j → j < n → p j = false) ∧ w = nI n
theorem gFst_u {p : Nat → Bool} {X N : Nat} {a b : Int32} (h : gFst p X N a) (k : gFst p X N b) : a = b := by
  rcases h with ⟨h1, h2⟩ | ⟨n, h1, h2, h3, h4, h5⟩
  · rcases k with ⟨k1, k2⟩ | ⟨m, k1, k2, k3, k4, k5⟩
    · rw [h2, k2]
    · rw [h1 m k1 k2] at k3; cases k3
  · rcases k with ⟨k1, k2⟩ | ⟨m, k1, k2, k3, k4, k5⟩
    · rw [k1 n h1 h2] at h3; cases h3
    · have : n = m := by
        by_cases c1 : n < m
        · rw [k4 n h1 c1] at h3; cases h3
        · by_cases c2 : m < n
          · rw [h4 m k1 c2] at k3; cases k3
          · omega
      rw [h5, k5, this]
theorem m_rowsL {g : gT} {po : Option (Nat × Nat)} {m : ms_S} {st l k : Nat} {be bn : Nat → Nat} {so : Nat → Bool} {v3 : Int32} (hn6 : g.1.2 ≤ 6) (hst : gSt g.1.2 st) (h0 : m.2.1 48 0 = nI (st / 14)) (h1 : m.2.1 48 1 = nI (st / 7 % 2)) (h2 : m.2.1 48 2 = nI (st % 7)) (hth : gTh g po 0 (m.2.1 51)) (hl1 : 1 ≤ l) (hl : l ≤ 5) (hk : k ≤ 20) (ht : gTl k be bn so (m.2.1 64) (m.2.1 65) (m.2.1 66)) : wO (mo_loop (mf_rows_l25 (nI k) (nI l) v3) ((0 : Int32), (-2 : Int32), nI (7 ^ l) - (1 : Int32), m)) (fun q => q.1 = nI (gCt (gFt (gNx g po 0) st be bn so k l) (7 ^ l)) ∧ gFst (gFt (gNx g po 0) st be bn so k l) 0 (7 ^ l) q.2.1 ∧ msF [67, 68] m q.2.2) := by
  have hp5 := g7p l (by omega)
  have hpp : 0 < 7 ^ l := Nat.pow_pos (by omega)
  have fit : ∀ (t : ms_S) (n : Nat), n < 7 ^ l → msF [67, 68] m t → wO (mf_doesFit t (nI st) (nI n) (nI k) (nI l)) (fun p => p.1 = (bif gFt (gNx g po 0) st be bn so k l n then 1 else 0) ∧ msF [67, 68] t p.2) := fun t n hn f => wO_mono (m_doesFit (g := g) (po := po) (m := t) (st := st) hn6 hst (by rw [f.a 51 (by decide)]; exact hth) hl1 hl hn hk (by rw [f.a 64 (by decide), f.a 65 (by decide), f.a 66 (by decide)]; exact ht)) (fun p hp => ⟨hp.1, hp.2.1⟩)
  have hcN := gCt_le (gFt (gNx g po 0) st be bn so k l)
  generalize gFt (gNx g po 0) st be bn so k l = p at *
  generalize 7 ^ l = N at *
  have mono : ∀ a b, a ≤ b → gCt p a ≤ gCt p b := fun a b hab => by
    induction b with
    | zero => rw [show a = 0 by omega]; exact Nat.le_refl _
    | succ b ih =>
      by_cases e : a = b + 1
      · rw [e]; exact Nat.le_refl _
      · have := ih (by omega)
        have e2 : gCt p (b + 1) = gCt p b + (bif p b then 1 else 0) := rfl
        omega
  refine wO_count (fun (i : Nat) (q : Int32 × Int32 × Int32 × ms_S) => q.1 = nI (gCt p N - gCt p (N - i)) ∧ gFst p (N - i) N q.2.1 ∧ q.2.2.1 = (if i < N then nI (N - 1 - i) else -1) ∧ msF [67, 68] m q.2.2.2) N ?_ ?_ _ ⟨by rw [Nat.sub_zero, Nat.sub_self]; rfl, Or.inl ⟨fun n a b => absurd b (by omega), rfl⟩, by rw [if_pos hpp]; exact pu_sub (b := 1) (by omega), msF.rf⟩
  · rintro i ⟨w4, w5, w6, t⟩ hi ⟨e1, e2, e3, f1⟩
    have e1 : w4 = nI (gCt p N - gCt p (N - i)) := e1
    have e2 : gFst p (N - i) N w5 := e2
    have e4 : w6 = nI (N - 1 - i) := (show w6 = (if i < N then nI (N - 1 - i) else -1) from e3).trans (if_pos hi)
    have f1 : msF [67, 68] m t := f1
    subst e1 e4
    have hstep : gCt p (N - i) = gCt p (N - 1 - i) + (bif p (N - 1 - i) then 1 else 0) := by
      rw [show N - i = N - 1 - i + 1 by omega]
      rfl
    have ew : nI (N - 1 - i) + (-1 : Int32) = if i + 1 < N then nI (N - 1 - (i + 1)) else -1 := by
      by_cases hc : i + 1 < N
      · rw [if_pos hc, show N - 1 - i = N - 1 - (i + 1) + 1 by omega, ← nI_1, Int32.add_assoc, show (1 : Int32) + (-1) = 0 by decide, Int32.add_zero]
      · rw [if_neg hc, show N - 1 - i = 0 by omega]
        decide
    have hm1 := mono (N - i) N (by omega)
    have hm2 := hcN N
    have es : N - (i + 1) = N - 1 - i := by omega
    have num : mf_numberNow t = some (nI st, t) := by
      have := m_number (s := t) (sl := st / 14) (tu := st / 7 % 2) (la := st % 7) (by rw [f1.a 48 (by decide)]; exact h0) (by rw [f1.a 48 (by decide)]; exact h1) (by rw [f1.a 48 (by decide)]; exact h2)
      rw [show 14 * (st / 14) + 7 * (st / 7 % 2) + st % 7 = st by omega] at this
      exact this
    unfold mf_rows_l25 mf_rows_j39
    refine wO_neg (pu_nn (by omega)) (wO_eq num (wO_bd (fit t (N - 1 - i) (by omega) f1) ?_))
    rintro ⟨b, t2⟩ ⟨d1, d2⟩
    have d1 : b = (bif p (N - 1 - i) then 1 else 0) := d1
    have d2 : msF [67, 68] t t2 := d2
    subst d1
    cases hf : p (N - 1 - i) with
    | false =>
      rw [hf] at hstep
      refine wO_pos rfl (wO_some ⟨?_, ?_, ew, f1.tr d2⟩)
      · show _ = nI (gCt p N - gCt p (N - (i + 1)))
        rw [es, hstep]
        rfl
      · show gFst p (N - (i + 1)) N w5
        rw [es]
        rcases e2 with ⟨q1, q2⟩ | ⟨n, q1, q2, q3, q4, q5⟩
        · refine Or.inl ⟨fun n a c => ?_, q2⟩
          by_cases he : n = N - 1 - i
          · rw [he]; exact hf
          · exact q1 n (by omega) c
        · refine Or.inr ⟨n, by omega, q2, q3, fun j a c => ?_, q5⟩
          by_cases he : j = N - 1 - i
          · rw [he]; exact hf
          · exact q4 j (by omega) c
    | true =>
      rw [hf] at hstep
      have hstep : gCt p (N - i) = gCt p (N - 1 - i) + 1 := hstep
      refine wO_neg pu_10 (wO_some ⟨?_, ?_, ew, f1.tr d2⟩)
      · show nI (gCt p N - gCt p (N - i)) + 1 = nI (gCt p N - gCt p (N - (i + 1)))
        rw [es, nI_1]
        exact congrArg nI (by omega)
      · show gFst p (N - (i + 1)) N (nI (N - 1 - i))
        rw [es]
        exact Or.inr ⟨N - 1 - i, by omega, by omega, hf, fun j a c => absurd c (by omega), rfl⟩
  · rintro ⟨w4, w5, w6, t⟩ ⟨e1, e2, e3, f1⟩
    have e1 : w4 = nI (gCt p N - gCt p (N - N)) := e1
    have e2 : gFst p (N - N) N w5 := e2
    have e4 : w6 = -1 := (show w6 = (if N < N then nI (N - 1 - N) else -1) from e3).trans (if_neg (by omega))
    subst e4
    rw [Nat.sub_self] at e1 e2
    unfold mf_rows_l25
    exact wO_pos (show (-1 : Int32) < 0 by decide) (wO_some ⟨e1, e2, f1⟩)
theorem gFst_cl {p : Nat → Bool} {q : Nat → Nat → Bool} {s : xs_S} {N : Nat} (h : gSm p q s N) (hN : N < 2 ^ 31) : (s.1 1928 = 0 → gFst p 0 N (-2)) ∧ (¬ s.1 1928 = 0 → gFst p 0 N (s.1 1929)) := by
  obtain ⟨h1, h2, -⟩ := h
  have hle := gCt_le p N
  refine ⟨fun e => Or.inl ⟨fun n _ hn => ?_, rfl⟩, fun e => Or.inr ?_⟩
  · rw [h1] at e
    exact gAny_no.mp (gCt_0.mp ((nI_eq (b := 0) (by omega) (by omega)).mp e)) n hn
  · obtain ⟨n, a, b, c, d⟩ := h2.resolve_left (fun q => e (by rw [h1, q]; rfl))
    exact ⟨n, Nat.zero_le _, a, b, fun j _ hj => c j hj, d⟩
/-- what both ask of k and l -/
theorem g_asked {s : xs_S} {m : ms_S} {z : Nat} (hz : z ≤ 20) (h24 : s.1 1924 = nI z) (h63 : m.1 63 = nI z) (a b : Int32) : (∃ k l, k ≤ z ∧ 1 ≤ l ∧ l ≤ 5 ∧ a = nI k ∧ b = nI l ∧ xf_11_isKnown s a b = some (1, s) ∧ mf_isAsked m a b = some (1, m)) ∨ (xf_11_isKnown s a b = some (0, s) ∧ mf_isAsked m a b = some (0, m)) := by
  unfold xf_11_isKnown mf_isAsked
  rw [h24, h63]
  by_cases c1 : a < 0
  · right
    refine ⟨if_pos c1, wO_iff.mp ?_⟩
    refine wO_eq (x := 0) ?_ (wO_pos rfl (wO_some rfl))
    unfold mf_in
    rw [if_pos c1]
  · by_cases c2 : nI z < a
    · right
      refine ⟨(if_neg c1).trans (if_pos c2), wO_iff.mp ?_⟩
      refine wO_eq (x := 0) ?_ (wO_pos rfl (wO_some rfl))
      unfold mf_in
      rw [if_neg c1, if_pos c2]
    · have ia : mf_in a 0 (nI z) = some 1 := by
        unfold mf_in
        rw [if_neg c1, if_neg c2]
      by_cases c3 : b < 1
      · right
        refine ⟨(if_neg c1).trans ((if_neg c2).trans (if_pos c3)), wO_iff.mp ?_⟩
        refine wO_eq ia (wO_neg pu_10 (wO_eq (x := 0) ?_ (wO_pos rfl (wO_some rfl))))
        unfold mf_in
        rw [if_pos c3]
      · by_cases c4 : (5 : Int32) < b
        · right
          refine ⟨(if_neg c1).trans ((if_neg c2).trans ((if_neg c3).trans (if_pos c4))), wO_iff.mp ?_⟩
          refine wO_eq ia (wO_neg pu_10 (wO_eq (x := 0) ?_ (wO_pos rfl (wO_some rfl))))
          unfold mf_in
          rw [if_neg c3, if_pos c4]
        · left
          obtain ⟨k, hk, rfl⟩ := nI_of c1
          obtain ⟨l, hl, rfl⟩ := nI_of (x := b) (fun e => c3 (Int32.lt_of_lt_of_le e (by decide)))
          refine ⟨k, l, ?_, ?_, ?_, rfl, rfl, (if_neg c1).trans ((if_neg c2).trans ((if_neg c3).trans (if_neg c4))), wO_iff.mp ?_⟩
          · by_cases q : k ≤ z
            · exact q
            · exact absurd (nI_lt (by omega) hk) c2
          · by_cases q : 1 ≤ l
            · exact q
            · exact absurd (nI_lt (b := 1) (show l < 1 by omega) (by omega)) c3
          · by_cases q : l ≤ 5
            · exact q
            · exact absurd (nI_lt (a := 5) (by omega) hl) c4
          · refine wO_eq ia (wO_neg pu_10 (wO_eq (x := 1) ?_ (wO_neg pu_10 (wO_some rfl))))
            unfold mf_in
            rw [if_neg c3, if_neg c4]
theorem R_s31 : lw_s31 RR := fun n s m a b c h hn => RR_q h (fun g lv po st ti h1 h2 hm h29 h3 => by
  obtain ⟨z, be, bn, so, z1, z2, z3, tx, tm⟩ := RT_tl h3.2.2.2.2.2.2.2.1
  have hn6 := h1.1.1.2.1
  have hst := h1.2.2.2
  rcases g_asked z1 z2 z3 a b with ⟨k, l, hk, hl1, hl, rfl, rfl, ex, em⟩ | ⟨ex, em⟩
  · have hp5 := g7p l (by omega)
    rcases pu_small c 2 (by omega) with ⟨w, hw, rfl⟩ | hc
    · obtain ⟨s2, e2, f2, c2, g2⟩ := x_search (v := 0) (k := k) h1 hl1 hl (by omega) z1 hk z2 (tx.le hk)
      obtain ⟨m1, em1, fm, rm, lm, wm⟩ := m_copies hm
      obtain ⟨m2, em2, fm2, r48, th2⟩ := m_fillsThen wm
      have ft : msF mqA m m2 := (fm.wk (by decide)).tr (fm2.wk (by decide))
      obtain ⟨⟨q1, q2, m3⟩, e3, d1, d2, d3⟩ := m_rowsL (v3 := nI w) (g := g) (po := po) (m := m2) (st := st) (l := l) (k := k) (be := be) (bn := bn) (so := so) hn6 hst (by rw [r48]; exact wm.2.2.2.2.1) (by rw [r48]; exact wm.2.2.2.2.2.1) (by rw [r48]; exact wm.2.2.2.2.2.2.1) th2 hl1 hl (by omega) (by rw [ft.a 64 (by decide), ft.a 65 (by decide), ft.a 66 (by decide)]; exact tm.le hk)
      have d1 : q1 = nI (gCt (gFt (gNx g po 0) st be bn so k l) (7 ^ l)) := d1
      have d2 : gFst (gFt (gNx g po 0) st be bn so k l) 0 (7 ^ l) q2 := d2
      have d3 : msF [67, 68] m2 m3 := d3
      have k2 : XK g po ti (64 * (n + 1) + 8) s2 := (h2.fr (f2.1 151 (by decide)) (f2.1 401 (by decide)) (f2.1 402 (by decide)) (f2.2.1 138 (by decide)) (f2.1 1875 (by decide))).up (by omega)
      have mh : ∀ v, (if nI w = (0 : Int32) then some (q1, m3) else some (q2, m3)) = some (v, m3) → mf_rows m (nI k) (nI l) (nI w) = some (v, m3) := fun v hv => wO_iff.mp (by
        unfold mf_rows
        exact wO_eq em (wO_neg pu_10 (wO_eq (m_in_yes (n := 2) hw (by omega)) (wO_neg pu_10 (wO_eq em1 (wO_eq em2 (wO_eq (m_sevens hl) (wO_eq e3 (wO_iff.mpr hv)))))))))
      have xh : ∀ v, (if nI w = (0 : Int32) then some (s2.1 1928, s2) else (if s2.1 1928 = (0 : Int32) then some ((-2 : Int32), s2) else some (s2.1 1929, s2))) = some (v, s2) → xf_11_rows s (nI k) (nI l) (nI w) = some (v, s2) := fun v hv => wO_iff.mp (by
        unfold xf_11_rows xf_11_rows_j12
        refine wO_eq ex (wO_neg pu_10 ?_)
        have tail : wO ((xf_9_search s (s.1 400) (nI k) (nI l) 0).bind fun s_4 => (if nI w = (0 : Int32) then some (s_4.1 1928, s_4) else (if s_4.1 1928 = (0 : Int32) then some ((-2 : Int32), s_4) else some (s_4.1 1929, s_4)))) (fun y => y = (v, s2)) := by
          rw [h1.2.2.1]
          exact wO_eq e2 (wO_iff.mpr hv)
        rcases (show w = 0 ∨ w = 1 by omega) with rfl | rfl
        · exact wO_pos rfl tail
        · exact wO_neg pu_10 (wO_pos rfl tail))
      rcases (show w = 0 ∨ w = 1 by omega) with rfl | rfl
      · exact ⟨q1, s2, m3, xh q1 ((if_pos rfl).trans (by rw [g2.1, d1])), mh q1 (if_pos rfl), xsF.g f2 (by decide) (by decide), c2, k2, ft.tr (d3.wk (by decide))⟩
      · obtain ⟨y1, y2⟩ := gFst_cl g2 (by omega)
        refine ⟨q2, s2, m3, xh q2 ((if_neg pu_10).trans ?_), mh q2 (if_neg pu_10), xsF.g f2 (by decide) (by decide), c2, k2, ft.tr (d3.wk (by decide))⟩
        by_cases hz : s2.1 1928 = 0
        · rw [if_pos hz, gFst_u (y1 hz) d2]
        · rw [if_neg hz, gFst_u (y2 hz) d2]
    · have ne : ∀ k, k < 2 → ¬ c = nI k := fun k hk e => by
        subst e
        rcases hc with hc | hc
        · exact pu_nn (by omega) hc
        · exact nI_ge hk (by omega) hc
      refine ⟨-1, s, m, wO_iff.mp ?_, wO_iff.mp ?_, xsG.rf, h1, h2.up (by omega), msF.rf⟩
      · unfold xf_11_rows
        exact wO_eq ex (wO_neg pu_10 (wO_neg (ne 0 (by omega)) (wO_neg (ne 1 (by omega)) (wO_some rfl))))
      · unfold mf_rows
        exact wO_eq em (wO_neg pu_10 (wO_eq (m_in_no (n := 2) (by omega) hc) (wO_pos rfl (wO_some rfl))))
  · refine ⟨-1, s, m, wO_iff.mp ?_, wO_iff.mp ?_, xsG.rf, h1, h2.up (by omega), msF.rf⟩
    · unfold xf_11_rows
      exact wO_eq ex (wO_pos rfl (wO_some rfl))
    · unfold mf_rows
      exact wO_eq em (wO_pos rfl (wO_some rfl)))
