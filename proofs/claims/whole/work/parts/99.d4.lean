/-! listen -/
def gShp (A : Nat) (R : Nat → Nat) : Nat → Nat × Nat
  | 0 => (1, A + 1)
  | i + 1 => if max (R (i + 1)) (A - R (i + 1)) < (gShp A R i).2 then (i + 1, max (R (i + 1)) (A - R (i + 1))) else gShp A R i
theorem gShp_le {A : Nat} {R : Nat → Nat} : ∀ i, (gShp A R i).1 ≤ i + 1 ∧ (gShp A R i).2 ≤ A + 1
  | 0 => ⟨Nat.le_refl _, Nat.le_refl _⟩
  | i + 1 => by
    have ih := gShp_le (A := A) (R := R) i
    show (if max (R (i + 1)) (A - R (i + 1)) < (gShp A R i).2 then (i + 1, max (R (i + 1)) (A - R (i + 1))) else gShp A R i).1 ≤ i + 1 + 1 ∧ (if max (R (i + 1)) (A - R (i + 1)) < (gShp A R i).2 then (i + 1, max (R (i + 1)) (A - R (i + 1))) else gShp A R i).2 ≤ A + 1
    by_cases c : max (R (i + 1)) (A - R (i + 1)) < (gShp A R i).2
    · rw [if_pos c]
      exact ⟨by show i + 1 ≤ _; omega, by show max (R (i + 1)) (A - R (i + 1)) ≤ _; omega⟩
    · rw [if_neg c]
      exact ⟨by omega, ih.2⟩
theorem gShp_y {A : Nat} {R : Nat → Nat} {i : Nat} (c : max (R (i + 1)) (A - R (i + 1)) < (gShp A R i).2) : gShp A R (i + 1) = (i + 1, max (R (i + 1)) (A - R (i + 1))) := if_pos c
theorem gShp_n {A : Nat} {R : Nat → Nat} {i : Nat} (c : ¬ max (R (i + 1)) (A - R (i + 1)) < (gShp A R i).2) : gShp A R (i + 1) = gShp A R i := if_neg c
theorem x_sharp {s : xs_S} {A l : Nat} {R : Nat → Nat} (hA : A ≤ 16807) (hl : l ≤ 5) (h28 : s.1 1928 = nI A) (hR : ∀ i, 1 ≤ i → i ≤ 5 → s.2.1 125 i = nI (R i) ∧ R i ≤ A) : xf_9_sharpest s (nI l) = some (nI (gShp A R l).1, s) := by
  refine wO_iff.mp ?_
  unfold xf_9_sharpest
  rw [h28, nI_1]
  refine wO_bd (Q := fun q => q = (nI (gShp A R l).1, s)) ?_ (by rintro _ rfl; exact wO_some rfl)
  refine wO_count (fun (i : Nat) (q : Int32 × Int32 × Int32 × xs_S) => q.1 = nI (gShp A R i).1 ∧ q.2.1 = nI (gShp A R i).2 ∧ q.2.2.1 = nI (1 + i) ∧ q.2.2.2 = s) l ?_ ?_ _ ⟨rfl, rfl, rfl, rfl⟩
  · rintro i ⟨w2, w3, w4, t⟩ hi ⟨e1, e2, e3, e4⟩
    have e1 : w2 = nI (gShp A R i).1 := e1
    have e2 : w3 = nI (gShp A R i).2 := e2
    have e3 : w4 = nI (1 + i) := e3
    have e4 : t = s := e4
    subst e1 e2 e3 e4
    obtain ⟨r1, r2⟩ := hR (1 + i) (by omega) (by omega)
    have hle := gShp_le (A := A) (R := R) i
    have em : mm_max (nI (R (1 + i))) (nI A - nI (R (1 + i))) = nI (max (R (1 + i)) (A - R (1 + i))) := by
      rw [pu_sub r2]
      exact pu_max (by omega) (by omega)
    have ei : 1 + i = i + 1 := by omega
    have r3 : R (i + 1) ≤ A := by rw [← ei]; exact r2
    unfold xf_9_sharpest_l9 xf_9_sharpest_j35
    dsimp only
    refine wO_neg (nI_nlt (show 1 + i ≤ l by omega) (by omega)) (wO_neg (show ¬ (5 : Int32) < nI (1 + i) from nI_nlt (a := 5) (by omega) (by omega)) (wO_agv (k := 1 + i) rfl (by omega) (by omega) r1 (wO_agv (k := 1 + i) rfl (by omega) (by omega) r1 ?_)))
    rw [h28, em, ei]
    by_cases c : max (R (i + 1)) (A - R (i + 1)) < (gShp A R i).2
    · rw [gShp_y c]
      exact wO_neg (nI_ge c (by omega)) (wO_some ⟨rfl, rfl, by show nI (i + 1) + 1 = nI (1 + (i + 1)); rw [nI_1, Nat.add_comm 1 (i + 1)], rfl⟩)
    · rw [gShp_n c]
      exact wO_pos (nI_le (by omega) (by omega)) (wO_some ⟨rfl, rfl, by show nI (i + 1) + 1 = nI (1 + (i + 1)); rw [nI_1, Nat.add_comm 1 (i + 1)], rfl⟩)
  · rintro ⟨w2, w3, w4, t⟩ ⟨e1, e2, e3, e4⟩
    have e1 : w2 = nI (gShp A R l).1 := e1
    have e3 : w4 = nI (1 + l) := e3
    have e4 : t = s := e4
    subst e1 e3 e4
    unfold xf_9_sharpest_l9
    exact wO_pos (nI_lt (by omega) (by omega)) (wO_some rfl)
theorem m_sharp {m : ms_S} {A l : Nat} {R : Nat → Nat} (hA : A ≤ 16807) (hA0 : 0 < A) (hl1 : 1 ≤ l) (hl : l ≤ 5) (hR : ∀ i, 1 ≤ i → i ≤ 5 → m.2.1 69 i = nI (R i) ∧ R i ≤ A) : wO (mo_loop (mf_listen_l75 (nI l) (nI A)) ((-2 : Int32), (0 : Int32), (1 : Int32), m)) (fun q => q = (nI (gShp A R l).1, m)) := by
  refine wO_count (fun (i : Nat) (q : Int32 × Int32 × Int32 × ms_S) => ((i = 0 ∧ q.1 = -2 ∧ q.2.1 = 0) ∨ (1 ≤ i ∧ q.1 = nI (gShp A R i).1 ∧ q.2.1 = nI (gShp A R i).2)) ∧ q.2.2.1 = nI (1 + i) ∧ q.2.2.2 = m) l ?_ ?_ _ ⟨Or.inl ⟨rfl, rfl, rfl⟩, rfl, rfl⟩
  · rintro i ⟨w5, w6, w7, t⟩ hi ⟨e1, e3, e4⟩
    have e1 : (i = 0 ∧ w5 = -2 ∧ w6 = 0) ∨ (1 ≤ i ∧ w5 = nI (gShp A R i).1 ∧ w6 = nI (gShp A R i).2) := e1
    have e3 : w7 = nI (1 + i) := e3
    have e4 : t = m := e4
    subst e3 e4
    obtain ⟨r1, r2⟩ := hR (1 + i) (by omega) (by omega)
    have hle := gShp_le (A := A) (R := R) i
    have ei : 1 + i = i + 1 := by omega
    have r3 : R (i + 1) ≤ A := by rw [← ei]; exact r2
    have en : nI (1 + i) + 1 = nI (1 + (i + 1)) := by rw [nI_1]; rfl
    have fin : wO (mf_listen_j102 t (nI l) (nI A) w5 w6 (nI (1 + i)) (nI (max (R (1 + i)) (A - R (1 + i))))) (mo_sum (fun (q : Int32 × Int32 × Int32 × ms_S) => ((i + 1 = 0 ∧ q.1 = -2 ∧ q.2.1 = 0) ∨ (1 ≤ i + 1 ∧ q.1 = nI (gShp A R (i + 1)).1 ∧ q.2.1 = nI (gShp A R (i + 1)).2)) ∧ q.2.2.1 = nI (1 + (i + 1)) ∧ q.2.2.2 = t) (fun (q : Int32 × ms_S) => q = (nI (gShp A R l).1, t))) := by
      unfold mf_listen_j102 mf_listen_j109 mf_listen_j113
      rcases e1 with ⟨q1, q2, q3⟩ | ⟨q1, q2, q3⟩
      · subst q1 q2 q3
        have c : max (R (0 + 1)) (A - R (0 + 1)) < (gShp A R 0).2 := by
          show max (R (0 + 1)) (A - R (0 + 1)) < A + 1
          have : R (0 + 1) ≤ A := r2
          omega
        rw [gShp_y c]
        exact wO_pos (show (-2 : Int32) < 0 by decide) (wO_some ⟨Or.inr ⟨by omega, rfl, rfl⟩, en, rfl⟩)
      · subst q2 q3
        refine wO_neg (pu_nn (by omega)) ?_
        rw [ei] at en ⊢
        by_cases c : max (R (i + 1)) (A - R (i + 1)) < (gShp A R i).2
        · rw [gShp_y c]
          exact wO_pos (nI_lt c (by omega)) (wO_some ⟨Or.inr ⟨by omega, rfl, rfl⟩, en, rfl⟩)
        · rw [gShp_n c]
          exact wO_neg (nI_nlt (by omega) (by omega)) (wO_some ⟨Or.inr ⟨by omega, rfl, rfl⟩, en, rfl⟩)
    unfold mf_listen_l75
    refine wO_neg (nI_nlt (show 1 + i ≤ l by omega) (by omega)) (wO_neg (nI_nle hA0 (by omega)) (wO_agv (k := 1 + i) rfl (by omega) (by omega) r1 (wO_agv (k := 1 + i) rfl (by omega) (by omega) r1 ?_)))
    rw [pu_sub r2]
    by_cases hc : R (1 + i) ≤ A - R (1 + i)
    · refine wO_pos (nI_le hc (by omega)) (wO_agv (k := 1 + i) rfl (by omega) (by omega) r1 ?_)
      rw [pu_sub r2]
      rw [show max (R (1 + i)) (A - R (1 + i)) = A - R (1 + i) by omega] at fin
      exact fin
    · refine wO_neg (nI_ge (by omega) (by omega)) (wO_agv (k := 1 + i) rfl (by omega) (by omega) r1 ?_)
      rw [show max (R (1 + i)) (A - R (1 + i)) = R (1 + i) by omega] at fin
      exact fin
  · rintro ⟨w5, w6, w7, t⟩ ⟨e1, e3, e4⟩
    have e1 : (l = 0 ∧ w5 = -2 ∧ w6 = 0) ∨ (1 ≤ l ∧ w5 = nI (gShp A R l).1 ∧ w6 = nI (gShp A R l).2) := e1
    have e3 : w7 = nI (1 + l) := e3
    have e4 : t = m := e4
    subst e3 e4
    unfold mf_listen_l75
    rcases e1 with ⟨q1, -⟩ | ⟨q1, q2, q3⟩
    · omega
    · have q2 : w5 = nI (gShp A R l).1 := q2
      subst q2
      exact wO_pos (nI_lt (by omega) (by omega)) (wO_some rfl)
theorem m_listenL {g : gT} {po : Option (Nat × Nat)} {m : ms_S} {st l k v : Nat} {be bn : Nat → Nat} {so : Nat → Bool} (hn6 : g.1.2 ≤ 6) (hst : gSt g.1.2 st) (h0 : m.2.1 48 0 = nI (st / 14)) (h1 : m.2.1 48 1 = nI (st / 7 % 2)) (h2 : m.2.1 48 2 = nI (st % 7)) (hth : gTh g po 0 (m.2.1 51)) (hl1 : 1 ≤ l) (hl : l ≤ 5) (hk : k ≤ 20) (hv : v ≤ 20) (ht : gTl k be bn so (m.2.1 64) (m.2.1 65) (m.2.1 66)) (hz : ∀ i, i < 6 → m.2.1 69 i = 0) : wO (mo_loop (mf_listen_l32 (nI k) (nI l) (nI v)) ((0 : Int32), (0 : Int32), m)) (fun q => q.1 = nI (gCt (gFt (gNx g po 0) st be bn so k l) (7 ^ l)) ∧ msF [67, 68, 69] m q.2 ∧ ∀ i, 1 ≤ i → i ≤ 5 → q.2.2.1 69 i = nI (gCt (fun n => gQi (gFt (gNx g po 0) st be bn so k l) (gSo (gNx g po 0) st l) v i n && decide (i ≤ l)) (7 ^ l))) := by
  have hok : ∀ st w u, gSt g.1.2 st → w < 7 → gNx g po 0 st w = some u → gSt g.1.2 u := fun st w u h1 _ h3 => gNx_ok hn6 h1.1 h3
  have hp5 := g7p l (by omega)
  have hpp : 0 < 7 ^ l := Nat.pow_pos (by omega)
  have hse := m_sevens hl
  have fit : ∀ (t : ms_S) (n : Nat), n < 7 ^ l → msF [67, 68, 69] m t → wO (mf_doesFit t (nI st) (nI n) (nI k) (nI l)) (fun p => p.1 = (bif gFt (gNx g po 0) st be bn so k l n then 1 else 0) ∧ msF [67, 68] t p.2 ∧ (gFt (gNx g po 0) st be bn so k l n = true → ∀ i, 1 ≤ i → i ≤ l → p.2.2.1 67 i = nI (gSo (gNx g po 0) st l n i))) := fun t n hn f => m_doesFit (g := g) (po := po) (m := t) (st := st) hn6 hst (by rw [f.a 51 (by decide)]; exact hth) hl1 hl hn hk (by rw [f.a 64 (by decide), f.a 65 (by decide), f.a 66 (by decide)]; exact ht)
  have hsl : ∀ n i, gSo (gNx g po 0) st l n i ≤ 20 := fun n i => gSo_le hok hst
  generalize gSo (gNx g po 0) st l = sl at *
  generalize gFt (gNx g po 0) st be bn so k l = p at *
  generalize 7 ^ l = N at *
  refine wO_count (fun (n : Nat) (q : Int32 × Int32 × ms_S) => q.1 = nI (gCt p n) ∧ q.2.1 = nI n ∧ msF [67, 68, 69] m q.2.2 ∧ ∀ i, 1 ≤ i → i ≤ 5 → q.2.2.2.1 69 i = nI (gCt (fun n => gQi p sl v i n && decide (i ≤ l)) n)) N ?_ ?_ _ ⟨rfl, rfl, msF.rf, fun i i1 i2 => hz i (by omega)⟩
  · rintro n ⟨w4, w5, t⟩ hn ⟨e1, e2, f1, r1⟩
    have e1 : w4 = nI (gCt p n) := e1
    have e2 : w5 = nI n := e2
    have f1 : msF [67, 68, 69] m t := f1
    have r1 : ∀ i, 1 ≤ i → i ≤ 5 → t.2.1 69 i = nI (gCt (fun n => gQi p sl v i n && decide (i ≤ l)) n) := r1
    subst e1 e2
    have num : mf_numberNow t = some (nI st, t) := by
      have := m_number (s := t) (sl := st / 14) (tu := st / 7 % 2) (la := st % 7) (by rw [f1.a 48 (by decide)]; exact h0) (by rw [f1.a 48 (by decide)]; exact h1) (by rw [f1.a 48 (by decide)]; exact h2)
      rw [show 14 * (st / 14) + 7 * (st / 7 % 2) + st % 7 = st by omega] at this
      exact this
    unfold mf_listen_l32 mf_listen_j67
    refine wO_eq hse (wO_neg (nI_ge hn (by omega)) (wO_eq num (wO_bd (fit t n hn f1) ?_)))
    rintro ⟨b, t2⟩ ⟨d1, d2, d3⟩
    have d1 : b = (bif p n then 1 else 0) := d1
    have d2 : msF [67, 68] t t2 := d2
    have d3 : p n = true → ∀ i, 1 ≤ i → i ≤ l → t2.2.1 67 i = nI (sl n i) := d3
    subst d1
    have r2 : ∀ i, 1 ≤ i → i ≤ 5 → t2.2.1 69 i = nI (gCt (fun n => gQi p sl v i n && decide (i ≤ l)) n) := fun i i1 i2 => by rw [d2.a 69 (by decide)]; exact r1 i i1 i2
    have f2 : msF [67, 68, 69] m t2 := f1.tr (d2.wk (by decide))
    have hcs : ∀ i, gCt (fun n => gQi p sl v i n && decide (i ≤ l)) (n + 1) = gCt (fun n => gQi p sl v i n && decide (i ≤ l)) n + (bif (gQi p sl v i n && decide (i ≤ l)) then 1 else 0) := fun i => rfl
    have hcp : gCt p (n + 1) = gCt p n + (bif p n then 1 else 0) := rfl
    cases hf : p n with
    | false =>
      rw [hf] at hcp
      refine wO_pos rfl (wO_some ⟨?_, nI_1 n, f2, fun i i1 i2 => ?_⟩)
      · show nI (gCt p n) = nI (gCt p (n + 1))
        rw [hcp]
        rfl
      · show t2.2.1 69 i = _
        rw [r2 i i1 i2, hcs]
        unfold gQi
        rw [hf]
        rfl
    | true =>
      rw [hf] at hcp
      have d4 := d3 hf
      refine wO_neg pu_10 ?_
      rw [nI_1]
      refine wO_bd (Q := fun u => msF [69] t2 u ∧ ∀ i, 1 ≤ i → i ≤ 5 → u.2.1 69 i = nI (gCt (fun n => gQi p sl v i n && decide (i ≤ l)) (n + 1))) ?_ ?_
      · refine wO_count (fun (j : Nat) (q : Int32 × ms_S) => q.1 = nI (1 + j) ∧ msF [69] t2 q.2 ∧ ∀ i, 1 ≤ i → i ≤ 5 → q.2.2.1 69 i = nI (gCt (fun n => gQi p sl v i n && decide (i ≤ l)) (if i ≤ j then n + 1 else n))) l ?_ ?_ _ ⟨rfl, msF.rf, fun i i1 i2 => by rw [if_neg (by omega)]; exact r2 i i1 i2⟩
        · rintro j ⟨w6, u⟩ hj ⟨e5, f5, r5⟩
          have e5 : w6 = nI (1 + j) := e5
          have f5 : msF [69] t2 u := f5
          have r5 : ∀ i, 1 ≤ i → i ≤ 5 → u.2.1 69 i = nI (gCt (fun n => gQi p sl v i n && decide (i ≤ l)) (if i ≤ j then n + 1 else n)) := r5
          subst e5
          have at0 := r5 (1 + j) (by omega) (by omega)
          rw [if_neg (by omega)] at at0
          have hsi := hsl n (1 + j)
          have cstep : gCt (fun n => gQi p sl v (1 + j) n && decide (1 + j ≤ l)) (n + 1) = gCt (fun n => gQi p sl v (1 + j) n && decide (1 + j ≤ l)) n + (bif decide (v ≤ sl n (1 + j)) then 1 else 0) := by
            rw [hcs]
            unfold gQi
            rw [hf, Bool.true_and, decide_eq_true (show 1 + j ≤ l by omega), Bool.and_true]
          unfold mf_listen_l48 mf_listen_j65
          refine wO_neg (nI_nlt (show 1 + j ≤ l by omega) (by omega)) (wO_agv (k := 1 + j) (v := nI (sl n (1 + j))) rfl (by omega) (by omega) (by rw [f5.a 67 (by decide)]; exact d4 (1 + j) (by omega) (by omega)) ?_)
          by_cases hvl : v ≤ sl n (1 + j)
          · rw [decide_eq_true hvl] at cstep
            refine wO_neg (nI_nlt hvl (by omega)) (wO_agv (k := 1 + j) rfl (by omega) (by omega) at0 (wO_in (k := 1 + j) rfl (by omega) (by omega) ?_))
            rw [nI_clamp (by omega)]
            refine wO_some ⟨nI_1 _, f5.tr (msF.sA (by decide)), fun i i1 i2 => ?_⟩
            show upd (u.2.1 69) (1 + j) _ i = _
            by_cases he : i = 1 + j
            · subst he
              rw [upd_eq, if_pos (by omega), cstep]
              exact nI_1 _
            · rw [upd_ne he, r5 i i1 i2]
              by_cases hc : i ≤ j
              · rw [if_pos hc, if_pos (by omega)]
              · rw [if_neg hc, if_neg (by omega)]
          · rw [decide_eq_false hvl] at cstep
            refine wO_pos (nI_lt (by omega) (by omega)) (wO_some ⟨nI_1 _, f5, fun i i1 i2 => ?_⟩)
            by_cases he : i = 1 + j
            · subst he
              show u.2.1 69 (1 + j) = _
              rw [if_pos (by omega), cstep]
              exact at0
            · show u.2.1 69 i = _
              rw [r5 i i1 i2]
              by_cases hc : i ≤ j
              · rw [if_pos hc, if_pos (by omega)]
              · rw [if_neg hc, if_neg (by omega)]
        · rintro ⟨w6, u⟩ ⟨e5, f5, r5⟩
          have e5 : w6 = nI (1 + l) := e5
          have r5 : ∀ i, 1 ≤ i → i ≤ 5 → u.2.1 69 i = nI (gCt (fun n => gQi p sl v i n && decide (i ≤ l)) (if i ≤ l then n + 1 else n)) := r5
          subst e5
          unfold mf_listen_l48
          refine wO_pos (nI_lt (by omega) (by omega)) (wO_some ⟨f5, fun i i1 i2 => ?_⟩)
          rw [r5 i i1 i2]
          by_cases hc : i ≤ l
          · rw [if_pos hc]
          · rw [if_neg hc, hcs, decide_eq_false hc, Bool.and_false]
            rfl
      · rintro u ⟨f6, r6⟩
        exact wO_some ⟨by show nI (gCt p n + 1) = nI (gCt p (n + 1)); rw [hcp]; rfl, nI_1 n, f2.tr (f6.wk (by decide)), r6⟩
  · rintro ⟨w4, w5, t⟩ ⟨e1, e2, f1, r1⟩
    have e2 : w5 = nI N := e2
    subst e2
    unfold mf_listen_l32
    exact wO_eq hse (wO_pos (Int32.le_refl _) (wO_some ⟨e1, f1, r1⟩))
theorem m_fill69 {m : ms_S} {v1 v2 v3 : Int32} : wO (mo_loop (mf_listen_l18 v1 v2 v3) ((0 : Int32), m)) (fun t => msF [69] m t ∧ ∀ i, i < 6 → t.2.1 69 i = 0) := by
  refine wO_mono (wO_cp 69 0 6 (fun _ => 0) (fun i u hi hF _ => ?_) (fun u => ?_)) (fun t ht => ⟨ht.1, fun i hi => ?_⟩)
  · unfold mf_listen_l18
    refine wO_neg (show ¬ (6 : Int32) ≤ nI i from nI_ge (b := 6) hi (by omega)) (wO_in (k := i) rfl (by omega) (by omega) ?_)
    rw [nI_clamp (by omega), nI_1, Nat.zero_add]
    exact wO_some rfl
  · unfold mf_listen_l18
    exact wO_pos (Int32.le_refl _) (wO_some rfl)
  · have := ht.2.1 i hi
    rw [Nat.zero_add] at this
    exact this
theorem R_s32 : lw_s32 RR := fun n s m a b c h hn => RR_q h (fun g lv po st ti h1 h2 hm h29 h3 => by
  obtain ⟨z, be, bn, so, z1, z2, z3, tx, tm⟩ := RT_tl h3.2.2.2.2.2.2.2.1
  have hn6 := h1.1.1.2.1
  have hst := h1.2.2.2
  rcases g_asked z1 z2 z3 a b with ⟨k, l, hk, hl1, hl, rfl, rfl, ex, em⟩ | ⟨ex, em⟩
  · have hp5 := g7p l (by omega)
    rcases pu_range c 20 (by omega) with ⟨v, hv, rfl⟩ | hc
    · obtain ⟨s2, e2, f2, c2, g2⟩ := x_search (v := v) (k := k) h1 hl1 hl hv z1 hk z2 (tx.le hk)
      obtain ⟨m1, em1, fm, rm, lm, wm⟩ := m_copies hm
      obtain ⟨m2, em2, fm2, r48, th2⟩ := m_fillsThen wm
      obtain ⟨m3, em3, fm3, r69⟩ := m_fill69 (m := m2) (v1 := nI k) (v2 := nI l) (v3 := nI v)
      have ft : msF mqA m m3 := (fm.wk (by decide)).tr ((fm2.wk (by decide)).tr (fm3.wk (by decide)))
      have r483 : m3.2.1 48 = m1.2.1 48 := (fm3.a 48 (by decide)).trans r48
      obtain ⟨⟨q1, m4⟩, e4, d1, d2, d3⟩ := m_listenL (g := g) (po := po) (m := m3) (st := st) (l := l) (k := k) (v := v) (be := be) (bn := bn) (so := so) hn6 hst (by rw [r483]; exact wm.2.2.2.2.1) (by rw [r483]; exact wm.2.2.2.2.2.1) (by rw [r483]; exact wm.2.2.2.2.2.2.1) (by rw [fm3.a 51 (by decide)]; exact th2) hl1 hl (by omega) hv (by rw [ft.a 64 (by decide), ft.a 65 (by decide), ft.a 66 (by decide)]; exact tm.le hk) r69
      have d1 : q1 = nI (gCt (gFt (gNx g po 0) st be bn so k l) (7 ^ l)) := d1
      have d2 : msF [67, 68, 69] m3 m4 := d2
      have d3 : ∀ i, 1 ≤ i → i ≤ 5 → m4.2.1 69 i = nI (gCt (fun n => gQi (gFt (gNx g po 0) st be bn so k l) (gSo (gNx g po 0) st l) v i n && decide (i ≤ l)) (7 ^ l)) := d3
      subst d1
      have hA := gCt_le (gFt (gNx g po 0) st be bn so k l) (7 ^ l)
      have hRle : ∀ i, gCt (fun n => gQi (gFt (gNx g po 0) st be bn so k l) (gSo (gNx g po 0) st l) v i n && decide (i ≤ l)) (7 ^ l) ≤ gCt (gFt (gNx g po 0) st be bn so k l) (7 ^ l) := fun i => (gCt_sub (fun w _ hw => by
        unfold gQi at hw
        rw [Bool.and_eq_true, Bool.and_eq_true] at hw
        exact hw.1.1)).1
      have k2 : XK g po ti (64 * (n + 1) + 8) s2 := (h2.fr (f2.1 151 (by decide)) (f2.1 401 (by decide)) (f2.1 402 (by decide)) (f2.2.1 138 (by decide)) (f2.1 1875 (by decide))).up (by omega)
      obtain ⟨g21, g22, g23⟩ := g2
      have f4 : msF mqA m m4 := ft.tr (d2.wk (by decide))
      have vle : nI v ≤ (20 : Int32) := nI_le (b := 20) hv (by omega)
      have mv : mf_in (nI v) 0 20 = some 1 := by
        unfold mf_in
        rw [if_neg (pu_nn (by omega)), if_neg (show ¬ (20 : Int32) < nI v from nI_nlt (a := 20) hv (by omega))]
      by_cases hz : gCt (gFt (gNx g po 0) st be bn so k l) (7 ^ l) = 0
      · refine ⟨-2, s2, m4, wO_iff.mp ?_, wO_iff.mp ?_, xsF.g f2 (by decide) (by decide), c2, k2, f4⟩
        · unfold xf_11_listen
          refine wO_eq ex (wO_neg pu_10 (wO_neg (pu_nn (by omega)) (wO_pos vle ?_)))
          rw [h1.2.2.1]
          exact wO_eq e2 (wO_pos (by rw [g21, hz]; rfl) (wO_some rfl))
        · unfold mf_listen
          refine wO_eq em (wO_neg pu_10 (wO_eq mv (wO_neg pu_10 (wO_eq em1 (wO_eq em2 (wO_eq em3 (wO_eq e4 ?_)))))))
          rw [hz]
          refine wO_eq (x := (-2, m4)) (wO_iff.mp ?_) (wO_some rfl)
          refine wO_step ?_
          unfold mf_listen_l75
          exact wO_neg (show ¬ nI l < (1 : Int32) from nI_nlt (b := 1) hl1 (by omega)) (wO_pos (Int32.le_refl _) (wO_some rfl))
      · refine ⟨nI (gShp (gCt (gFt (gNx g po 0) st be bn so k l) (7 ^ l)) (fun i => gCt (fun n => gQi (gFt (gNx g po 0) st be bn so k l) (gSo (gNx g po 0) st l) v i n && decide (i ≤ l)) (7 ^ l)) l).1, s2, m4, wO_iff.mp ?_, wO_iff.mp ?_, xsF.g f2 (by decide) (by decide), c2, k2, f4⟩
        · unfold xf_11_listen
          refine wO_eq ex (wO_neg pu_10 (wO_neg (pu_nn (by omega)) (wO_pos vle ?_)))
          rw [h1.2.2.1]
          refine wO_eq e2 (wO_neg (by rw [g21]; exact fun e => hz ((nI_eq (b := 0) (by omega) (by omega)).mp e)) ?_)
          exact wO_eq (x_sharp (by omega) hl g21 (fun i i1 i2 => ⟨g23 i i1 i2, hRle i⟩)) (wO_some rfl)
        · unfold mf_listen
          refine wO_eq em (wO_neg pu_10 (wO_eq mv (wO_neg pu_10 (wO_eq em1 (wO_eq em2 (wO_eq em3 (wO_eq e4 ?_)))))))
          refine wO_bd (m_sharp (by omega) (by omega) hl1 hl (fun i i1 i2 => ⟨d3 i i1 i2, hRle i⟩)) ?_
          rintro _ rfl
          exact wO_some rfl
    · refine ⟨-1, s, m, wO_iff.mp ?_, wO_iff.mp ?_, xsG.rf, h1, h2.up (by omega), msF.rf⟩
      · unfold xf_11_listen
        refine wO_eq ex (wO_neg pu_10 ?_)
        rcases hc with hc | ⟨hc, hd⟩
        · exact wO_pos hc (wO_some rfl)
        · exact wO_neg hc (wO_neg (Int32.not_le.mpr hd) (wO_some rfl))
      · unfold mf_listen
        refine wO_eq em (wO_neg pu_10 (wO_eq (x := 0) ?_ (wO_pos rfl (wO_some rfl))))
        unfold mf_in
        rcases hc with hc | ⟨hc, hd⟩
        · rw [if_pos hc]
        · rw [if_neg hc, if_pos (show (20 : Int32) < c from hd)]
  · refine ⟨-1, s, m, wO_iff.mp ?_, wO_iff.mp ?_, xsG.rf, h1, h2.up (by omega), msF.rf⟩
    · unfold xf_11_listen
      exact wO_eq ex (wO_pos rfl (wO_some rfl))
    · unfold mf_listen
      exact wO_eq em (wO_pos rfl (wO_some rfl)))
