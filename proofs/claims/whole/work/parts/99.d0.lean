/-! rows that fit: a row's number, its turns, its slopes; the reference -/
def gDg (l n i : Nat) : Nat := n / 7 ^ (l - 1 - i) % 7
def gPt (nx : Nat → Nat → Option Nat) (st l n : Nat) : Nat → Option Nat
  | 0 => some st
  | i + 1 => (gPt nx st l n i).bind (fun u => nx u (gDg l n i))
def gSo (nx : Nat → Nat → Option Nat) (st l n i : Nat) : Nat := ((gPt nx st l n i).getD 0) / 14
def gBad (be bn : Nat → Nat) (so : Nat → Bool) (sl : Nat → Nat) (l j : Nat) : Bool := decide (l < be j) || (decide (bn j ≤ sl (be j)) != so j)
def gFt (nx : Nat → Nat → Option Nat) (st : Nat) (be bn : Nat → Nat) (so : Nat → Bool) (k l n : Nat) : Bool := (gPt nx st l n l).isSome && !gAny (gBad be bn so (gSo nx st l n) l) k
theorem gPt_s {nx : Nat → Nat → Option Nat} {st l n i : Nat} : gPt nx st l n (i + 1) = (gPt nx st l n i).bind (fun u => nx u (gDg l n i)) := rfl
theorem gPt_none {nx : Nat → Nat → Option Nat} {st l n i : Nat} (h : gPt nx st l n i = none) : ∀ j, gPt nx st l n (i + j) = none
  | 0 => h
  | j + 1 => by
    show (gPt nx st l n (i + j)).bind _ = none
    rw [gPt_none h j]
    rfl
theorem gPt_ok {nx : Nat → Nat → Option Nat} {nw st l n : Nat} (hok : ∀ st w u, gSt nw st → w < 7 → nx st w = some u → gSt nw u) (hst : gSt nw st) : ∀ i u, gPt nx st l n i = some u → gSt nw u
  | 0, u, h => by
    cases h
    exact hst
  | i + 1, u, h => by
    rw [gPt_s] at h
    obtain ⟨x, h1, h2⟩ := mo_bind h
    exact hok x _ u (gPt_ok hok hst i x h1) (Nat.mod_lt _ (by omega)) h2
theorem gFt_no {nx : Nat → Nat → Option Nat} {st : Nat} {be bn : Nat → Nat} {so : Nat → Bool} {k l n i : Nat} (hi : i ≤ l) (h : gPt nx st l n i = none) : gFt nx st be bn so k l n = false := by
  have := gPt_none h (l - i)
  rw [show i + (l - i) = l by omega] at this
  unfold gFt
  rw [this]
  rfl
theorem gFt_bad {nx : Nat → Nat → Option Nat} {st : Nat} {be bn : Nat → Nat} {so : Nat → Bool} {k l n j : Nat} (hj : j < k) (h : gBad be bn so (gSo nx st l n) l j = true) : gFt nx st be bn so k l n = false := by
  have : gAny (gBad be bn so (gSo nx st l n) l) k = true := gAny_iff.mpr ⟨j, hj, h⟩
  unfold gFt
  rw [this]
  exact Bool.and_false _
theorem gFt_yes {nx : Nat → Nat → Option Nat} {st : Nat} {be bn : Nat → Nat} {so : Nat → Bool} {k l n u : Nat} (hu : gPt nx st l n l = some u) (h : ∀ j, j < k → gBad be bn so (gSo nx st l n) l j = false) : gFt nx st be bn so k l n = true := by
  unfold gFt
  rw [hu, gAny_no.mpr h]
  rfl
/-- what is told, as numbers -/
def gTl (z : Nat) (be bn : Nat → Nat) (so : Nat → Bool) (A B C : Nat → Int32) : Prop := ∀ i, i < z → A i = nI (be i) ∧ 1 ≤ be i ∧ be i ≤ 5 ∧ B i = nI (bn i) ∧ bn i ≤ 20 ∧ C i = bif so i then 1 else 0
theorem g7p : ∀ l, l < 6 → 7 ^ l ≤ 16807 := by decide
theorem m_fit1 {m : ms_S} {l n : Nat} {v1 v3 v4 : Int32} (hl1 : 1 ≤ l) (hl : l ≤ 5) (hn : n < 7 ^ l) : wO (mo_loop (mf_doesFit_l6 v1 v3 v4) (nI n, nI l - (1 : Int32), m)) (fun t => msF [68] m t ∧ ∀ j, j < l → t.2.1 68 j = nI (gDg l n j)) := by
  have hp := g7p l (by omega)
  refine wO_count (fun (i : Nat) (q : Int32 × Int32 × ms_S) => q.1 = nI (n / 7 ^ i) ∧ q.2.1 = (if i < l then nI (l - 1 - i) else -1) ∧ msF [68] m q.2.2 ∧ ∀ j, j < l → l ≤ j + i → q.2.2.2.1 68 j = nI (gDg l n j)) l ?_ ?_ _ ⟨by rw [Nat.pow_zero, Nat.div_one], by rw [if_pos (by omega)]; exact pu_sub (b := 1) hl1, msF.rf, fun j hj hj2 => absurd hj2 (by omega)⟩
  · rintro i ⟨w5, w6, t⟩ hi ⟨e1, e2, f1, r1⟩
    have e1 : w5 = nI (n / 7 ^ i) := e1
    have e3 : w6 = nI (l - 1 - i) := (show w6 = (if i < l then nI (l - 1 - i) else -1) from e2).trans (if_pos hi)
    have f1 : msF [68] m t := f1
    have r1 : ∀ j, j < l → l ≤ j + i → t.2.1 68 j = nI (gDg l n j) := r1
    subst e1 e3
    have hq : n / 7 ^ i < 2 ^ 31 := by
      have : n / 7 ^ i ≤ n := Nat.div_le_self _ _
      omega
    have e8 : n / 7 ^ i / 7 = n / 7 ^ (i + 1) := by rw [Nat.div_div_eq_div_mul, ← Nat.pow_succ]
    have e9 : n / 7 ^ i % 7 = gDg l n (l - 1 - i) := by
      unfold gDg
      rw [show l - 1 - (l - 1 - i) = i by omega]
    clear hp hn
    generalize n / 7 ^ i = q at *
    generalize n / 7 ^ (i + 1) = q2 at *
    unfold mf_doesFit_l6
    dsimp only
    refine wO_neg (pu_nn (k := l - 1 - i) (by omega)) (wO_in (k := l - 1 - i) rfl (by omega) (by omega) ?_)
    rw [nI_clamp (by omega), pu_mod7 (by omega)]
    refine wO_some ⟨?_, ?_, f1.tr (msF.sA (by decide)), fun j hj hj2 => ?_⟩
    · show nI q / (7 : Int32) = nI q2
      rw [show nI q / (7 : Int32) = nI (q / 7) from pu_div (b := 7) (by omega) (by omega), e8]
    · show nI (l - 1 - i) + (-1 : Int32) = if i + 1 < l then nI (l - 1 - (i + 1)) else -1
      by_cases hc : i + 1 < l
      · rw [if_pos hc, show l - 1 - i = l - 1 - (i + 1) + 1 by omega, ← nI_1, Int32.add_assoc, show (1 : Int32) + (-1) = 0 by decide, Int32.add_zero]
      · rw [if_neg hc, show l - 1 - i = 0 by omega]
        decide
    · show upd (t.2.1 68) (l - 1 - i) _ j = _
      by_cases he : j = l - 1 - i
      · subst he
        rw [upd_eq, e9]
      · rw [upd_ne he]
        exact r1 j hj (by omega)
  · rintro ⟨w5, w6, t⟩ ⟨e1, e2, f1, r1⟩
    have e3 : w6 = -1 := (show w6 = (if l < l then nI (l - 1 - l) else -1) from e2).trans (if_neg (by omega))
    subst e3
    unfold mf_doesFit_l6
    exact wO_pos (show (-1 : Int32) < 0 by decide) (wO_some ⟨f1, fun j hj => r1 j hj (by omega)⟩)
theorem m_fit2 {g : gT} {po : Option (Nat × Nat)} {m : ms_S} {st l n : Nat} {v3 : Int32} (hn6 : g.1.2 ≤ 6) (hst : gSt g.1.2 st) (hth : gTh g po 0 (m.2.1 51)) (hl : l ≤ 5) (hd : ∀ j, j < l → m.2.1 68 j = nI (gDg l n j)) : wO (mo_loop (mf_doesFit_l25 v3 (nI l)) (nI st, (0 : Int32), m)) (fun r => ∃ t, msF [67] m t ∧ ((r = .inl t ∧ ∃ i, i ≤ l ∧ gPt (gNx g po 0) st l n i = none) ∨ (r = .inr t ∧ (∃ u, gPt (gNx g po 0) st l n l = some u) ∧ ∀ j, 1 ≤ j → j ≤ l → t.2.1 67 j = nI (gSo (gNx g po 0) st l n j)))) := by
  have hok : ∀ st w u, gSt g.1.2 st → w < 7 → gNx g po 0 st w = some u → gSt g.1.2 u := fun st w u h1 _ h3 => gNx_ok hn6 h1.1 h3
  refine wO_count (fun (i : Nat) (q : Int32 × Int32 × ms_S) => q.2.1 = nI i ∧ msF [67] m q.2.2 ∧ (∃ u, gPt (gNx g po 0) st l n i = some u ∧ q.1 = nI u) ∧ ∀ j, 1 ≤ j → j ≤ i → q.2.2.2.1 67 j = nI (gSo (gNx g po 0) st l n j)) l ?_ ?_ _ ⟨rfl, msF.rf, ⟨st, rfl, rfl⟩, fun j h1 h2 => absurd h1 (by omega)⟩
  · rintro i ⟨w6, w7, t⟩ hi ⟨e2, f1, ⟨u, hu, e1⟩, r1⟩
    have e1 : w6 = nI u := e1
    have e2 : w7 = nI i := e2
    have f1 : msF [67] m t := f1
    have r1 : ∀ j, 1 ≤ j → j ≤ i → t.2.1 67 j = nI (gSo (gNx g po 0) st l n j) := r1
    subst e1 e2
    have hus := gPt_ok hok hst i u hu
    have hdl : gDg l n i < 7 := Nat.mod_lt _ (by omega)
    have hul := hus.1
    have e7 : (7 : Int32) * nI u + nI (gDg l n i) = nI (7 * u + gDg l n i) := by
      rw [show (7 : Int32) * nI u = nI (7 * u) from pu_mul 7 u, nI_add]
    have hps : gPt (gNx g po 0) st l n (i + 1) = gNx g po 0 u (gDg l n i) := by
      rw [gPt_s, hu]
      rfl
    unfold mf_doesFit_l25
    refine wO_neg (nI_ge hi (by omega)) (wO_agv (k := i) (v := nI (gDg l n i)) rfl (by omega) (by omega) (by rw [f1.a 68 (by decide)]; exact hd i hi) ?_)
    refine wO_agv (k := 7 * u + gDg l n i) (v := gE (gNx g po 0 u (gDg l n i))) e7 (by omega) (by omega) (by rw [f1.a 51 (by decide)]; exact hth u hus _ hdl) ?_
    rw [nI_1 i]
    cases hv : gNx g po 0 u (gDg l n i) with
    | none =>
      exact wO_neg (show ¬ (0 : Int32) ≤ -1 by decide) (wO_some ⟨t, f1, Or.inl ⟨rfl, i + 1, hi, hps.trans hv⟩⟩)
    | some v =>
      have hvl := (hok u _ v hus hdl hv).1
      refine wO_pos (show (0 : Int32) ≤ nI v from nI_pos' (by omega)) (wO_in (k := i + 1) rfl (by omega) (by omega) ?_)
      rw [nI_clamp (by omega)]
      refine wO_some ⟨rfl, f1.tr (msF.sA (by decide)), ⟨v, hps.trans hv, rfl⟩, fun j h1 h2 => ?_⟩
      show upd (t.2.1 67) (i + 1) (nI v / (14 : Int32)) j = _
      by_cases he : j = i + 1
      · subst he
        rw [upd_eq, show nI v / (14 : Int32) = nI (v / 14) from pu_div (b := 14) (by omega) (by omega)]
        unfold gSo
        rw [hps, hv]
        rfl
      · rw [upd_ne he]
        exact r1 j h1 (by omega)
  · rintro ⟨w6, w7, t⟩ ⟨e2, f1, ⟨u, hu, e1⟩, r1⟩
    have e2 : w7 = nI l := e2
    subst e2
    unfold mf_doesFit_l25
    exact wO_pos (Int32.le_refl _) (wO_some ⟨t, f1, Or.inr ⟨rfl, ⟨u, hu⟩, r1⟩⟩)
theorem gSo_le {nx : Nat → Nat → Option Nat} {nw st l n i : Nat} (hok : ∀ st w u, gSt nw st → w < 7 → nx st w = some u → gSt nw u) (hst : gSt nw st) : gSo nx st l n i ≤ 20 := by
  unfold gSo
  cases h : gPt nx st l n i with
  | none => show 0 / 14 ≤ 20; omega
  | some u =>
    have := (gPt_ok hok hst i u h).1
    show u / 14 ≤ 20
    omega
theorem m_fit3 {m : ms_S} {l k : Nat} {be bn : Nat → Nat} {so : Nat → Bool} {sl : Nat → Nat} (hk : k ≤ 20) (hl : l ≤ 5) (ht : gTl k be bn so (m.2.1 64) (m.2.1 65) (m.2.1 66)) (hs : ∀ j, 1 ≤ j → j ≤ l → m.2.1 67 j = nI (sl j)) (hsl : ∀ j, sl j ≤ 20) : wO (mo_loop (mf_doesFit_l57 (nI k) (nI l)) ((0 : Int32), m)) (fun r => (r = .inl m ∧ ∃ j, j < k ∧ gBad be bn so sl l j = true) ∨ (r = .inr m ∧ ∀ j, j < k → gBad be bn so sl l j = false)) := by
  refine wO_count (fun (i : Nat) (q : Int32 × ms_S) => q.1 = nI i ∧ q.2 = m ∧ ∀ j, j < i → gBad be bn so sl l j = false) k ?_ ?_ _ ⟨rfl, rfl, fun j hj => absurd hj (by omega)⟩
  · rintro i ⟨w7, t⟩ hi ⟨e1, e2, r1⟩
    have e1 : w7 = nI i := e1
    have e2 : t = m := e2
    subst e1 e2
    obtain ⟨t1, t2, t3, t4, t5, t6⟩ := ht i hi
    unfold mf_doesFit_l57 mf_doesFit_j81
    refine wO_neg (nI_ge hi (by omega)) (wO_agv (k := i) rfl (by omega) (by omega) t1 ?_)
    by_cases hb : l < be i
    · refine wO_pos (nI_lt hb (by omega)) (wO_some (Or.inl ⟨rfl, i, hi, ?_⟩))
      unfold gBad
      rw [decide_eq_true hb]
      rfl
    · refine wO_neg (nI_nlt (by omega) (by omega)) (wO_agv (k := i) rfl (by omega) (by omega) t1 (wO_agv (k := be i) rfl (by omega) (by omega) (hs _ t2 (by omega)) (wO_agv (k := i) rfl (by omega) (by omega) t4 ?_)))
      have hsi := hsl (be i)
      have eb : gBad be bn so sl l i = (decide (bn i ≤ sl (be i)) != so i) := by
        unfold gBad
        rw [decide_eq_false hb, Bool.false_or]
      have go : ∀ b : Bool, b = decide (bn i ≤ sl (be i)) → wO ((mo_ag 20 (t.2.1 66) (nI i)).bind fun x_17 => (if (bif b then (1 : Int32) else 0) = x_17 then some (Sum.inl ((nI i + (1 : Int32)), t)) else some (.inr (.inl t)))) (mo_sum (fun (q : Int32 × ms_S) => q.1 = nI (i + 1) ∧ q.2 = t ∧ ∀ j, j < i + 1 → gBad be bn so sl l j = false) (fun (r : ms_S ⊕ ms_S) => (r = .inl t ∧ ∃ j, j < k ∧ gBad be bn so sl l j = true) ∨ (r = .inr t ∧ ∀ j, j < k → gBad be bn so sl l j = false))) := fun b hbb => by
        refine wO_agv (k := i) rfl (by omega) (by omega) t6 ?_
        rw [← hbb] at eb
        by_cases hq : b = so i
        · refine wO_pos (by rw [hq]) (wO_some ⟨nI_1 i, rfl, fun j hj => ?_⟩)
          by_cases he : j = i
          · subst he
            rw [eb, hq]
            cases so j <;> rfl
          · exact r1 j (by omega)
        · refine wO_neg (fun e => hq ?_) (wO_some (Or.inl ⟨rfl, i, hi, ?_⟩))
          · revert e
            cases b <;> cases so i <;> simp
          · rw [eb]
            revert hq
            cases b <;> cases so i <;> simp
      by_cases hv : bn i ≤ sl (be i)
      · exact wO_neg (nI_nlt hv (by omega)) (go true (decide_eq_true hv).symm)
      · exact wO_pos (nI_lt (by omega) (by omega)) (go false (decide_eq_false hv).symm)
  · rintro ⟨w7, t⟩ ⟨e1, e2, r1⟩
    have e1 : w7 = nI k := e1
    have e2 : t = m := e2
    subst e1 e2
    unfold mf_doesFit_l57
    exact wO_pos (Int32.le_refl _) (wO_some (Or.inr ⟨rfl, r1⟩))
theorem m_doesFit {g : gT} {po : Option (Nat × Nat)} {m : ms_S} {st l n k : Nat} {be bn : Nat → Nat} {so : Nat → Bool} (hn6 : g.1.2 ≤ 6) (hst : gSt g.1.2 st) (hth : gTh g po 0 (m.2.1 51)) (hl1 : 1 ≤ l) (hl : l ≤ 5) (hn : n < 7 ^ l) (hk : k ≤ 20) (ht : gTl k be bn so (m.2.1 64) (m.2.1 65) (m.2.1 66)) : wO (mf_doesFit m (nI st) (nI n) (nI k) (nI l)) (fun p => p.1 = (bif gFt (gNx g po 0) st be bn so k l n then 1 else 0) ∧ msF [67, 68] m p.2 ∧ (gFt (gNx g po 0) st be bn so k l n = true → ∀ i, 1 ≤ i → i ≤ l → p.2.2.1 67 i = nI (gSo (gNx g po 0) st l n i))) := by
  have hok : ∀ st w u, gSt g.1.2 st → w < 7 → gNx g po 0 st w = some u → gSt g.1.2 u := fun st w u h1 _ h3 => gNx_ok hn6 h1.1 h3
  unfold mf_doesFit
  refine wO_bd (m_fit1 hl1 hl hn) ?_
  rintro m1 ⟨f1, r1⟩
  refine wO_bd (m_fit2 (g := g) (po := po) (m := m1) hn6 hst (by rw [f1.a 51 (by decide)]; exact hth) hl r1) ?_
  rintro r ⟨m2, f2, ⟨rfl, i, hi, hno⟩ | ⟨rfl, ⟨u, hu⟩, r2⟩⟩
  · have hf := gFt_no (be := be) (bn := bn) (so := so) (k := k) hi hno
    rw [hf]
    exact wO_some ⟨rfl, (f1.wk (by decide)).tr (f2.wk (by decide)), fun q => by cases q⟩
  · have ft : msF [67, 68] m m2 := (f1.wk (by decide)).tr (f2.wk (by decide))
    refine wO_bd (m_fit3 (m := m2) (sl := gSo (gNx g po 0) st l n) hk hl (by rw [ft.a 64 (by decide), ft.a 65 (by decide), ft.a 66 (by decide)]; exact ht) r2 (fun j => gSo_le hok hst)) ?_
    rintro r (⟨rfl, j, hj, hb⟩ | ⟨rfl, hb⟩)
    · rw [gFt_bad hj hb]
      exact wO_some ⟨rfl, ft, fun q => by cases q⟩
    · rw [gFt_yes hu hb]
      exact wO_some ⟨rfl, ft, fun _ => r2⟩
theorem m_sevens {l : Nat} (hl : l ≤ 5) : mf_sevens (nI l) = some (nI (7 ^ l)) := by
  refine wO_iff.mp ?_
  unfold mf_sevens
  refine wO_bd (Q := fun v => v = nI (7 ^ l)) ?_ (by rintro _ rfl; exact wO_some rfl)
  refine wO_count (fun (i : Nat) (q : Int32 × Int32) => q.1 = nI (7 ^ i) ∧ q.2 = nI i) l ?_ ?_ _ ⟨rfl, rfl⟩
  · rintro i ⟨w1, w2⟩ hi ⟨e1, e2⟩
    have e1 : w1 = nI (7 ^ i) := e1
    have e2 : w2 = nI i := e2
    subst e1 e2
    unfold mf_sevens_l4
    refine wO_neg (nI_ge hi (by omega)) (wO_some ⟨?_, nI_1 i⟩)
    show nI (7 ^ i) * (7 : Int32) = nI (7 ^ (i + 1))
    rw [Nat.pow_succ]
    exact pu_mul _ 7
  · rintro ⟨w1, w2⟩ ⟨e1, e2⟩
    have e2 : w2 = nI l := e2
    subst e2
    unfold mf_sevens_l4
    exact wO_pos (Int32.le_refl _) (wO_some e1)
