/-! rows that fit: the class's search -/
theorem gCt_skip {p : Nat → Bool} {X : Nat} : ∀ m, (∀ n, X ≤ n → n < X + m → p n = false) → gCt p (X + m) = gCt p X
  | 0, _ => rfl
  | m + 1, h => by
    show gCt p (X + m) + (bif p (X + m) then 1 else 0) = _
    rw [h (X + m) (by omega) (by omega), gCt_skip m (fun n h1 h2 => h n h1 (by omega))]
    rfl
/-- the numbers below X are gone through -/
def gSm (p : Nat → Bool) (q : Nat → Nat → Bool) (s : xs_S) (X : Nat) : Prop := s.1 1928 = nI (gCt p X) ∧ (gCt p X = 0 ∨ ∃ n, n < X ∧ p n = true ∧ (∀ j, j < n → p j = false) ∧ s.1 1929 = nI n) ∧ ∀ i, 1 ≤ i → i ≤ 5 → s.2.1 125 i = nI (gCt (q i) X)
theorem gSm.skip {p : Nat → Bool} {q : Nat → Nat → Bool} {s : xs_S} {X Y : Nat} (h : gSm p q s X) (hq : ∀ i n, p n = false → q i n = false) (hXY : X ≤ Y) (hn : ∀ n, X ≤ n → n < Y → p n = false) : gSm p q s Y := by
  have e : ∀ f : Nat → Bool, (∀ n, X ≤ n → n < Y → f n = false) → gCt f Y = gCt f X := fun f hf => by
    have := gCt_skip (p := f) (X := X) (Y - X) (fun n h1 h2 => hf n h1 (by omega))
    rw [show X + (Y - X) = Y by omega] at this
    exact this
  obtain ⟨h1, h2, h3⟩ := h
  refine ⟨by rw [e p hn]; exact h1, ?_, fun i hi1 hi2 => by rw [e (q i) (fun n a b => hq i n (hn n a b))]; exact h3 i hi1 hi2⟩
  rw [e p hn]
  exact h2.imp id (fun ⟨n, a, b⟩ => ⟨n, by omega, b⟩)
theorem gSm.mv {p : Nat → Bool} {q : Nat → Nat → Bool} {s t : xs_S} {X : Nat} (h : gSm p q s X) (h1 : t.1 1928 = s.1 1928) (h2 : t.1 1929 = s.1 1929) (h3 : t.2.1 125 = s.2.1 125) : gSm p q t X := by
  unfold gSm
  rw [h1, h2, h3]
  exact h
theorem x_agrees {s : xs_S} {k d sl : Nat} {be bn : Nat → Nat} {so : Nat → Bool} (hk : k ≤ 20) (h25 : s.1 1925 = nI k) (ht : gTl k be bn so (s.2.1 121) (s.2.1 122) (s.2.1 123)) (hd : d ≤ 6) (hsl : sl ≤ 20) : xf_9_agrees s (nI d) (nI sl) = some ((bif gAny (fun j => decide (be j = d) && (decide (bn j ≤ sl) != so j)) k then 0 else 1), s) := by
  refine wO_iff.mp ?_
  unfold xf_9_agrees
  refine wO_bd (Q := fun r => (r = .inl s ∧ gAny (fun j => decide (be j = d) && (decide (bn j ≤ sl) != so j)) k = true) ∨ (r = .inr s ∧ gAny (fun j => decide (be j = d) && (decide (bn j ≤ sl) != so j)) k = false)) ?_ ?_
  · refine wO_count (fun (i : Nat) (q : Int32 × xs_S) => q.1 = nI i ∧ q.2 = s ∧ ∀ j, j < i → (decide (be j = d) && (decide (bn j ≤ sl) != so j)) = false) k ?_ ?_ _ ⟨rfl, rfl, fun j hj => absurd hj (by omega)⟩
    · rintro i ⟨w3, t⟩ hi ⟨e1, e2, r1⟩
      have e1 : w3 = nI i := e1
      have e2 : t = s := e2
      subst e1 e2
      obtain ⟨t1, t2, t3, t4, t5, t6⟩ := ht i hi
      have more : (decide (be i = d) && (decide (bn i ≤ sl) != so i)) = false → ∀ j, j < i + 1 → (decide (be j = d) && (decide (bn j ≤ sl) != so j)) = false := fun hb j hj => by
        by_cases he : j = i
        · subst he; exact hb
        · exact r1 j (by omega)
      unfold xf_9_agrees_l2 xf_9_agrees_j21 xf_9_agrees_j28
      dsimp only
      rw [h25]
      refine wO_neg (nI_ge hi (by omega)) (wO_agv (k := i) rfl (by omega) (by omega) t1 ?_)
      by_cases hb : be i = d
      · have eb : (decide (be i = d) && (decide (bn i ≤ sl) != so i)) = (decide (bn i ≤ sl) != so i) := by
          rw [decide_eq_true hb, Bool.true_and]
        refine wO_pos (by rw [hb]) (wO_agv (k := i) rfl (by omega) (by omega) t4 ?_)
        have go : ∀ b : Bool, b = decide (bn i ≤ sl) → wO ((mo_ag 20 (t.2.1 123) (nI i)).bind fun x_6 => (if (bif b then (1 : Int32) else 0) = x_6 then some (Sum.inl ((nI i + (1 : Int32)), t)) else some (.inr (.inl t)))) (mo_sum (fun (q : Int32 × xs_S) => q.1 = nI (i + 1) ∧ q.2 = t ∧ ∀ j, j < i + 1 → (decide (be j = d) && (decide (bn j ≤ sl) != so j)) = false) (fun (r : xs_S ⊕ xs_S) => (r = .inl t ∧ gAny (fun j => decide (be j = d) && (decide (bn j ≤ sl) != so j)) k = true) ∨ (r = .inr t ∧ gAny (fun j => decide (be j = d) && (decide (bn j ≤ sl) != so j)) k = false))) := fun b hbb => by
          refine wO_agv (k := i) rfl (by omega) (by omega) t6 ?_
          by_cases hq : b = so i
          · refine wO_pos (by rw [hq]) (wO_some ⟨nI_1 i, rfl, more ?_⟩)
            rw [eb, ← hbb, hq]
            cases so i <;> rfl
          · refine wO_neg (fun e => hq ?_) (wO_some (Or.inl ⟨rfl, gAny_iff.mpr ⟨i, hi, ?_⟩⟩))
            · revert e
              cases b <;> cases so i <;> simp
            · rw [eb, ← hbb]
              revert hq
              cases b <;> cases so i <;> simp
        by_cases hv : bn i ≤ sl
        · exact wO_neg (nI_nlt hv (by omega)) (go true (decide_eq_true hv).symm)
        · exact wO_pos (nI_lt (by omega) (by omega)) (go false (decide_eq_false hv).symm)
      · refine wO_neg (fun e => hb ((nI_eq (by omega) (by omega)).mp e)) (wO_some ⟨nI_1 i, rfl, more ?_⟩)
        rw [decide_eq_false hb, Bool.false_and]
    · rintro ⟨w3, t⟩ ⟨e1, e2, r1⟩
      have e1 : w3 = nI k := e1
      have e2 : t = s := e2
      subst e1 e2
      unfold xf_9_agrees_l2
      dsimp only
      rw [h25]
      exact wO_pos (Int32.le_refl _) (wO_some (Or.inr ⟨rfl, gAny_no.mpr r1⟩))
  · rintro r (⟨rfl, h⟩ | ⟨rfl, h⟩)
    · rw [h]; exact wO_some rfl
    · rw [h]; exact wO_some rfl
theorem x_within {s : xs_S} {k l : Nat} {be bn : Nat → Nat} {so : Nat → Bool} (hk : k ≤ 20) (h25 : s.1 1925 = nI k) (h26 : s.1 1926 = nI l) (hl : l ≤ 5) (ht : gTl k be bn so (s.2.1 121) (s.2.1 122) (s.2.1 123)) : xf_9_isWithinLength s = some ((bif gAny (fun j => decide (l < be j)) k then 0 else 1), s) := by
  refine wO_iff.mp ?_
  unfold xf_9_isWithinLength
  refine wO_bd (Q := fun r => (r = .inl s ∧ gAny (fun j => decide (l < be j)) k = true) ∨ (r = .inr s ∧ gAny (fun j => decide (l < be j)) k = false)) ?_ ?_
  · refine wO_count (fun (i : Nat) (q : Int32 × xs_S) => q.1 = nI i ∧ q.2 = s ∧ ∀ j, j < i → decide (l < be j) = false) k ?_ ?_ _ ⟨rfl, rfl, fun j hj => absurd hj (by omega)⟩
    · rintro i ⟨w3, t⟩ hi ⟨e1, e2, r1⟩
      have e1 : w3 = nI i := e1
      have e2 : t = s := e2
      subst e1 e2
      obtain ⟨t1, t2, t3, -⟩ := ht i hi
      unfold xf_9_isWithinLength_l2
      dsimp only
      rw [h25]
      refine wO_neg (nI_ge hi (by omega)) (wO_agv (k := i) rfl (by omega) (by omega) t1 ?_)
      rw [h26]
      by_cases hb : l < be i
      · exact wO_neg (nI_ge hb (by omega)) (wO_some (Or.inl ⟨rfl, gAny_iff.mpr ⟨i, hi, decide_eq_true hb⟩⟩))
      · refine wO_pos (nI_le (by omega) (by omega)) (wO_some ⟨nI_1 i, rfl, fun j hj => ?_⟩)
        by_cases he : j = i
        · subst he; exact decide_eq_false hb
        · exact r1 j (by omega)
    · rintro ⟨w3, t⟩ ⟨e1, e2, r1⟩
      have e1 : w3 = nI k := e1
      have e2 : t = s := e2
      subst e1 e2
      unfold xf_9_isWithinLength_l2
      dsimp only
      rw [h25]
      exact wO_pos (Int32.le_refl _) (wO_some (Or.inr ⟨rfl, gAny_no.mpr r1⟩))
  · rintro r (⟨rfl, h⟩ | ⟨rfl, h⟩)
    · rw [h]; exact wO_some rfl
    · rw [h]; exact wO_some rfl
/-- what of a row is asked: it fits, and a slope is so high -/
def gQi (p : Nat → Bool) (sl : Nat → Nat → Nat) (v i n : Nat) : Bool := p n && decide (v ≤ sl n i)
theorem x_takeIn {s : xs_S} {l v X : Nat} {p : Nat → Bool} {sl : Nat → Nat → Nat} (hl : l ≤ 5) (hv : v ≤ 20) (hX : X < 16807) (h26 : s.1 1926 = nI l) (h27 : s.1 1927 = nI v) (hp : p X = true) (hs : ∀ i, 1 ≤ i → i ≤ l → s.2.1 124 i = nI (sl X i) ∧ sl X i ≤ 20) (h : gSm p (fun i n => gQi p sl v i n && decide (i ≤ l)) s X) : wO (xf_9_takeIn s (nI X)) (fun t => xsF [1928, 1929] [125] s t ∧ gSm p (fun i n => gQi p sl v i n && decide (i ≤ l)) t (X + 1)) := by
  obtain ⟨h1, h2, h3⟩ := h
  have hcl := gCt_le p X
  have hcs : gCt p (X + 1) = gCt p X + 1 := by
    show gCt p X + (bif p X then 1 else 0) = _
    rw [hp]
    rfl
  have key : ∀ u : xs_S, xsF [1929] [] s u → (∃ n, n < X + 1 ∧ p n = true ∧ (∀ j, j < n → p j = false) ∧ u.1 1929 = nI n) → wO (xf_9_takeIn_j6 u) (fun t => xsF [1928, 1929] [125] s t ∧ gSm p (fun i n => gQi p sl v i n && decide (i ≤ l)) t (X + 1)) := fun u fu hfirst => by
    unfold xf_9_takeIn_j6
    have e28 : u.1 1928 + 1 = nI (gCt p (X + 1)) := by rw [fu.1 1928 (by decide), h1, nI_1, hcs]
    rw [e28]
    generalize hu2 : xs_sI u 1928 (nI (gCt p (X + 1))) = u2
    have f2 : xsF [1928, 1929] [125] s u2 := by
      rw [← hu2]
      exact (fu.wk (by decide) (by decide)).tr (xsF.sI (by decide))
    have i28 : u2.1 1928 = nI (gCt p (X + 1)) := by rw [← hu2]; rfl
    have i29 : u2.1 1929 = u.1 1929 := by rw [← hu2]; rfl
    have r25 : u2.2.1 125 = s.2.1 125 := by
      rw [← hu2]
      show u.2.1 125 = _
      exact fu.2.1 125 (by decide)
    refine wO_bd (Q := fun t => xsF [] [125] u2 t ∧ ∀ i, 1 ≤ i → i ≤ 5 → t.2.1 125 i = nI (gCt (fun n => gQi p sl v i n && decide (i ≤ l)) (X + 1))) ?_ ?_
    · refine wO_count (fun (k : Nat) (q : Int32 × xs_S) => q.1 = nI (1 + k) ∧ xsF [] [125] u2 q.2 ∧ ∀ i, 1 ≤ i → i ≤ 5 → q.2.2.1 125 i = nI (gCt (fun n => gQi p sl v i n && decide (i ≤ l)) (if i ≤ k then X + 1 else X))) l ?_ ?_ _ ⟨rfl, xsF.rf, fun i hi1 hi2 => ?_⟩
      · rintro k ⟨w2, t⟩ hk ⟨e1, f3, r3⟩
        have e1 : w2 = nI (1 + k) := e1
        have f3 : xsF [] [125] u2 t := f3
        have r3 : ∀ i, 1 ≤ i → i ≤ 5 → t.2.1 125 i = nI (gCt (fun n => gQi p sl v i n && decide (i ≤ l)) (if i ≤ k then X + 1 else X)) := r3
        subst e1
        obtain ⟨s1, s2⟩ := hs (1 + k) (by omega) (by omega)
        have cstep : gCt (fun n => gQi p sl v (1 + k) n && decide (1 + k ≤ l)) (X + 1) = gCt (fun n => gQi p sl v (1 + k) n && decide (1 + k ≤ l)) X + (bif decide (v ≤ sl X (1 + k)) then 1 else 0) := by
          show gCt (fun n => gQi p sl v (1 + k) n && decide (1 + k ≤ l)) X + (bif (gQi p sl v (1 + k) X && decide (1 + k ≤ l)) then 1 else 0) = _
          unfold gQi
          rw [hp, Bool.true_and, decide_eq_true (show 1 + k ≤ l by omega), Bool.and_true]
        have at0 := r3 (1 + k) (by omega) (by omega)
        rw [if_neg (by omega)] at at0
        unfold xf_9_takeIn_l14 xf_9_takeIn_j33
        dsimp only
        rw [(f3.1 1926 (by decide)).trans ((f2.1 1926 (by decide)).trans h26), (f3.1 1927 (by decide)).trans ((f2.1 1927 (by decide)).trans h27)]
        refine wO_neg (nI_nlt (show 1 + k ≤ l by omega) (by omega)) (wO_agv (k := 1 + k) (v := nI (sl X (1 + k))) rfl (by omega) (by omega) (by rw [f3.2.1 124 (by decide), f2.2.1 124 (by decide)]; exact s1) ?_)
        by_cases hvl : v ≤ sl X (1 + k)
        · rw [decide_eq_true hvl] at cstep
          refine wO_neg (nI_nlt hvl (by omega)) (wO_agv (k := 1 + k) rfl (by omega) (by omega) at0 (wO_in (k := 1 + k) rfl (by omega) (by omega) ?_))
          rw [nI_clamp (by omega)]
          refine wO_some ⟨nI_1 _, f3.tr (xsF.sA (by decide)), fun i hi1 hi2 => ?_⟩
          show upd (t.2.1 125) (1 + k) _ i = _
          by_cases he : i = 1 + k
          · subst he
            rw [upd_eq, if_pos (by omega), cstep]
            exact nI_1 _
          · rw [upd_ne he, r3 i hi1 hi2]
            by_cases hc : i ≤ k
            · rw [if_pos hc, if_pos (by omega)]
            · rw [if_neg hc, if_neg (by omega)]
        · rw [decide_eq_false hvl] at cstep
          refine wO_pos (nI_lt (by omega) (by omega)) (wO_some ⟨nI_1 _, f3, fun i hi1 hi2 => ?_⟩)
          by_cases he : i = 1 + k
          · subst he
            show t.2.1 125 (1 + k) = _
            rw [if_pos (by omega), cstep]
            exact at0
          · show t.2.1 125 i = _
            rw [r3 i hi1 hi2]
            by_cases hc : i ≤ k
            · rw [if_pos hc, if_pos (by omega)]
            · rw [if_neg hc, if_neg (by omega)]
      · rintro ⟨w2, t⟩ ⟨e1, f3, r3⟩
        have e1 : w2 = nI (1 + l) := e1
        have f3 : xsF [] [125] u2 t := f3
        have r3 : ∀ i, 1 ≤ i → i ≤ 5 → t.2.1 125 i = nI (gCt (fun n => gQi p sl v i n && decide (i ≤ l)) (if i ≤ l then X + 1 else X)) := r3
        subst e1
        unfold xf_9_takeIn_l14
        dsimp only
        rw [(f3.1 1926 (by decide)).trans ((f2.1 1926 (by decide)).trans h26)]
        refine wO_pos (nI_lt (by omega) (by omega)) (wO_some ⟨f3, fun i hi1 hi2 => ?_⟩)
        rw [r3 i hi1 hi2]
        by_cases hc : i ≤ l
        · rw [if_pos hc]
        · rw [if_neg hc]
          show _ = nI (gCt (fun n => gQi p sl v i n && decide (i ≤ l)) X + (bif (gQi p sl v i X && decide (i ≤ l)) then 1 else 0))
          rw [decide_eq_false hc, Bool.and_false]
          rfl
      · rw [if_neg (by omega)]
        show u2.2.1 125 i = _
        rw [r25]
        exact h3 i hi1 hi2
    · rintro t ⟨f4, r4⟩
      refine wO_some ⟨f2.tr (f4.wk (by decide) (by decide)), (f4.1 1928 (by decide)).trans i28, Or.inr ?_, r4⟩
      obtain ⟨n, a, b, c, d⟩ := hfirst
      exact ⟨n, a, b, c, (f4.1 1929 (by decide)).trans (i29.trans d)⟩
  unfold xf_9_takeIn
  rw [h1]
  by_cases hz : gCt p X = 0
  · rw [hz]
    refine wO_pos rfl (key _ (xsF.sI (by decide)) ⟨X, by omega, hp, fun j hj => ?_, rfl⟩)
    exact gAny_no.mp (gCt_0.mp hz) j hj
  · refine wO_neg (fun e => hz ((nI_eq (b := 0) (by omega) (by omega)).mp e)) (key s xsF.rf ?_)
    obtain ⟨n, a, b⟩ := h2.resolve_left hz
    exact ⟨n, by omega, b⟩
theorem x_opens3 {g : gT} {po : Option (Nat × Nat)} {s : xs_S} {st st2 : Nat} (h : XC g po st s) (hs : gSt g.1.2 st2) : wO (xf_1_open s (nI (gph st2))) (fun t => xsF xQi xQa s t ∧ XC g po st t ∧ gOp g po (t.2.1 118) (t.2.1 119) st2 ∧ (∀ j, ¬ s.2.1 118 j = -1 → ¬ t.2.1 118 j = -1) ∧ xsF [] xKo s t) := by
  obtain ⟨t, e, h1, h2, h3⟩ := x_opens h hs
  obtain ⟨t2, e2, k1, k2, k3, k4⟩ := x_open h.1 hs
  have : t = t2 := Option.some.inj (e.symm.trans e2)
  subst this
  exact ⟨t, e, h1, h2, h3, k4, k1⟩
