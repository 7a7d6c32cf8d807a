/-! questions: ring, best -/
def gHt (nx : Nat → Nat → Option Nat) (st x w : Nat) : Bool := decide (nx x w = some st)
def gRg (nx : Nat → Nat → Option Nat) (st : Nat) (q : List Nat × (Nat → Nat)) (a : Int32) : Prop := (∃ (i : Nat) (x : Nat), q.1[i]? = some x ∧ gAny (gHt nx st x) 7 = true ∧ (∀ (j : Nat) (y : Nat), j < i → q.1[j]? = some y → gAny (gHt nx st y) 7 = false) ∧ a = nI (q.2 x) + 1) ∨ ((∀ (j : Nat) (y : Nat), j < q.1.length → q.1[j]? = some y → gAny (gHt nx st y) 7 = false) ∧ a = -2)
theorem gRg_u {nx : Nat → Nat → Option Nat} {st : Nat} {q : List Nat × (Nat → Nat)} (a b : Int32) (h : gRg nx st q a) (k : gRg nx st q b) : a = b := by
  rcases h with ⟨i, x, h1, h2, h3, h4⟩ | ⟨h1, h2⟩
  · rcases k with ⟨j, y, k1, k2, k3, k4⟩ | ⟨k1, k2⟩
    · have hij : i = j := by
        rcases Nat.lt_trichotomy i j with e | e | e
        · have := k3 i x e h1
          rw [h2] at this; cases this
        · exact e
        · have := h3 j y e k1
          rw [k2] at this; cases this
      subst hij
      rw [h1] at k1
      cases k1
      exact h4.trans k4.symm
    · have := k1 i x (g_slt h1) h1
      rw [h2] at this; cases this
  · rcases k with ⟨j, y, k1, k2, k3, k4⟩ | ⟨k1, k2⟩
    · have := h1 j y (g_slt k1) k1
      rw [k2] at this; cases this
    · exact h2.trans k2.symm
theorem gE_inj {o : Option Nat} {st : Nat} (ho : ∀ u, o = some u → u < 294) (hst : st < 294) : gE o = nI st ↔ o = some st := by
  cases o with
  | none =>
    refine ⟨fun h => ?_, fun h => by cases h⟩
    exact absurd h.symm (pu_n1 (by omega))
  | some u =>
    have hu := ho u rfl
    refine ⟨fun h => ?_, fun h => by cases h; rfl⟩
    rw [(nI_eq (by omega) (by omega)).mp h]
theorem q_ring {g : gT} {lv : Nat} {s : xs_S} {m : ms_S} {po : Option (Nat × Nat)} {st : Nat} (hx : XC g po st s) (hm : MN g lv m po st) : gQ g po st s m (xf_11_ring s) (mf_ring m) := by
  have hst := hx.2.2.2
  have hst1 := hst.1
  have hgl := gph_lt hst1
  have hn := hx.1.1.2.1
  have hok : ∀ st w u, gSt g.1.2 st → w < 7 → gNx g po 0 st w = some u → gSt g.1.2 u := fun st w u hst _ hu => gNx_ok hn hst.1 hu
  obtain ⟨b1, b2, b3⟩ := gBf_ok hst hok
  have hlen := b1.len
  refine gQ_of (P := gRg (gNx g po 0) st (gBf (gNx g po 0) st)) gRg_u ?_ ?_
  · unfold xf_11_ring xf_0_shortestRing
    rw [hx.2.2.1]
    refine wO_bd (Q := fun p => gRg (gNx g po 0) st (gBf (gNx g po 0) st) p.1 ∧ xsF xQi xQa s p.2 ∧ XC g po st p.2) ?_ (fun p hp => wO_some hp)
    refine wO_bd (x_spr hx) ?_
    rintro t ⟨h1, h2, h3, h4⟩
    generalize gBf (gNx g po 0) st = q at *
    refine wO_bd (Q := fun p => (∃ (i : Nat) (x : Nat), p = .inl (nI i, t) ∧ q.1[i]? = some x ∧ gAny (gHt (gNx g po 0) st x) 7 = true ∧ (∀ (j : Nat) (y : Nat), j < i → q.1[j]? = some y → gAny (gHt (gNx g po 0) st y) 7 = false)) ∨ (p = .inr t ∧ ∀ (j : Nat) (y : Nat), j < q.1.length → q.1[j]? = some y → gAny (gHt (gNx g po 0) st y) 7 = false)) ?_ ?_
    · refine wO_count (fun (i : Nat) (p : Int32 × xs_S) => p = (nI i, t) ∧ ∀ (j : Nat) (y : Nat), j < i → q.1[j]? = some y → gAny (gHt (gNx g po 0) st y) 7 = false) q.1.length ?_ ?_ _ ⟨rfl, fun j _ hj => absurd hj (by omega)⟩
      · rintro i _ hi ⟨rfl, hno⟩
        unfold xf_0_shortestRing_l6
        refine wO_neg (show ¬ t.1 2018 ≤ nI i by rw [h3.1]; exact nI_ge hi (by omega)) ?_
        have hxx : q.1[i]? = some (q.1[i]) := List.getElem?_eq_getElem hi
        generalize q.1[i] = x at hxx
        have hmx := g_mem hxx
        have hsx := (b1.2 x hmx).1
        refine wO_bd (Q := fun p => (p = .inl t ∧ gAny (gHt (gNx g po 0) st x) 7 = true) ∨ (p = .inr t ∧ gAny (gHt (gNx g po 0) st x) 7 = false)) ?_ ?_
        · refine wO_count (fun (k : Nat) (p : Int32 × xs_S) => p = (nI k, t) ∧ gAny (gHt (gNx g po 0) st x) k = false) 7 ?_ ?_ _ ⟨rfl, rfl⟩
          · rintro k _ hk ⟨rfl, hno2⟩
            unfold xf_0_shortestRing_l12
            refine wO_neg (show ¬ (7 : Int32) ≤ nI k from nI_ge (b := 7) hk (by omega)) ?_
            refine wO_agv (k := i) rfl (by omega) (by omega) (h3.2.1 i x hxx) ?_
            refine wO_eq (x_after (wo := 0) hn hsx (h4 x hmx) hk (by omega)) ?_
            have hiff : gE ((gNx g po 0 x k).map gph) = nI (gph st) ↔ gNx g po 0 x k = some st := by
              rw [gE_inj (fun u hu => by
                cases h9 : gNx g po 0 x k with
                | none => rw [h9] at hu; cases hu
                | some v => rw [h9] at hu; cases hu; exact gph_lt (hok x k v hsx hk h9).1) hgl]
              cases h9 : gNx g po 0 x k with
              | none => exact ⟨fun e => (by cases e), fun e => (by cases e)⟩
              | some v => exact ⟨fun e => congrArg some (gph_inj (Option.some.inj e)), fun e => by cases e; rfl⟩
            refine wO_ite (fun c => ?_) (fun c => ?_)
            · exact wO_some (Or.inl ⟨rfl, gAny_iff.mpr ⟨k, hk, decide_eq_true (hiff.mp c)⟩⟩)
            · refine wO_some ⟨by rw [nI_1], ?_⟩
              simp only [gAny, hno2, Bool.false_or]
              exact decide_eq_false (fun e => c (hiff.mpr e))
          · rintro _ ⟨rfl, hno2⟩
            unfold xf_0_shortestRing_l12
            exact wO_pos (show (7 : Int32) ≤ nI 7 from Int32.le_refl _) (wO_some (Or.inr ⟨rfl, hno2⟩))
        · rintro _ (⟨rfl, hh⟩ | ⟨rfl, hh⟩)
          · exact wO_some (Or.inl ⟨i, x, rfl, hxx, hh, hno⟩)
          · refine wO_some ⟨by rw [nI_1], fun j y hj hy => ?_⟩
            by_cases he : j = i
            · subst he; rw [hxx] at hy; cases hy; exact hh
            · exact hno j y (by omega) hy
      · rintro _ ⟨rfl, hno⟩
        unfold xf_0_shortestRing_l6
        exact wO_pos (by rw [h3.1]; exact Int32.le_refl _) (wO_some (Or.inr ⟨rfl, hno⟩))
    · rintro _ (⟨i, x, rfl, hxx, hh, hno⟩ | ⟨rfl, hno⟩)
      · have hi := g_slt hxx
        have hmx := g_mem hxx
        have hsx := (b1.2 x hmx).1
        have hgx := gph_lt hsx.1
        refine wO_agv (k := i) rfl (by omega) (by omega) (h3.2.1 i x hxx) ?_
        have hd := h3.2.2 x hsx
        rw [if_pos hmx] at hd
        refine wO_agv (k := gph x) rfl (by omega) (by omega) hd ?_
        exact wO_some ⟨Or.inl ⟨i, x, hxx, hh, hno, rfl⟩, h1, h2⟩
      · exact wO_some ⟨Or.inr ⟨hno, rfl⟩, h1, h2⟩
  · unfold mf_ring
    refine wO_bd (m_goes hm) ?_
    rintro t ⟨h1, h2, h3⟩
    generalize gBf (gNx g po 0) st = q at *
    have h59 : t.2.1 59 0 = nI st := h3.2.1 0 st b2
    refine wO_bd (Q := fun p => (∃ (i : Nat) (x : Nat), p = .inl (nI i, t) ∧ q.1[i]? = some x ∧ gAny (gHt (gNx g po 0) st x) 7 = true ∧ (∀ (j : Nat) (y : Nat), j < i → q.1[j]? = some y → gAny (gHt (gNx g po 0) st y) 7 = false)) ∨ (p = .inr t ∧ ∀ (j : Nat) (y : Nat), j < q.1.length → q.1[j]? = some y → gAny (gHt (gNx g po 0) st y) 7 = false)) ?_ ?_
    · refine wO_count (fun (i : Nat) (p : Int32 × ms_S) => p = (nI i, t) ∧ ∀ (j : Nat) (y : Nat), j < i → q.1[j]? = some y → gAny (gHt (gNx g po 0) st y) 7 = false) q.1.length ?_ ?_ _ ⟨rfl, fun j _ hj => absurd hj (by omega)⟩
      · rintro i _ hi ⟨rfl, hno⟩
        unfold mf_ring_l4
        refine wO_neg (show ¬ t.1 60 ≤ nI i by rw [h3.1]; exact nI_ge hi (by omega)) ?_
        have hxx : q.1[i]? = some (q.1[i]) := List.getElem?_eq_getElem hi
        generalize q.1[i] = x at hxx
        have hmx := g_mem hxx
        have hsx := (b1.2 x hmx).1
        have hsx1 := hsx.1
        refine wO_bd (Q := fun p => (p = .inl t ∧ gAny (gHt (gNx g po 0) st x) 7 = true) ∨ (p = .inr t ∧ gAny (gHt (gNx g po 0) st x) 7 = false)) ?_ ?_
        · refine wO_count (fun (k : Nat) (p : Int32 × ms_S) => p = (nI k, t) ∧ gAny (gHt (gNx g po 0) st x) k = false) 7 ?_ ?_ _ ⟨rfl, rfl⟩
          · rintro k _ hk ⟨rfl, hno2⟩
            unfold mf_ring_l10
            refine wO_neg (show ¬ (7 : Int32) ≤ nI k from nI_ge (b := 7) hk (by omega)) ?_
            refine wO_agv (k := i) (v := nI x) rfl (by omega) (by omega) (h3.2.1 i x hxx) ?_
            have ei : (7 : Int32) * nI x + nI k = nI (7 * x + k) := (congrArg (· + nI k) (pu_mul 7 x)).trans (nI_add _ _)
            refine wO_agv (k := 7 * x + k) (v := gE (gNx g po 0 x k)) ei (by omega) (by omega) (h2 x hsx k hk) ?_
            rw [h59]
            have hiff : gE (gNx g po 0 x k) = nI st ↔ gNx g po 0 x k = some st := gE_inj (fun u hu => (hok x k u hsx hk hu).1) hst1
            refine wO_ite (fun c => ?_) (fun c => ?_)
            · exact wO_some (Or.inl ⟨rfl, gAny_iff.mpr ⟨k, hk, decide_eq_true (hiff.mp c)⟩⟩)
            · refine wO_some ⟨by rw [nI_1], ?_⟩
              simp only [gAny, hno2, Bool.false_or]
              exact decide_eq_false (fun e => c (hiff.mpr e))
          · rintro _ ⟨rfl, hno2⟩
            unfold mf_ring_l10
            exact wO_pos (show (7 : Int32) ≤ nI 7 from Int32.le_refl _) (wO_some (Or.inr ⟨rfl, hno2⟩))
        · rintro _ (⟨rfl, hh⟩ | ⟨rfl, hh⟩)
          · exact wO_some (Or.inl ⟨i, x, rfl, hxx, hh, hno⟩)
          · refine wO_some ⟨by rw [nI_1], fun j y hj hy => ?_⟩
            by_cases he : j = i
            · subst he; rw [hxx] at hy; cases hy; exact hh
            · exact hno j y (by omega) hy
      · rintro _ ⟨rfl, hno⟩
        unfold mf_ring_l4
        exact wO_pos (by rw [h3.1]; exact Int32.le_refl _) (wO_some (Or.inr ⟨rfl, hno⟩))
    · rintro _ (⟨i, x, rfl, hxx, hh, hno⟩ | ⟨rfl, hno⟩)
      · have hi := g_slt hxx
        have hmx := g_mem hxx
        have hsx := (b1.2 x hmx).1
        have hsx1 := hsx.1
        refine wO_agv (k := i) (v := nI x) rfl (by omega) (by omega) (h3.2.1 i x hxx) ?_
        have hd : t.2.1 58 x = _ := h3.2.2 x hsx
        rw [if_pos hmx] at hd
        refine wO_agv (k := x) rfl (by omega) (by omega) hd ?_
        exact wO_some ⟨Or.inl ⟨i, x, hxx, hh, hno, rfl⟩, h1.wk (by decide)⟩
      · exact wO_some ⟨Or.inr ⟨hno, rfl⟩, h1.wk (by decide)⟩
