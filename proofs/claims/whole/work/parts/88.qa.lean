/-! questions: who, soon, reach, slopes, ring -/
/-- text, pair and standing of the class, and its forecast -/
def XC (g : gT) (po : Option (Nat × Nat)) (st : Nat) (s : xs_S) : Prop := XG g s po ∧ gFs g po s ∧ s.1 400 = nI (gph st) ∧ gSt g.1.2 st
def xQi : List Nat := [2018, 2022, 2023, 2024]
def xQa : List Nat := [15, 16, 118, 119, 127, 128, 129, 130]
def mQ : List Nat := [44, 45, 46, 48, 49, 50, 51, 52, 53, 56, 57, 58, 59, 60]
/-- both answer alike, and little but their own notes has changed -/
def gQ (g : gT) (po : Option (Nat × Nat)) (st : Nat) (s : xs_S) (m : ms_S) (xo : Option (Int32 × xs_S)) (mo : Option (Int32 × ms_S)) : Prop := ∃ a s2 m2, xo = some (a, s2) ∧ mo = some (a, m2) ∧ xsF xQi xQa s s2 ∧ XC g po st s2 ∧ msF mQ m m2
theorem gQ_of {g : gT} {po : Option (Nat × Nat)} {st : Nat} {s : xs_S} {m : ms_S} {xo : Option (Int32 × xs_S)} {mo : Option (Int32 × ms_S)} {P : Int32 → Prop} (hu : ∀ a b, P a → P b → a = b) (hx : wO xo (fun p => P p.1 ∧ xsF xQi xQa s p.2 ∧ XC g po st p.2)) (hm : wO mo (fun p => P p.1 ∧ msF mQ m p.2)) : gQ g po st s m xo mo := by
  obtain ⟨⟨a, s2⟩, h1, h2, h3, h4⟩ := hx
  obtain ⟨⟨b, m2⟩, k1, k2, k3⟩ := hm
  have e : a = b := hu a b h2 k2
  subst e
  exact ⟨a, s2, m2, h1, k1, h3, h4, k3⟩
theorem x_fore {g : gT} {po : Option (Nat × Nat)} {s : xs_S} {wo st st2 : Nat} (h : XC g po st s) (hst : gSt g.1.2 st2) (hwo : wo < 64) : wO (xf_0_foresee s (nI (gph st2)) (nI wo)) (fun p => xsF xQi xQa s p.2 ∧ XC g po st p.2 ∧ p.1 = nI (gWn (gWf (gNx g po wo) st2)) ∧ ∃ q, gFc g po wo p.2 q ∧ st2 ∈ q.1) := by
  refine wO_mono (x_foresee h.1 h.2.1 hst hwo) ?_
  rintro ⟨a, t⟩ ⟨h1, h2, h3, hy, q, h4, h5⟩
  exact ⟨h1, ⟨h2, ⟨hy, Or.inr (Or.inr ⟨wo, q, h4⟩)⟩, (h1.1 400 (by decide)).trans h.2.2.1, h.2.2.2⟩, h3, q, h4, h5⟩
theorem gRo_win {nw st : Nat} {f : Nat → Option (Nat × Nat)} {A B : Nat → Int32} (h : gRo nw f A B) (hst : gSt nw st) : A st = nI (gWn (f st)) := by
  have h1 := h st hst
  cases h2 : f st with
  | none => rw [h2] at h1; exact h1
  | some p => rw [h2] at h1; exact h1.1
theorem gRo_soon {nw st : Nat} {f : Nat → Option (Nat × Nat)} {A B : Nat → Int32} {p : Nat × Nat} (h : gRo nw f A B) (hst : gSt nw st) (hp : f st = some p) : B st = nI p.2 := by
  have h1 := h st hst
  rw [hp] at h1
  exact h1.2
theorem gFc_soon {g : gT} {po : Option (Nat × Nat)} {wo st : Nat} {s : xs_S} {q : List Nat × (Nat → Nat)} {p : Nat × Nat} (k : gFc g po wo s q) (hm : st ∈ q.1) (hp : gWf (gNx g po wo) st = some p) : s.2.1 130 (gph st) = nI p.2 := by
  unfold gFc at k
  generalize gWf (gNx g po wo) = f at k hp
  have h1 := k.2.2.2.2.2.2 st hm
  rw [hp] at h1
  exact h1.2
theorem gWf_ok {nx : Nat → Nat → Option Nat} {st : Nat} {p : Nat × Nat} (h : gWf nx st = some p) : 1 ≤ p.1 ∧ p.1 ≤ 2 ∧ p.2 ≤ 294 := by
  obtain ⟨N, hN⟩ : ∃ N, N = 294 := ⟨294, rfl⟩
  rw [gWf_eq hN] at h
  have := gWs_ok h
  omega
theorem m_who_now {g : gT} {lv : Nat} {m : ms_S} {po : Option (Nat × Nat)} {st : Nat} (h : MN g lv m po st) : ∃ m1 m2, mf_copies m = some m1 ∧ mf_fillsWho m1 = some m2 ∧ msF mQ m m2 ∧ MW g lv m2 po 0 (st / 14) (st / 7 % 2) (st % 7) ∧ gTh g po 0 (m2.2.1 51) ∧ gRo g.1.2 (gWf (gNx g po 0)) (m2.2.1 52) (m2.2.1 53) := by
  obtain ⟨m1, e1, f1, r1, l1, w1⟩ := m_copies h
  obtain ⟨m2, e2, f2, r2, th, ro⟩ := m_fillsWho w1
  obtain ⟨a1, a2, a3, a4, a5, a6, a7, a8⟩ := w1
  refine ⟨m1, m2, e1, e2, (f1.wk (by decide)).tr (f2.wk (by decide)), ⟨a1.mv f2 (by decide), a2.mv (by rw [r2]) (by rw [r2]), (f2.i 50 (by decide)).trans a3, a4, by rw [r2]; exact a5, by rw [r2]; exact a6, by rw [r2]; exact a7, a8⟩, th, ro⟩
theorem q_who {g : gT} {lv : Nat} {s : xs_S} {m : ms_S} {po : Option (Nat × Nat)} {st : Nat} (hx : XC g po st s) (hm : MN g lv m po st) : gQ g po st s m (xf_11_who s) (mf_who m) := by
  have hst := hx.2.2.2
  refine gQ_of (P := fun a => a = nI (gWn (gWf (gNx g po 0) st))) (fun a b h k => h.trans k.symm) ?_ ?_
  · unfold xf_11_who
    rw [hx.2.2.1]
    refine wO_bd (x_fore (wo := 0) hx hst (by omega)) ?_
    rintro ⟨a, t⟩ ⟨h1, h2, h3, h4⟩
    exact wO_some ⟨h3, h1, h2⟩
  · unfold mf_who
    obtain ⟨m1, m2, e1, e2, f, w, th, ro⟩ := m_who_now hm
    refine wO_eq e1 (wO_eq e2 (wO_eq (m_num w) ?_))
    exact wO_agv (k := st) rfl hst.1 (by omega) (gRo_win ro hst) (wO_some ⟨rfl, f⟩)
theorem q_soon {g : gT} {lv : Nat} {s : xs_S} {m : ms_S} {po : Option (Nat × Nat)} {st : Nat} (hx : XC g po st s) (hm : MN g lv m po st) : gQ g po st s m (xf_11_soon s) (mf_soon m) := by
  have hst := hx.2.2.2
  have hgl := gph_lt hst.1
  refine gQ_of (P := fun a => a = match gWf (gNx g po 0) st with
    | none => -2
    | some p => nI p.2) (fun a b h k => h.trans k.symm) ?_ ?_
  · unfold xf_11_soon
    rw [hx.2.2.1]
    refine wO_bd (x_fore (wo := 0) hx hst (by omega)) ?_
    rintro ⟨a, t⟩ ⟨h1, h2, h3, q, h4, h5⟩
    have h3 : a = _ := h3
    subst h3
    cases hp : gWf (gNx g po 0) st with
    | none => exact wO_pos rfl (wO_some ⟨rfl, h1, h2⟩)
    | some p =>
      have hk := gWf_ok hp
      refine wO_neg (show ¬ nI p.1 = 0 from fun e => absurd ((nI_eq (b := 0) (by omega) (by omega)).mp e) (by omega)) ?_
      have h400 : t.1 400 = nI (gph st) := h2.2.2.1
      exact wO_agv (k := gph st) h400 (by omega) (by omega) (gFc_soon h4 h5 hp) (wO_some ⟨rfl, h1, h2⟩)
  · unfold mf_soon
    obtain ⟨m1, m2, e1, e2, f, w, th, ro⟩ := m_who_now hm
    refine wO_eq e1 (wO_eq e2 (wO_eq (m_num w) ?_))
    refine wO_agv (k := st) rfl hst.1 (by omega) (gRo_win ro hst) ?_
    cases hp : gWf (gNx g po 0) st with
    | none => exact wO_pos rfl (wO_some ⟨rfl, f⟩)
    | some p =>
      have hk := gWf_ok hp
      refine wO_neg (show ¬ nI p.1 = 0 from fun e => absurd ((nI_eq (b := 0) (by omega) (by omega)).mp e) (by omega)) ?_
      refine wO_eq (m_num w) ?_
      exact wO_agv (k := st) rfl hst.1 (by omega) (gRo_soon ro hst hp) (wO_some ⟨rfl, f⟩)
theorem x_spr {g : gT} {po : Option (Nat × Nat)} {s : xs_S} {st : Nat} (h : XC g po st s) : wO (xf_0_spread s (nI (gph st)) 0) (fun t => xsF xQi xQa s t ∧ XC g po st t ∧ gBv gph g.1.2 (gBf (gNx g po 0) st) (t.2.1 127) (t.2.1 128) (t.1 2018) ∧ ∀ x ∈ (gBf (gNx g po 0) st).1, gOp g po (t.2.1 118) (t.2.1 119) x) := by
  refine wO_mono (x_spread (wo := 0) h.1 h.2.2.2 (by omega)) ?_
  rintro t ⟨h1, h2, ⟨h3, h4, h5⟩, h6, h7⟩
  have h1 : xsF xQi xQa s t := h1.wk (by decide) (by decide)
  exact ⟨h1, ⟨h2, ⟨h.2.1.1.sp h4 (h1.1 1875 (by decide)), Or.inl h5⟩, (h1.1 400 (by decide)).trans h.2.2.1, h.2.2.2⟩, h6, h7⟩
theorem q_reach {g : gT} {lv : Nat} {s : xs_S} {m : ms_S} {po : Option (Nat × Nat)} {st : Nat} (hx : XC g po st s) (hm : MN g lv m po st) : gQ g po st s m (xf_11_reach s) (mf_reach m) := by
  refine gQ_of (P := fun a => a = nI (gBf (gNx g po 0) st).1.length) (fun a b h k => h.trans k.symm) ?_ ?_
  · unfold xf_11_reach
    rw [hx.2.2.1]
    refine wO_bd (x_spr hx) ?_
    rintro t ⟨h1, h2, h3, h4⟩
    exact wO_some ⟨h3.1, h1, h2⟩
  · unfold mf_reach
    refine wO_bd (m_goes hm) ?_
    rintro t ⟨h1, h2, h3⟩
    exact wO_some ⟨h3.1, h1.wk (by decide)⟩
def gSb (L : List Nat) : Nat → Int32
  | 0 => 0
  | k + 1 => match L[k]? with
    | none => gSb L k
    | some x => gSb L k ||| ((1 : Int32) <<< (nI (x / 14) &&& 31))
theorem q_slopes {g : gT} {lv : Nat} {s : xs_S} {m : ms_S} {po : Option (Nat × Nat)} {st : Nat} (hx : XC g po st s) (hm : MN g lv m po st) : gQ g po st s m (xf_11_slopes s) (mf_slopes m) := by
  have hst := hx.2.2.2
  have hn := hx.1.1.2.1
  have hok : ∀ st w u, gSt g.1.2 st → w < 7 → gNx g po 0 st w = some u → gSt g.1.2 u := fun st w u hst _ hu => gNx_ok hn hst.1 hu
  obtain ⟨b1, b2, b3⟩ := gBf_ok hst hok
  have hlen := b1.len
  refine gQ_of (P := fun a => a = gSb (gBf (gNx g po 0) st).1 (gBf (gNx g po 0) st).1.length) (fun a b h k => h.trans k.symm) ?_ ?_
  · unfold xf_11_slopes
    rw [hx.2.2.1]
    refine wO_bd (x_spr hx) ?_
    rintro t ⟨h1, h2, h3, h4⟩
    refine wO_bd (Q := fun p => p = (gSb (gBf (gNx g po 0) st).1 (gBf (gNx g po 0) st).1.length, t)) ?_ ?_
    · unfold xf_0_slopeBits
      refine wO_bd (Q := fun p => p = (gSb (gBf (gNx g po 0) st).1 (gBf (gNx g po 0) st).1.length, t)) ?_ (fun p hp => by subst hp; exact wO_some rfl)
      generalize gBf (gNx g po 0) st = q at *
      refine wO_count (fun (i : Nat) (p : Int32 × Int32 × xs_S) => p = (gSb q.1 i, nI i, t)) q.1.length ?_ ?_ _ rfl
      · rintro i _ hi rfl
        unfold xf_0_slopeBits_l4
        refine wO_neg (show ¬ t.1 2018 ≤ nI i by rw [h3.1]; exact nI_ge hi (by omega)) ?_
        have hxx : q.1[i]? = some (q.1[i]) := List.getElem?_eq_getElem hi
        generalize q.1[i] = x at hxx
        have hsx := (b1.2 x (g_mem hxx)).1
        refine wO_agv (k := i) rfl (by omega) (by omega) (h3.2.1 i x hxx) ?_
        refine wO_eq (x_slope hsx.1) ?_
        refine wO_some ?_
        show (_, _, _) = (gSb q.1 (i + 1), nI (i + 1), t)
        rw [← nI_1 i]
        simp only [gSb, hxx]
      · rintro _ rfl
        unfold xf_0_slopeBits_l4
        exact wO_pos (by rw [h3.1]; exact Int32.le_refl _) (wO_some rfl)
    · rintro _ rfl
      exact wO_some ⟨rfl, h1, h2⟩
  · unfold mf_slopes
    refine wO_bd (m_goes hm) ?_
    rintro t ⟨h1, h2, h3⟩
    refine wO_bd (Q := fun p => p = (gSb (gBf (gNx g po 0) st).1 (gBf (gNx g po 0) st).1.length, t)) ?_ (fun p hp => by subst hp; exact wO_some ⟨rfl, h1.wk (by decide)⟩)
    generalize gBf (gNx g po 0) st = q at *
    refine wO_count (fun (i : Nat) (p : Int32 × Int32 × ms_S) => p = (gSb q.1 i, nI i, t)) q.1.length ?_ ?_ _ rfl
    · rintro i _ hi rfl
      unfold mf_slopes_l6
      refine wO_neg (show ¬ t.1 60 ≤ nI i by rw [h3.1]; exact nI_ge hi (by omega)) ?_
      have hxx : q.1[i]? = some (q.1[i]) := List.getElem?_eq_getElem hi
      generalize q.1[i] = x at hxx
      have hsx := (b1.2 x (g_mem hxx)).1.1
      refine wO_agv (k := i) rfl (by omega) (by omega) (h3.2.1 i x hxx) ?_
      rw [show nI (id x) / (14 : Int32) = nI (x / 14) from pu_div (b := 14) (by show x < _; omega) (by omega)]
      refine wO_some ?_
      show (_, _, _) = (gSb q.1 (i + 1), nI (i + 1), t)
      rw [← nI_1 i]
      simp only [gSb, hxx]
    · rintro _ rfl
      unfold mf_slopes_l6
      exact wO_pos (by rw [h3.1]; exact Int32.le_refl _) (wO_some rfl)
