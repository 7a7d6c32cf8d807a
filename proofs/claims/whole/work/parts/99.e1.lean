/-! laws: the reference's laws, the class's -/
theorem mo_loop_inl {S X : Type} {step : S → Option (S ⊕ X)} {s s2 : S} (h : step s = some (.inl s2)) : mo_loop step s = mo_loop step s2 := by
  have key : ∀ x, mo_loop step s = some x ↔ mo_loop step s2 = some x := fun x => by
    rw [mo_loop_iff, mo_loop_iff]
    constructor
    · rintro ⟨n, hn⟩
      cases n with
      | zero => cases hn
      | succ n => exact ⟨n, by simpa [mo_it, h] using hn⟩
    · rintro ⟨n, hn⟩
      exact ⟨n + 1, by simpa [mo_it, h] using hn⟩
  cases h1 : mo_loop step s2 with
  | some x => exact (key x).mpr h1
  | none =>
    cases h2 : mo_loop step s with
    | none => rfl
    | some y => rw [(key y).mp h2] at h1; cases h1
theorem mo_loop_inr {S X : Type} {step : S → Option (S ⊕ X)} {s : S} {x : X} (h : step s = some (.inr x)) : mo_loop step s = some x := mo_loop_iff.mpr ⟨1, by simp [mo_it, h]⟩
theorem m_law_go {D : Nat} {F : List gIt} {i last : Nat} (hD : D ≤ 400) (hi : i < 8) (hlast : last ≤ 260) : ∀ (L : List (List gIt × List gIt × List gIt)) (b : Nat) (s : ms_S), gLwf D L F → gBrs L F b s → b + L.length + 1 = last → s.2.1 32 i = nI last → s.1 46 = 0 → wO (mo_loop (mf_lawTells_l26 (nI i)) (nI b, s)) (fun r => ∃ t, msF [45, 46] s t ∧ ((r = .inl t ∧ gLaw (s.2.1 44) L F = 0) ∨ ∃ b2 T c, r = .inr (.inl (nI b2, t)) ∧ b2 < 260 ∧ t.1 46 = 0 ∧ gLaw (s.2.1 44) L F = (gEvl (s.2.1 44) T).getD 0 ∧ gWfr D T 0 1 ∧ c + T.length ≤ 840 ∧ t.2.1 37 b2 = nI c ∧ t.2.1 38 b2 = nI (c + T.length) ∧ gCds T c t)) := by
  intro L
  induction L with
  | nil =>
    intro b s hw hb hl h32 h46
    have hl : b + 0 + 1 = last := hl
    obtain ⟨c, c0, c1, c2, c3, c4, c5, c6, c7⟩ := hb
    refine wO_step ?_
    unfold mf_lawTells_l26
    refine wO_agv (k := i) rfl hi (by omega) h32 (wO_neg (nI_ge (show b < last by omega) (by omega)) (wO_agv (k := b) rfl (by omega) (by omega) c1 (wO_pos rfl (wO_some ?_))))
    exact ⟨s, msF.rf, Or.inr ⟨b, F, c, rfl, by omega, h46, rfl, hw, by simpa using c0, by simpa using c3, by simpa using c4, by simpa using c7⟩⟩
  | cons x L ih =>
    obtain ⟨U, V, T⟩ := x
    intro b s hw hb hl h32 h46
    obtain ⟨w1, w2, w3, w4⟩ := hw
    obtain ⟨⟨c, c0, c1, c2, c3, c4, c5, c6, c7⟩, hbs⟩ := hb
    have w1 : gWfr D U 0 1 := w1
    have w2 : gWfr D V 0 1 := w2
    have w3 : gWfr D T 0 1 := w3
    have c0 : c + U.length + V.length + T.length ≤ 840 := c0
    have c3 : s.2.1 37 b = nI (c + U.length + V.length) := c3
    have c4 : s.2.1 38 b = nI (c + U.length + V.length + T.length) := c4
    have c5 : gCds U c s := c5
    have c6 : gCds V (c + U.length) s := c6
    have c7 : gCds T (c + U.length + V.length) s := c7
    obtain ⟨d1, d2⟩ := c2 rfl
    have d2 : s.2.1 36 b = nI (c + U.length) := d2
    have hl : b + (L.length + 1) + 1 = last := hl
    refine wO_step ?_
    unfold mf_lawTells_l26
    refine wO_agv (k := i) rfl hi (by omega) h32 (wO_neg (nI_ge (show b < last by omega) (by omega)) (wO_agv (k := b) rfl (by omega) (by omega) c1 (wO_neg pu_10 (wO_agv (k := b) rfl (by omega) (by omega) d1 (wO_agv (k := b) rfl (by omega) (by omega) d2 ?_)))))
    refine wO_bd (m_termOf hD (by omega) w1 c5) ?_
    rintro ⟨a1, s1⟩ h1
    have f1 : msF [45, 46] s s1 := by
      rcases h1 with ⟨a, q1, q2, q3⟩ | ⟨q1, q2, q3, q4⟩
      · exact msF.wk q3 (by decide)
      · exact q3
    have e44 : s1.2.1 44 = s.2.1 44 := f1.a 44 (by decide)
    refine wO_agv (k := b) (v := nI (c + U.length)) rfl (by omega) (by omega) (by rw [f1.a 36 (by decide)]; exact d2) (wO_agv (k := b) (v := nI (c + U.length + V.length)) rfl (by omega) (by omega) (by rw [f1.a 37 (by decide)]; exact c3) ?_)
    refine wO_bd (m_termOf hD (by omega) w2 (c6.mv (f1.a 40 (by decide)) (f1.a 41 (by decide)))) ?_
    rintro ⟨a2, s2⟩ h2
    have f2 : msF [45, 46] s1 s2 := by
      rcases h2 with ⟨a, q1, q2, q3⟩ | ⟨q1, q2, q3, q4⟩
      · exact msF.wk q3 (by decide)
      · exact q3
    have ft : msF [45, 46] s s2 := f1.tr f2
    rw [e44] at h2
    rcases h1 with ⟨x, q1, q2, q3⟩ | ⟨q1, q2, q3, q4⟩
    · have q2 : a1 = x := q2
      have q3 : msF [45] s s1 := q3
      rcases h2 with ⟨y, r1, r2, r3⟩ | ⟨r1, r2, r3, r4⟩
      · have r2 : a2 = y := r2
        have r3 : msF [45] s1 s2 := r3
        subst q2 r2
        have z46 : s2.1 46 = 0 := (r3.i 46 (by decide)).trans ((q3.i 46 (by decide)).trans h46)
        have hL : gLaw (s.2.1 44) ((U, V, T) :: L) F = if a1 < a2 then (gEvl (s.2.1 44) T).getD 0 else gLaw (s.2.1 44) L F := by
          show (match gEvl (s.2.1 44) U, gEvl (s.2.1 44) V with
            | some x, some y => if x < y then (gEvl (s.2.1 44) T).getD 0 else gLaw (s.2.1 44) L F
            | _, _ => 0) = _
          rw [q1, r1]
        refine wO_pos z46 ?_
        by_cases hlt : a1 < a2
        · refine wO_pos hlt (wO_some ⟨s2, ft, Or.inr ⟨b, T, c + U.length + V.length, rfl, by omega, z46, hL.trans (if_pos hlt), w3, by omega, by rw [ft.a 37 (by decide)]; exact c3, by rw [ft.a 38 (by decide)]; exact c4, c7.mv (ft.a 40 (by decide)) (ft.a 41 (by decide))⟩⟩)
        · have hLn := hL.trans (if_neg hlt)
          refine wO_neg hlt (wO_some ?_)
          have hbs2 : gBrs L F (b + 1) s2 := by
            have : ∀ (L : List (List gIt × List gIt × List gIt)) (b : Nat), gBrs L F b s → gBrs L F b s2 := by
              have one : ∀ (t : Bool) (U V T : List gIt) (b : Nat), gBr1 t U V T b s → gBr1 t U V T b s2 := fun t U V T b ⟨c, e0, e1, e2, e3, e4, e5, e6, e7⟩ => ⟨c, e0, by rw [ft.a 34 (by decide)]; exact e1, by rw [ft.a 35 (by decide), ft.a 36 (by decide)]; exact e2, by rw [ft.a 37 (by decide)]; exact e3, by rw [ft.a 38 (by decide)]; exact e4, e5.mv (ft.a 40 (by decide)) (ft.a 41 (by decide)), e6.mv (ft.a 40 (by decide)) (ft.a 41 (by decide)), e7.mv (ft.a 40 (by decide)) (ft.a 41 (by decide))⟩
              intro L
              induction L with
              | nil => exact fun b h => one _ _ _ _ b h
              | cons x L ih2 => exact fun b h => ⟨one _ _ _ _ b h.1, ih2 (b + 1) h.2⟩
            exact this L (b + 1) hbs
          show wO (mo_loop (mf_lawTells_l26 (nI i)) (nI b + 1, s2)) _
          rw [nI_1]
          refine wO_mono (ih (b + 1) s2 w4 hbs2 (by omega) (by rw [ft.a 32 (by decide)]; exact h32) z46) ?_
          rintro r ⟨t, g1, g2⟩
          rw [ft.a 44 (by decide)] at g2
          rw [hLn]
          exact ⟨t, ft.tr g1, g2⟩
      · have hz : gLaw (s.2.1 44) ((U, V, T) :: L) F = 0 := by
          show (match gEvl (s.2.1 44) U, gEvl (s.2.1 44) V with
            | some x, some y => if x < y then (gEvl (s.2.1 44) T).getD 0 else gLaw (s.2.1 44) L F
            | _, _ => 0) = _
          rw [q1, r1]
        have r4 : s2.1 46 = 1 := r4
        exact wO_neg (by rw [r4]; exact pu_10) (wO_some ⟨s2, ft, Or.inl ⟨rfl, hz⟩⟩)
    · have hz : gLaw (s.2.1 44) ((U, V, T) :: L) F = 0 := by
        show (match gEvl (s.2.1 44) U, gEvl (s.2.1 44) V with
          | some x, some y => if x < y then (gEvl (s.2.1 44) T).getD 0 else gLaw (s.2.1 44) L F
          | _, _ => 0) = _
        rw [q1]
      have q4 : s1.1 46 = 1 := q4
      have z46 : ¬ s2.1 46 = 0 := by
        rcases h2 with ⟨y, r1, r2, r3⟩ | ⟨r1, r2, r3, r4⟩
        · have r3 : msF [45] s1 s2 := r3
          rw [r3.i 46 (by decide), q4]
          exact pu_10
        · have r4 : s2.1 46 = 1 := r4
          rw [r4]
          exact pu_10
      exact wO_neg z46 (wO_some ⟨s2, ft, Or.inl ⟨rfl, hz⟩⟩)
/-- one law of the reference -/
def gMLk (lv k : Nat) (o : Option gLd) (s : ms_S) : Prop := match o with
  | none => s.2.1 31 (4 * lv + k) = s.2.1 32 (4 * lv + k)
  | some d => ∃ b, b + d.1.length + 1 ≤ 260 ∧ s.2.1 31 (4 * lv + k) = nI b ∧ s.2.1 32 (4 * lv + k) = nI (b + d.1.length + 1) ∧ gBrs d.1 d.2 b s ∧ gLwf 20 d.1 d.2
def gLfn (LW : Nat → Option gLd) (k : Nat) (v : Nat → Int32) : Int32 := match LW k with
  | none => g_df k v
  | some d => gLaw v d.1 d.2
theorem gEvl_cg {v v2 : Nat → Int32} (hv : ∀ i, i < 9 → v i = v2 i) {D : Nat} {X : List gIt} {h2 : Nat} (h : gWfr D X 0 h2) : gEvl v X = gEvl v2 X := by
  unfold gEvl
  rw [gRun_cg hv h]
theorem gLaw_cg {v v2 : Nat → Int32} (hv : ∀ i, i < 9 → v i = v2 i) {D : Nat} {F : List gIt} : ∀ {L : List (List gIt × List gIt × List gIt)}, gLwf D L F → gLaw v L F = gLaw v2 L F
  | [], h => by
    show (gEvl v F).getD 0 = (gEvl v2 F).getD 0
    rw [gEvl_cg hv (show gWfr D F 0 1 from h)]
  | x :: L, h => by
    show (match gEvl v x.1, gEvl v x.2.1 with
      | some a, some y => if a < y then (gEvl v x.2.2).getD 0 else gLaw v L F
      | _, _ => 0) = (match gEvl v2 x.1, gEvl v2 x.2.1 with
      | some a, some y => if a < y then (gEvl v2 x.2.2).getD 0 else gLaw v2 L F
      | _, _ => 0)
    rw [gEvl_cg hv h.1, gEvl_cg hv h.2.1, gEvl_cg hv h.2.2.1, gLaw_cg hv h.2.2.2]
def gLwo (LW : Nat → Option gLd) : Prop := ∀ k d, k < 4 → LW k = some d → gLwf 20 d.1 d.2
theorem gLfn_cg {LW : Nat → Option gLd} (h : gLwo LW) {k : Nat} (hk : k < 4) {v v2 : Nat → Int32} (hv : ∀ i, i < 9 → v i = v2 i) : gLfn LW k v = gLfn LW k v2 := by
  unfold gLfn
  cases hl : LW k with
  | none =>
    show g_df k v = g_df k v2
    unfold g_df
    rw [hv 0 (by omega), hv 1 (by omega)]
  | some d => exact gLaw_cg hv (h k d hk hl)
theorem gBrs_mv {F : List gIt} {s t : ms_S} (h : ∀ j, j ∈ [34, 35, 36, 37, 38, 40, 41] → t.2.1 j = s.2.1 j) : ∀ (L : List (List gIt × List gIt × List gIt)) (b : Nat), gBrs L F b s → gBrs L F b t := by
  have one : ∀ (q : Bool) (U V T : List gIt) (b : Nat), gBr1 q U V T b s → gBr1 q U V T b t := fun q U V T b ⟨c, e0, e1, e2, e3, e4, e5, e6, e7⟩ => ⟨c, e0, by rw [h 34 (by decide)]; exact e1, by rw [h 35 (by decide), h 36 (by decide)]; exact e2, by rw [h 37 (by decide)]; exact e3, by rw [h 38 (by decide)]; exact e4, e5.mv (h 40 (by decide)) (h 41 (by decide)), e6.mv (h 40 (by decide)) (h 41 (by decide)), e7.mv (h 40 (by decide)) (h 41 (by decide))⟩
  intro L
  induction L with
  | nil => exact fun b hb => one _ _ _ _ b hb
  | cons x L ih2 => exact fun b hb => ⟨one _ _ _ _ b hb.1, ih2 (b + 1) hb.2⟩
theorem ML_old {g : gT} {LW : Nat → Option gLd} {lv : Nat} {s : ms_S} (hlv : lv ≤ 1) (h18 : s.1 18 = nI lv) (hg : ∀ k v, k < 4 → g.2.2.2 k v = gLfn LW k v) (hk : ∀ k, k < 4 → gMLk lv k (LW k) s) : (∀ k, k < 4 → ∀ v v2 : Nat → Int32, (∀ i, i < 9 → v i = v2 i) → g.2.2.2 k v = g.2.2.2 k v2) ∧ ∀ s2 : ms_S, (∀ j ∈ gLF, s2.1 j = s.1 j ∧ s2.2.1 j = s.2.1 j) → ∀ k, k < 4 → wO (mf_lawTells s2 (nI k) (g_df k (s2.2.1 44))) (fun q => q.1 = g.2.2.2 k (s2.2.1 44) ∧ msF [45, 46] s2 q.2) := by
  have hwo : gLwo LW := fun k d hk4 hl => by
    have := hk k hk4
    rw [hl] at this
    obtain ⟨b, -, -, -, -, h⟩ := this
    exact h
  refine ⟨fun k hk4 v v2 hv => by rw [hg k v hk4, hg k v2 hk4]; exact gLfn_cg hwo hk4 hv, fun s2 hs2 k hk4 => ?_⟩
  rw [hg k _ hk4]
  have e4 : (4 : Int32) * s2.1 18 + nI k = nI (4 * lv + k) := by
    rw [(hs2 18 (by decide)).1, h18, show (4 : Int32) * nI lv = nI (4 * lv) from pu_mul 4 lv, nI_add]
  have h31 := (hs2 31 (by decide)).2
  have h32 := (hs2 32 (by decide)).2
  have hkk := hk k hk4
  unfold mf_lawTells gLfn
  rw [e4]
  cases hl : LW k with
  | none =>
    rw [hl] at hkk
    have hkk : s.2.1 31 (4 * lv + k) = s.2.1 32 (4 * lv + k) := hkk
    refine wO_agv (k := 4 * lv + k) (v := s.2.1 31 (4 * lv + k)) rfl (by omega) (by omega) (by rw [h31]) (wO_agv (k := 4 * lv + k) (v := s.2.1 32 (4 * lv + k)) rfl (by omega) (by omega) (by rw [h32]) (wO_pos hkk (wO_some ⟨rfl, msF.rf⟩)))
  | some d =>
    rw [hl] at hkk
    obtain ⟨b, b1, b2, b3, b4, b5⟩ := hkk
    refine wO_agv (k := 4 * lv + k) (v := nI b) rfl (by omega) (by omega) (by rw [h31]; exact b2) (wO_agv (k := 4 * lv + k) (v := nI (b + d.1.length + 1)) rfl (by omega) (by omega) (by rw [h32]; exact b3) (wO_neg (fun e => absurd ((nI_eq (by omega) (by omega)).mp e) (by omega)) (wO_agv (k := 4 * lv + k) (v := nI b) rfl (by omega) (by omega) (by rw [h31]; exact b2) ?_)))
    have f0 : msF [45, 46] s2 (ms_sI s2 46 0) := msF.sI (by decide)
    have brs : gBrs d.1 d.2 b (ms_sI s2 46 0) := gBrs_mv (s := s) (t := ms_sI s2 46 0) (fun j hj => by
      have : ∀ j, j ∈ [34, 35, 36, 37, 38, 40, 41] → j ∈ gLF := by decide
      exact (hs2 j (this j hj)).2) d.1 b b4
    refine wO_bd (m_law_go (D := 20) (F := d.2) (i := 4 * lv + k) (last := b + d.1.length + 1) (by omega) (by omega) b1 d.1 b (ms_sI s2 46 0) b5 brs rfl (by show s2.2.1 32 _ = _; rw [h32]; exact b3) rfl) ?_
    have e44 : (ms_sI s2 46 0).2.1 44 = s2.2.1 44 := rfl
    rw [e44]
    rintro r ⟨t, f1, ⟨rfl, hz⟩ | ⟨b2, T, c, rfl, hb2, z46, hv, hwT, hc, r37, r38, cds⟩⟩
    · exact wO_some ⟨hz.symm, f0.tr f1⟩
    · show wO (mf_lawTells_j68 t (nI b2)) _
      unfold mf_lawTells_j68
      refine wO_agv (k := b2) rfl hb2 (by omega) r37 (wO_agv (k := b2) rfl hb2 (by omega) r38 (wO_bd (m_termOf (D := 20) (by omega) hc hwT cds) ?_))
      have t44 : t.2.1 44 = s2.2.1 44 := f1.a 44 (by decide)
      rw [t44]
      rintro ⟨a, t2⟩ (⟨x, q1, q2, q3⟩ | ⟨q1, q2, q3, q4⟩)
      · have q2 : a = x := q2
        have q3 : msF [45] t t2 := q3
        subst q2
        refine wO_pos ((q3.i 46 (by decide)).trans z46) (wO_some ⟨?_, f0.tr (f1.tr (q3.wk (by decide)))⟩)
        show a = gLaw (s2.2.1 44) d.1 d.2
        rw [hv, q1]
        rfl
      · have q4 : t2.1 46 = 1 := q4
        refine wO_neg (by rw [q4]; exact pu_10) (wO_some ⟨?_, f0.tr (f1.tr q3)⟩)
        show 0 = gLaw (s2.2.1 44) d.1 d.2
        rw [hv, q1]
        rfl
