/-! the reference: what one says, what it does -/
def gP (g : gT) (l r sl tu la w : Nat) : Nat := gcl (g.2.2.2 0 (gv1 g l r sl tu la w)) 9
def gX (g : gT) (l r sl tu la w : Nat) : Bool := decide (0 < g.2.2.2 3 (gv1 g l r sl tu la w))
def gR (g : gT) (l r sl tu la : Nat) : Nat := gcl (g.2.2.2 2 (gv0 g l r sl tu la)) 9
def gW (g : gT) (l r sl tu la : Nat) : Nat := gcl (g.2.2.2 1 (gv0 g l r sl tu la)) 99
/-- text, pair and standing of the row -/
def MC (g : gT) (lv : Nat) (s : ms_S) (l r sl tu la : Nat) : Prop := MT g lv s ∧ MR s l r sl tu la ∧ l < g.1.1 ∧ r < g.1.1 ∧ (la < g.1.2 ∨ la = 6)
def gKs : List Nat := [44, 45, 46]
theorem MC.mv {g : gT} {lv : Nat} {s t : ms_S} {l r sl tu la : Nat} (h : MC g lv s l r sl tu la) (hF : msF gKs s t) : MC g lv t l r sl tu la :=
  ⟨h.1.mv hF (by decide), h.2.1.mv hF (by decide), h.2.2.1, h.2.2.2.1, h.2.2.2.2⟩
theorem m_forceAt {g : gT} {lv : Nat} {s : ms_S} {w : Nat} (hT : MT g lv s) (hw : w < g.1.2) : mf_forceAt s (nI w) = some (nI (g.2.2.1 w), s) := by
  obtain ⟨t1, t2, t3, t4, t5, t6, t7, t8, t9⟩ := hT
  unfold mf_forceAt
  have e6 : (6 : Int32) * s.1 18 + nI w = nI (6 * lv + w) := by rw [t2]; exact (congrArg (· + nI w) (pu_mul 6 lv)).trans (nI_add _ _)
  rw [pu_agv (k := 6 * lv + w) e6 (by omega) (by omega) (t8 w hw).1]
  rfl
theorem MT.sA44 {g : gT} {lv : Nat} {s : ms_S} {V : Nat → Int32} (h : MT g lv s) : MT g lv (ms_sA s 44 V) := h.mv (msF.sA (K := [44]) (by decide)) (by decide)
theorem m_looksAt {g : gT} {lv : Nat} {s : ms_S} {l r sl tu la w : Nat} (h : MC g lv s l r sl tu la) (hw : w < g.1.2) : wO (mf_looksAt s (nI w)) (fun t => ∃ V : Nat → Int32, t = ms_sA s 44 V ∧ ∀ i, i < 9 → V i = gv1 g l r sl tu la w i) := by
  obtain ⟨hT, ⟨r0, r1, r2, r3, r4, b0, b1, b2⟩, hl, hr, hla⟩ := h
  unfold mf_looksAt
  rw [r1]
  refine wO_bd (m_looks hT r0 r2 r3 r4 b2 b1 hl hr) ?_
  rintro _ ⟨V, rfl, hV⟩
  refine wO_eq (m_forceAt hT.sA44 hw) ?_
  have r2' : (ms_sA s 44 V).2.1 48 2 = nI la := r2
  refine wO_ite (fun c => ?_) (fun c => ?_)
  · have hc : la = 6 := by
      rw [r2'] at c
      have := (nI_leI (a := 6) (by omega) (by omega)).mp c
      omega
    refine wO_some ⟨_, ms_sA_sA, fun i hi => ?_⟩
    have hV2 : ((ms_sA s 44 V).2.1 44) = V := rfl
    rw [hV2]
    rcases (show i = 0 ∨ i = 1 ∨ i = 2 ∨ i = 3 ∨ i = 4 ∨ i = 5 ∨ i = 6 ∨ i = 7 ∨ i = 8 by omega) with rfl | rfl | rfl | rfl | rfl | rfl | rfl | rfl | rfl <;> simp [upd, gv1, hV, hc] <;> simp [gv0, nI_0]
  · have hc : la < g.1.2 := by
      rcases hla with h | h
      · exact h
      · exfalso
        rw [r2', h] at c
        exact c (Int32.le_refl _)
    have hc6 : la < 6 := by have := hT.2.2.2.1; omega
    have q1 : mf_forceAt (ms_sA (ms_sA s 44 V) 44 (upd (upd ((ms_sA s 44 V).2.1 44) 0 (nI (g.2.2.1 w))) 5 (nI w))) ((ms_sA s 44 V).2.1 48 2) = some (nI (g.2.2.1 la), (ms_sA (ms_sA s 44 V) 44 (upd (upd ((ms_sA s 44 V).2.1 44) 0 (nI (g.2.2.1 w))) 5 (nI w)))) := by
      rw [r2']
      exact m_forceAt hT.sA44.sA44 hc
    refine wO_eq q1 ?_
    refine wO_eq (m_forceAt hT.sA44.sA44 hw) ?_
    have f1 := (hT.2.2.2.2.2.2.2.1 la hc).2
    have f2 := (hT.2.2.2.2.2.2.2.1 w hw).2
    refine wO_ite (fun d => ?_) (fun d => ?_)
    · have hd : g.2.2.1 la = g.2.2.1 w := (nI_eq (by omega) (by omega)).mp d
      refine wO_some ⟨_, by rw [ms_sA_sA, ms_sA_sA], fun i hi => ?_⟩
      have hV2 : ((ms_sA (ms_sA s 44 V) 44 (upd (upd ((ms_sA s 44 V).2.1 44) 0 (nI (g.2.2.1 w))) 5 (nI w))).2.1 44) = upd (upd V 0 (nI (g.2.2.1 w))) 5 (nI w) := rfl
      rw [hV2]
      rcases (show i = 0 ∨ i = 1 ∨ i = 2 ∨ i = 3 ∨ i = 4 ∨ i = 5 ∨ i = 6 ∨ i = 7 ∨ i = 8 by omega) with rfl | rfl | rfl | rfl | rfl | rfl | rfl | rfl | rfl <;> simp [upd, gv1, hV, hc6, hd] <;> rfl
    · have hd : ¬ g.2.2.1 la = g.2.2.1 w := fun e => d (by rw [e])
      refine wO_some ⟨_, ms_sA_sA, fun i hi => ?_⟩
      have hV2 : ((ms_sA s 44 V).2.1 44) = V := rfl
      rw [hV2]
      rcases (show i = 0 ∨ i = 1 ∨ i = 2 ∨ i = 3 ∨ i = 4 ∨ i = 5 ∨ i = 6 ∨ i = 7 ∨ i = 8 by omega) with rfl | rfl | rfl | rfl | rfl | rfl | rfl | rfl | rfl <;> simp [upd, gv1, hV, hd] <;> simp [gv0, nI_0]
theorem m_law {g : gT} {lv : Nat} {s : ms_S} {V v2 : Nat → Int32} {k : Nat} {pl : Int32} (hT : MT g lv s) (hk : k < 4) (hp : pl = g_df k V) (hV : ∀ i, i < 9 → V i = v2 i) : wO (mf_lawTells (ms_sA s 44 V) (nI k) pl) (fun q => q.1 = g.2.2.2 k v2 ∧ msF gKs s q.2) := by
  subst hp
  have h1 := hT.2.2.2.2.2.2.2.2
  refine wO_mono (h1.2 (ms_sA s 44 V) ?_ k hk) ?_
  · exact gLq.of (fun j hj => (msF.sA (K := [44]) (s := s) (v := V) (by decide)).1 j (by revert j; decide))
  · rintro ⟨v, t⟩ ⟨e1, e2⟩
    refine ⟨?_, (msF.sA (K := gKs) (by decide)).tr (e2.wk (by decide))⟩
    rw [e1]
    exact h1.1 k hk _ _ hV
theorem m_pushesOf {g : gT} {lv : Nat} {s : ms_S} {l r sl tu la w : Nat} (h : MC g lv s l r sl tu la) (hw : w < g.1.2) : wO (mf_pushesOf s (nI w)) (fun q => q.1 = nI (gP g l r sl tu la w) ∧ msF gKs s q.2) := by
  unfold mf_pushesOf
  refine wO_bd (m_looksAt h hw) ?_
  rintro _ ⟨V, rfl, hV⟩
  refine wO_bd (m_law (k := 0) h.1 (by omega) rfl hV) ?_
  rintro ⟨v, t⟩ ⟨rfl, hF⟩
  refine wO_eq (gcl_w _ (M := 9) (by omega)) ?_
  exact wO_some ⟨rfl, hF⟩
theorem m_isBarred {g : gT} {lv : Nat} {s : ms_S} {l r sl tu la w : Nat} (h : MC g lv s l r sl tu la) (hw : w < g.1.2) : wO (mf_isBarred s (nI w)) (fun q => q.1 = (bif gX g l r sl tu la w then 1 else 0) ∧ msF gKs s q.2) := by
  unfold mf_isBarred
  refine wO_bd (m_looksAt h hw) ?_
  rintro _ ⟨V, rfl, hV⟩
  refine wO_bd (m_law (k := 3) h.1 (by omega) rfl hV) ?_
  rintro ⟨v, t⟩ ⟨rfl, hF⟩
  refine wO_ite (fun c => ?_) (fun c => ?_)
  · refine wO_some ⟨?_, hF⟩
    have e : gX g l r sl tu la w = false := decide_eq_false (Int32.not_lt.mpr c)
    rw [e]; rfl
  · refine wO_some ⟨?_, hF⟩
    have e : gX g l r sl tu la w = true := decide_eq_true (Int32.not_le.mp c)
    rw [e]; rfl
theorem m_restsNow {g : gT} {lv : Nat} {s : ms_S} {l r sl tu la : Nat} (h : MC g lv s l r sl tu la) : wO (mf_restsNow s) (fun q => q.1 = nI (gR g l r sl tu la) ∧ msF gKs s q.2) := by
  obtain ⟨hT, ⟨r0, r1, r2, r3, r4, b0, b1, b2⟩, hl, hr, hla⟩ := h
  unfold mf_restsNow
  rw [r1]
  refine wO_bd (m_looks hT r0 r2 r3 r4 b2 b1 hl hr) ?_
  rintro _ ⟨V, rfl, hV⟩
  refine wO_bd (m_law (k := 2) hT (by omega) rfl hV) ?_
  rintro ⟨v, t⟩ ⟨rfl, hF⟩
  refine wO_eq (gcl_w _ (M := 9) (by omega)) ?_
  exact wO_some ⟨rfl, hF⟩
theorem m_wagesOf {g : gT} {lv : Nat} {s : ms_S} {l r sl tu la on : Nat} (h : MC g lv s l r sl tu la) (hon : on ≤ 1) : wO (mf_wagesOf s (nI on)) (fun q => q.1 = nI (gW g l r sl on la) ∧ msF gKs s q.2) := by
  obtain ⟨hT, ⟨r0, r1, r2, r3, r4, b0, b1, b2⟩, hl, hr, hla⟩ := h
  unfold mf_wagesOf
  refine wO_bd (m_looks hT r0 r2 r3 r4 b2 hon hl hr) ?_
  rintro _ ⟨V, rfl, hV⟩
  refine wO_bd (m_law (k := 1) hT (by omega) rfl hV) ?_
  rintro ⟨v, t⟩ ⟨rfl, hF⟩
  refine wO_eq (gcl_w _ (M := 99) (by omega)) ?_
  exact wO_some ⟨rfl, hF⟩
