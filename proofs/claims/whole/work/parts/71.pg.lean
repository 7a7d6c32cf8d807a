/-! the game as numbers: a text's numbers and laws, a standing's number 14 * slope + 7 * turn + last (6: none) -/
abbrev gT : Type := (Nat × Nat) × (Nat → Nat) × (Nat → Nat) × (Nat → (Nat → Int32) → Int32)
def gv0 (g : gT) (l r sl tu la : Nat) : Nat → Int32 := fun i =>
  if i = 1 then nI (g.2.1 (if tu = 0 then l else r)) else if i = 2 then nI sl else if i = 3 then nI (if la = 6 then 0 else la + 1) else if i = 4 then nI tu else if i = 6 then nI (g.2.1 (if tu = 0 then r else l)) else if i = 7 then nI g.1.2 else 0
def gv1 (g : gT) (l r sl tu la w : Nat) : Nat → Int32 := fun i =>
  if i = 0 then nI (g.2.2.1 w) else if i = 5 then nI w else if i = 8 then nI (if la < 6 ∧ g.2.2.1 la = g.2.2.1 w then 1 else 0) else gv0 g l r sl tu la i
/-- a number held to 0 .. M -/
def gcl (x : Int32) (M : Nat) : Nat := if x < 0 then 0 else if nI M < x then M else x.toNatClampNeg
theorem gcl_le (x : Int32) (M : Nat) : gcl x M ≤ M ∨ 2 ^ 31 ≤ M := by
  unfold gcl
  by_cases h1 : x < 0
  · rw [if_pos h1]; exact Or.inl (Nat.zero_le _)
  · rw [if_neg h1]
    by_cases h2 : nI M < x
    · rw [if_pos h2]; exact Or.inl (Nat.le_refl _)
    · rw [if_neg h2]
      rcases Nat.lt_or_ge M (2 ^ 31) with hM | hM
      · obtain ⟨j, hj, rfl⟩ := nI_of h1
        rw [nI_ltI hM hj] at h2
        rw [nI_clamp hj]
        exact Or.inl (by omega)
      · exact Or.inr hM
theorem gcl_w (x : Int32) {M : Nat} (hM : M < 2 ^ 31) : mf_within x 0 (nI M) = some (nI (gcl x M)) := by
  unfold mf_within gcl
  by_cases h1 : x < 0
  · rw [if_neg (Int32.not_le.mpr h1), if_pos h1]; rfl
  · rw [if_pos (Int32.not_lt.mp h1), if_neg h1]
    by_cases h2 : nI M < x
    · rw [if_neg (Int32.not_le.mpr h2), if_pos h2]
    · rw [if_pos (Int32.not_lt.mp h2), if_neg h2]
      obtain ⟨j, hj, rfl⟩ := nI_of h1
      rw [nI_clamp hj]
def g_df (k : Nat) (v : Nat → Int32) : Int32 := if k = 0 then v 0 else if k = 1 then v 1 else 0
def gLF : List Nat := [18, 31, 32, 34, 35, 36, 37, 38, 40, 41]
/-- the live parts of the reference's laws are the same -/
def gLq (t s : ms_S) : Prop := t.1 18 = s.1 18 ∧ ∀ lv, lv ≤ 1 → s.1 18 = nI lv → (∀ j, j ∈ [31, 32] → ∀ i, i < 4 → t.2.1 j (4 * lv + i) = s.2.1 j (4 * lv + i)) ∧ (∀ j, j ∈ [34, 35, 36, 37, 38] → ∀ i, i < 130 → t.2.1 j (130 * lv + i) = s.2.1 j (130 * lv + i)) ∧ ∀ j, j ∈ [40, 41] → ∀ i, i < 420 → t.2.1 j (420 * lv + i) = s.2.1 j (420 * lv + i)
theorem gLq.of {s t : ms_S} (hF : ∀ j ∈ gLF, t.1 j = s.1 j ∧ t.2.1 j = s.2.1 j) : gLq t s := by
  have q1 : ∀ j, j ∈ [31, 32] → j ∈ gLF := by decide
  have q2 : ∀ j, j ∈ [34, 35, 36, 37, 38] → j ∈ gLF := by decide
  have q3 : ∀ j, j ∈ [40, 41] → j ∈ gLF := by decide
  exact ⟨(hF 18 (by decide)).1, fun lv _ _ => ⟨fun j hj i _ => by rw [(hF j (q1 j hj)).2], fun j hj i _ => by rw [(hF j (q2 j hj)).2], fun j hj i _ => by rw [(hF j (q3 j hj)).2]⟩⟩
theorem gLq.tr {s t u : ms_S} (h : gLq u t) (k : gLq t s) : gLq u s := ⟨h.1.trans k.1, fun lv hl h18 => by
  obtain ⟨a1, a2, a3⟩ := h.2 lv hl (k.1.trans h18)
  obtain ⟨b1, b2, b3⟩ := k.2 lv hl h18
  exact ⟨fun j hj i hi => (a1 j hj i hi).trans (b1 j hj i hi), fun j hj i hi => (a2 j hj i hi).trans (b2 j hj i hi), fun j hj i hi => (a3 j hj i hi).trans (b3 j hj i hi)⟩⟩
/-- the reference's laws answer as the text's -/
def ML (g : gT) (s : ms_S) : Prop := (∀ k, k < 4 → ∀ v v2 : Nat → Int32, (∀ i, i < 9 → v i = v2 i) → g.2.2.2 k v = g.2.2.2 k v2) ∧ ∀ s2 : ms_S, gLq s2 s → ∀ k, k < 4 → wO (mf_lawTells s2 (nI k) (g_df k (s2.2.1 44))) (fun q => q.1 = g.2.2.2 k (s2.2.1 44) ∧ msF [45, 46] s2 q.2)
/-- the reference's text -/
def MT (g : gT) (lv : Nat) (s : ms_S) : Prop := lv ≤ 1 ∧ s.1 18 = nI lv ∧ g.1.1 ≤ 5 ∧ g.1.2 ≤ 6 ∧ s.2.1 23 lv = nI g.1.1 ∧ s.2.1 25 lv = nI g.1.2 ∧ (∀ j, j < g.1.1 → s.2.1 24 (5 * lv + j) = nI (g.2.1 j) ∧ g.2.1 j ≤ 9) ∧ (∀ j, j < g.1.2 → s.2.1 26 (6 * lv + j) = nI (g.2.2.1 j) ∧ g.2.2.1 j ≤ 9) ∧ ML g s
def gTF : List Nat := [23, 24, 25, 26] ++ gLF
theorem ML.mq {g : gT} {s t : ms_S} (h : ML g s) (hq : gLq t s) : ML g t := ⟨h.1, fun s2 h2 => h.2 s2 (h2.tr hq)⟩
theorem ML.mv {g : gT} {s t : ms_S} (h : ML g s) (hF : ∀ j ∈ gLF, t.1 j = s.1 j ∧ t.2.1 j = s.2.1 j) : ML g t := h.mq (gLq.of hF)
theorem MT.mv {g : gT} {lv : Nat} {K : List Nat} {s t : ms_S} (h : MT g lv s) (hF : msF K s t) (hK : ∀ j ∈ gTF, ¬ j ∈ K) : MT g lv t := by
  obtain ⟨h1, h2, h3, h4, h5, h6, h7, h8, h9⟩ := h
  refine ⟨h1, (hF.i 18 (hK 18 (by decide))).trans h2, h3, h4, ?_, ?_, fun j hj => ?_, fun j hj => ?_, h9.mv (fun j hj => hF.1 j (hK j (List.mem_append_right _ hj)))⟩
  · rw [hF.a 23 (hK 23 (by decide))]; exact h5
  · rw [hF.a 25 (hK 25 (by decide))]; exact h6
  · rw [hF.a 24 (hK 24 (by decide))]; exact h7 j hj
  · rw [hF.a 26 (hK 26 (by decide))]; exact h8 j hj
/-- the row's standing and pair -/
def MR (s : ms_S) (l r sl tu la : Nat) : Prop := s.2.1 48 0 = nI sl ∧ s.2.1 48 1 = nI tu ∧ s.2.1 48 2 = nI la ∧ s.2.1 48 3 = nI l ∧ s.2.1 48 4 = nI r ∧ sl ≤ 20 ∧ tu ≤ 1 ∧ la ≤ 6
theorem MR.mv {K : List Nat} {s t : ms_S} {l r sl tu la : Nat} (h : MR s l r sl tu la) (hF : msF K s t) (hK : ¬ 48 ∈ K) : MR t l r sl tu la := by
  unfold MR
  rw [hF.a 48 hK]
  exact h
theorem m_looks {g : gT} {lv : Nat} {s : ms_S} {l r sl la on : Nat} (hT : MT g lv s) (h0 : s.2.1 48 0 = nI sl) (h2 : s.2.1 48 2 = nI la) (h3 : s.2.1 48 3 = nI l) (h4 : s.2.1 48 4 = nI r) (hla : la ≤ 6) (hon : on ≤ 1) (hl : l < g.1.1) (hr : r < g.1.1) : wO (mf_looks s (nI on)) (fun t => ∃ V : Nat → Int32, t = ms_sA s 44 V ∧ ∀ i, i < 9 → V i = gv0 g l r sl on la i) := by
  obtain ⟨t1, t2, t3, t4, t5, t6, t7, t8, t9⟩ := hT
  have e5 : ∀ j, (5 : Int32) * s.1 18 + nI j = nI (5 * lv + j) := fun j => by rw [t2]; exact (congrArg (· + nI j) (pu_mul 5 lv)).trans (nI_add _ _)
  have x3 : s.2.1 48 (3 + on) = nI (if on = 0 then l else r) := by
    rcases (show on = 0 ∨ on = 1 by omega) with rfl | rfl
    · exact h3
    · exact h4
  have x4 : s.2.1 48 (4 - on) = nI (if on = 0 then r else l) := by
    rcases (show on = 0 ∨ on = 1 by omega) with rfl | rfl
    · exact h4
    · exact h3
  have y1 : (if on = 0 then l else r) < g.1.1 := by split <;> assumption
  have y2 : (if on = 0 then r else l) < g.1.1 := by split <;> assumption
  unfold mf_looks
  refine wO_agv (k := 3 + on) (nI_add 3 on) (by omega) (by omega) x3 ?_
  refine wO_agv (k := 5 * lv + (if on = 0 then l else r)) (e5 _) (by omega) (by omega) (t7 _ y1).1 ?_
  have key : ∀ (k0 : Int32) (V : Nat → Int32), k0 = nI (if la = 6 then 0 else la + 1) → V 0 = 0 → V 1 = nI (g.2.1 (if on = 0 then l else r)) → V 2 = nI sl → wO (mf_looks_j48 (ms_sA s 44 V) (nI on) k0 3) (fun t => ∃ V : Nat → Int32, t = ms_sA s 44 V ∧ ∀ i, i < 9 → V i = gv0 g l r sl on la i) := by
    intro k0 V hk v0 v1 v2
    unfold mf_looks_j48
    refine wO_in (k := 3) rfl (by omega) (by omega) ?_
    refine wO_agv (k := 4 - on) (pu_sub (a := 4) (b := on) (by omega)) (by omega) (by omega) x4 ?_
    refine wO_agv (k := 5 * lv + (if on = 0 then r else l)) (e5 _) (by omega) (by omega) (t7 _ y2).1 ?_
    refine wO_agv (k := lv) t2 (by omega) (by omega) t6 ?_
    refine wO_some ⟨_, ms_sA_sA, fun i hi => ?_⟩
    have hV : ((ms_sA s 44 V).2.1 44) = V := rfl
    rw [hV, show (3 : Int32).toNatClampNeg = 3 from rfl]
    rcases (show i = 0 ∨ i = 1 ∨ i = 2 ∨ i = 3 ∨ i = 4 ∨ i = 5 ∨ i = 6 ∨ i = 7 ∨ i = 8 by omega) with rfl | rfl | rfl | rfl | rfl | rfl | rfl | rfl | rfl <;> simp [upd, gv0, v0, v1, v2, hk]
  refine wO_ite (fun c => ?_) (fun c => ?_)
  · have hc : la = 6 := by
      rw [h2] at c
      exact (nI_eq (by omega) (by omega)).mp c
    exact key 0 _ (by rw [if_pos hc]; rfl) (by simp [upd]) (by simp [upd]) (by simp [upd, h0])
  · have hc : ¬ la = 6 := by
      intro e
      rw [h2, e] at c
      exact c rfl
    exact key _ _ (by rw [if_neg hc, h2]; exact nI_1 la) (by simp [upd]) (by simp [upd]) (by simp [upd, h0])
