/-! the class: its text and laws -/
def xsF (Ki Ka : List Nat) (s t : xs_S) : Prop := (∀ j, ¬ j ∈ Ki → t.1 j = s.1 j) ∧ (∀ j, ¬ j ∈ Ka → t.2.1 j = s.2.1 j) ∧ t.2.2.1 = s.2.2.1 ∧ t.2.2.2 = s.2.2.2
theorem xsF.rf {Ki Ka : List Nat} {s : xs_S} : xsF Ki Ka s s := ⟨fun _ _ => rfl, fun _ _ => rfl, rfl, rfl⟩
theorem xsF.tr {Ki Ka : List Nat} {s t u : xs_S} (h : xsF Ki Ka s t) (h2 : xsF Ki Ka t u) : xsF Ki Ka s u := ⟨fun j hj => (h2.1 j hj).trans (h.1 j hj), fun j hj => (h2.2.1 j hj).trans (h.2.1 j hj), h2.2.2.1.trans h.2.2.1, h2.2.2.2.trans h.2.2.2⟩
theorem xsF.wk {Ki Ka Ki2 Ka2 : List Nat} {s t : xs_S} (h : xsF Ki Ka s t) (h1 : ∀ j ∈ Ki, j ∈ Ki2) (h2 : ∀ j ∈ Ka, j ∈ Ka2) : xsF Ki2 Ka2 s t := ⟨fun j hj => h.1 j (fun h3 => hj (h1 j h3)), fun j hj => h.2.1 j (fun h3 => hj (h2 j h3)), h.2.2⟩
theorem xsF.sI {Ki Ka : List Nat} {s : xs_S} {j : Nat} {v : Int32} (h : j ∈ Ki) : xsF Ki Ka s (xs_sI s j v) := ⟨fun i hi => mm_up_ne (fun e => hi (e ▸ h)), fun _ _ => rfl, rfl, rfl⟩
theorem xsF.sA {Ki Ka : List Nat} {s : xs_S} {j : Nat} {v : Nat → Int32} (h : j ∈ Ka) : xsF Ki Ka s (xs_sA s j v) := ⟨fun _ _ => rfl, fun i hi => mm_up_ne (fun e => hi (e ▸ h)), rfl, rfl⟩
theorem xs_sA_sA {s : xs_S} {j : Nat} {a b : Nat → Int32} : xs_sA (xs_sA s j a) j b = xs_sA s j b := by
  unfold xs_sA
  rw [mm_up_up]
/-- a standing's number in the class -/
def gph (st : Nat) : Nat := 7 * (st / 7) + (if st % 7 = 6 then 0 else st % 7 + 1)
theorem gph_lt {st : Nat} (h : st < 294) : gph st < 294 := by
  unfold gph
  split <;> omega
theorem gph_14 (st : Nat) : gph st / 14 = st / 14 := by
  unfold gph
  split <;> omega
theorem gph_7 (st : Nat) : gph st / 7 = st / 7 := by
  unfold gph
  split <;> omega
theorem gph_m (st : Nat) : gph st % 7 = if st % 7 = 6 then 0 else st % 7 + 1 := by
  unfold gph
  split <;> omega
theorem gph_inj {a b : Nat} (h : gph a = gph b) : a = b := by
  have h7 := gph_7 a
  have h8 := gph_7 b
  have h1 := gph_m a
  have h2 := gph_m b
  rw [h] at h7 h1
  have h9 : a % 7 < 7 := Nat.mod_lt _ (by omega)
  have h10 : b % 7 < 7 := Nat.mod_lt _ (by omega)
  split at h1 <;> split at h2 <;> omega
theorem x_slope {st : Nat} (h : st < 294) : xf_11_slopeOf (nI (gph st)) = some (nI (st / 14)) := by
  have := gph_lt h
  unfold xf_11_slopeOf
  rw [show nI (gph st) / (14 : Int32) = nI (gph st / 14) from pu_div (b := 14) (by omega) (by omega), gph_14]
theorem x_turn {st : Nat} (h : st < 294) : xf_11_turnOf (nI (gph st)) = some (nI (st / 7 % 2)) := by
  have := gph_lt h
  unfold xf_11_turnOf
  rw [show nI (gph st) / (7 : Int32) = nI (gph st / 7) from pu_div (b := 7) (by omega) (by omega), gph_7, show nI (st / 7) / (2 : Int32) = nI (st / 7 / 2) from pu_div (b := 2) (by omega) (by omega), show nI (st / 7 / 2) * (2 : Int32) = nI (st / 7 / 2 * 2) from pu_mul _ 2, pu_sub (by omega)]
  congr 2
  omega
/-- the last word, -1: none -/
def gLa (la : Nat) : Int32 := if la = 6 then -1 else nI la
theorem x_last {st : Nat} (h : st < 294) : xf_11_lastOf (nI (gph st)) = some (gLa (st % 7)) := by
  have := gph_lt h
  unfold xf_11_lastOf gLa
  rw [pu_mod7 (by omega), gph_m]
  by_cases h6 : st % 7 = 6
  · rw [if_pos h6, if_pos h6]; rfl
  · rw [if_neg h6, if_neg h6]
    exact congrArg some (nI_pred _)
theorem x_awake {st : Nat} (h : st < 294) : xf_11_isAwake (nI (gph st)) = some (bif decide (0 < st / 14) && decide (st / 14 < 20) then 0 else 1) := by
  unfold xf_11_isAwake
  rw [x_slope h]
  show (if nI (st / 14) ≤ (0 : Int32) then _ else _) = _
  by_cases h1 : st / 14 = 0
  · rw [h1]; rfl
  · rw [if_neg (nI_nle (by omega) (by omega)), decide_eq_true (show 0 < st / 14 by omega)]
    by_cases h2 : st / 14 < 20
    · rw [if_pos (show nI (st / 14) < (20 : Int32) from nI_lt (b := 20) h2 (by omega)), decide_eq_true h2]; rfl
    · rw [if_neg (show ¬ nI (st / 14) < (20 : Int32) from nI_nlt (b := 20) (by omega) (by omega)), decide_eq_false h2]; rfl
/-- the class's laws answer as the text's -/
def XL (g : gT) (s : xs_S) : Prop := (∀ k, k < 4 → ∀ v v2 : Nat → Int32, (∀ i, i < 9 → v i = v2 i) → g.2.2.2 k v = g.2.2.2 k v2) ∧ ∀ s2 : xs_S, s2.1 193 = s.1 193 → s2.2.1 13 = s.2.1 13 → s2.2.1 14 = s.2.1 14 → ∀ k, k < 4 → wO (xf_3_value_12 s2 (nI k)) (fun q => q.1 = g.2.2.2 k (s2.2.1 15) ∧ xsF [] [16] s2 q.2)
def XT (g : gT) (s : xs_S) : Prop := g.1.1 ≤ 5 ∧ g.1.2 ≤ 6 ∧ s.1 147 = nI g.1.1 ∧ s.1 148 = nI g.1.2 ∧ (∀ j, j < g.1.1 → s.2.1 10 j = nI (g.2.1 j) ∧ g.2.1 j ≤ 9) ∧ (∀ j, j < g.1.2 → s.2.1 11 j = nI (g.2.2.1 j) ∧ g.2.2.1 j ≤ 9) ∧ XL g s
def xTi : List Nat := [147, 148, 193]
def xTa : List Nat := [10, 11, 13, 14]
theorem XT.mv {g : gT} {Ki Ka : List Nat} {s t : xs_S} (h : XT g s) (hF : xsF Ki Ka s t) (h1 : ∀ j ∈ xTi, ¬ j ∈ Ki) (h2 : ∀ j ∈ xTa, ¬ j ∈ Ka) : XT g t := by
  obtain ⟨a1, a2, a3, a4, a5, a6, a7⟩ := h
  refine ⟨a1, a2, (hF.1 147 (h1 147 (by decide))).trans a3, (hF.1 148 (h1 148 (by decide))).trans a4, fun j hj => ?_, fun j hj => ?_, a7.1, fun s2 b1 b2 b3 => a7.2 s2 (b1.trans (hF.1 193 (h1 193 (by decide)))) (b2.trans (hF.2.1 13 (h2 13 (by decide)))) (b3.trans (hF.2.1 14 (h2 14 (by decide))))⟩
  · rw [hF.2.1 10 (h2 10 (by decide))]; exact a5 j hj
  · rw [hF.2.1 11 (h2 11 (by decide))]; exact a6 j hj
theorem x_hasWord {s : xs_S} {n w : Nat} (h : s.1 148 = nI n) (hn : n ≤ 6) (hw : w < 2 ^ 31) : xf_7_hasWord_9 s (nI w) = some ((bif decide (w < n) then 1 else 0), s) := by
  unfold xf_7_hasWord_9
  rw [if_neg (nI_pos hw), h]
  by_cases hc : w < n
  · rw [if_neg (nI_ge hc (by omega)), decide_eq_true hc]; rfl
  · rw [if_pos (nI_le (by omega) hw), decide_eq_false hc]; rfl
theorem x_hasWordN {s : xs_S} {w : Int32} (h : w < 0) : xf_7_hasWord_9 s w = some (0, s) := by
  unfold xf_7_hasWord_9
  rw [if_pos h]
theorem x_hasSpeaker {s : xs_S} {n w : Nat} (h : s.1 147 = nI n) (hn : n ≤ 5) (hw : w < 2 ^ 31) : xf_7_hasSpeaker_9 s (nI w) = some ((bif decide (w < n) then 1 else 0), s) := by
  unfold xf_7_hasSpeaker_9
  rw [if_neg (nI_pos hw), h]
  by_cases hc : w < n
  · rw [if_neg (nI_ge hc (by omega)), decide_eq_true hc]; rfl
  · rw [if_pos (nI_le (by omega) hw), decide_eq_false hc]; rfl
theorem x_tongue {g : gT} {s : xs_S} {l : Nat} (h : XT g s) (hl : l < g.1.1) : xf_7_tongueOf_9 s (nI l) = some (nI (g.2.1 l), s) := by
  obtain ⟨a1, a2, a3, a4, a5, a6, a7⟩ := h
  refine wO_iff.mp ?_
  unfold xf_7_tongueOf_9
  refine wO_eq (x_hasSpeaker a3 a1 (by omega)) ?_
  rw [decide_eq_true hl]
  exact wO_neg pu_10 (wO_agv (k := l) rfl (by omega) (by omega) (a5 l hl).1 (wO_some rfl))
/-- the vars of a law: w = none: of no word -/
def gvo (g : gT) (l r sl tu la : Nat) (w : Option Nat) : Nat → Int32 := match w with
  | none => gv0 g l r sl tu la
  | some w => gv1 g l r sl tu la w
def gWd (w : Option Nat) : Int32 := match w with
  | none => -1
  | some w => nI w
theorem x_lawOf {g : gT} {s : xs_S} {k l r st : Nat} {w : Option Nat} (h : XT g s) (hk : k < 4) (hl : l < g.1.1) (hr : r < g.1.1) (hs : gSt g.1.2 st) (hw : ∀ x, w = some x → x < g.1.2) : wO (xf_7_lawOf_9 s (nI k) (nI l) (nI r) (nI (gph st)) (gWd w)) (fun q => q.1 = g.2.2.2 k (gvo g l r (st / 14) (st / 7 % 2) (st % 7) w) ∧ xsF [] [15, 16] s q.2) := by
  obtain ⟨a1, a2, a3, a4, a5, a6, a7⟩ := id h
  obtain ⟨hst, hla⟩ := hs
  have mvA : ∀ V : Nat → Int32, XT g (xs_sA s 15 V) := fun V => h.mv (Ki := []) (Ka := [15]) (xsF.sA (by decide)) (by decide) (by decide)
  -- the end
  have fin : ∀ (V : Nat → Int32), (∀ i, i < 9 → V i = gvo g l r (st / 14) (st / 7 % 2) (st % 7) w i) → wO ((xf_3_value_12 (xs_sA s 15 V) (nI k)).bind fun (v_20, s_20) => some (v_20, s_20)) (fun q => q.1 = g.2.2.2 k (gvo g l r (st / 14) (st / 7 % 2) (st % 7) w) ∧ xsF [] [15, 16] s q.2) := by
    intro V hV
    refine wO_bd (a7.2 (xs_sA s 15 V) rfl rfl rfl k hk) ?_
    rintro ⟨v, t⟩ ⟨rfl, hF⟩
    refine wO_some ⟨a7.1 k hk _ _ hV, (xsF.sA (by decide)).tr (hF.wk (by decide) (by decide))⟩
  have j101 : ∀ (V : Nat → Int32) (k0 : Int32), (∀ i, i < 8 → V i = gvo g l r (st / 14) (st / 7 % 2) (st % 7) w i) → k0 = gvo g l r (st / 14) (st / 7 % 2) (st % 7) w 8 → wO (xf_7_lawOf_9_j101 (xs_sA s 15 V) (nI k) k0 8) (fun q => q.1 = g.2.2.2 k (gvo g l r (st / 14) (st / 7 % 2) (st % 7) w) ∧ xsF [] [15, 16] s q.2) := by
    intro V k0 hV hk0
    unfold xf_7_lawOf_9_j101
    refine wO_in (k := 8) rfl (by omega) (by omega) ?_
    rw [xs_sA_sA]
    refine fin _ (fun i hi => ?_)
    show upd V 8 k0 i = _
    by_cases h8 : i = 8
    · subst h8; rw [upd_eq]; exact hk0
    · rw [upd_ne h8]; exact hV i (by omega)
  -- of a word or not
  have gv8 : w = none → gvo g l r (st / 14) (st / 7 % 2) (st % 7) w 8 = 0 := by
    rintro rfl
    simp [gvo, gv0]
  have j74 : ∀ (V : Nat → Int32) (v8 : Int32) (q : Nat), q < g.1.1 → nI (g.2.1 q) = gvo g l r (st / 14) (st / 7 % 2) (st % 7) w 6 → (∀ i, i < 6 → V i = gvo g l r (st / 14) (st / 7 % 2) (st % 7) w i) → v8 = (bif w.isSome then 1 else 0) → wO (xf_7_lawOf_9_j74 (xs_sA s 15 V) (nI k) (gWd w) (gLa (st % 7)) v8 (nI q) 6) (fun q => q.1 = g.2.2.2 k (gvo g l r (st / 14) (st / 7 % 2) (st % 7) w) ∧ xsF [] [15, 16] s q.2) := by
    intro V v8 q hq hq6 hV h8
    unfold xf_7_lawOf_9_j74
    refine wO_eq (x_tongue (mvA V) hq) ?_
    refine wO_in (k := 6) rfl (by omega) (by omega) ?_
    have hV7 : ∀ i, i < 8 → upd (upd V 6 (nI (g.2.1 q))) 7 (s.1 148) i = gvo g l r (st / 14) (st / 7 % 2) (st % 7) w i := by
      intro i hi
      by_cases h7 : i = 7
      · subst h7
        rw [upd_eq, a4]
        cases w <;> simp [gvo, gv1, gv0]
      · rw [upd_ne h7]
        by_cases h6 : i = 6
        · subst h6; rw [upd_eq]; exact hq6
        · rw [upd_ne h6]; exact hV i (by omega)
    have hst2 : xs_sA (xs_sA s 15 V) 15 (upd (upd ((xs_sA s 15 V).2.1 15) (6 : Int32).toNatClampNeg (nI (g.2.1 q))) 7 ((xs_sA s 15 V).1 148)) = xs_sA s 15 (upd (upd V 6 (nI (g.2.1 q))) 7 (s.1 148)) := xs_sA_sA
    rw [hst2]
    cases w with
    | none =>
      refine wO_pos h8 ?_
      unfold xf_7_lawOf_9_j100
      exact j101 _ 0 hV7 (gv8 rfl).symm
    | some x =>
      have hx := hw x rfl
      refine wO_neg (by rw [h8]; exact pu_10) ?_
      by_cases h6 : st % 7 = 6
      · have e1 : gLa (st % 7) = -1 := if_pos h6
        rw [e1]
        refine wO_eq (x_hasWordN (by decide)) ?_
        refine wO_pos pu_00 ?_
        unfold xf_7_lawOf_9_j100
        exact j101 _ 0 hV7 (by simp [gvo, gv1, h6, nI_0])
      · have hlw : st % 7 < g.1.2 := by
          rcases hla with q2 | q2
          · exact q2
          · exact absurd q2 h6
        have e1 : gLa (st % 7) = nI (st % 7) := if_neg h6
        rw [e1]
        refine wO_eq (x_hasWord (n := g.1.2) a4 a2 (by omega)) ?_
        rw [decide_eq_true hlw]
        refine wO_neg pu_10 ?_
        refine wO_agv (k := st % 7) rfl (by omega) (by omega) (a6 _ hlw).1 ?_
        refine wO_agv (k := x) rfl (by omega) (by omega) (a6 _ hx).1 ?_
        have f1 := (a6 _ hlw).2
        have f2 := (a6 _ hx).2
        refine wO_ite (fun c => ?_) (fun c => ?_)
        · have hc := (nI_eq (by omega) (by omega)).mp c
          exact j101 _ 1 hV7 (by simp [gvo, gv1, hc]; rw [if_pos (by omega)]; rfl)
        · have hc : ¬ g.2.2.1 (st % 7) = g.2.2.1 x := fun e => c (by rw [e])
          unfold xf_7_lawOf_9_j100
          exact j101 _ 0 hV7 (by simp [gvo, gv1, hc, nI_0])
  have j65 : ∀ (V : Nat → Int32) (v6 v8 k0 : Int32), v6 = (if st / 7 % 2 = 0 then 1 else 0) → (∀ i, i < 5 → V i = gvo g l r (st / 14) (st / 7 % 2) (st % 7) w i) → v8 = (bif w.isSome then 1 else 0) → k0 = gvo g l r (st / 14) (st / 7 % 2) (st % 7) w 5 → wO (xf_7_lawOf_9_j65 (xs_sA s 15 V) (nI k) (nI l) (nI r) (gWd w) v6 (gLa (st % 7)) v8 k0 5) (fun q => q.1 = g.2.2.2 k (gvo g l r (st / 14) (st / 7 % 2) (st % 7) w) ∧ xsF [] [15, 16] s q.2) := by
    intro V v6 v8 k0 h6 hV h8 hk0
    unfold xf_7_lawOf_9_j65
    refine wO_in (k := 5) rfl (by omega) (by omega) ?_
    rw [xs_sA_sA]
    have hV5 : ∀ i, i < 6 → upd ((xs_sA s 15 V).2.1 15) (5 : Int32).toNatClampNeg k0 i = gvo g l r (st / 14) (st / 7 % 2) (st % 7) w i := by
      intro i hi
      show upd V 5 k0 i = _
      by_cases h5 : i = 5
      · subst h5; rw [upd_eq]; exact hk0
      · rw [upd_ne h5]; exact hV i (by omega)
    by_cases ht : st / 7 % 2 = 0
    · rw [if_pos ht] at h6
      refine wO_neg (by rw [h6]; exact pu_10) (j74 _ v8 r hr ?_ hV5 h8)
      cases w <;> simp [gvo, gv1, gv0, ht]
    · rw [if_neg ht] at h6
      refine wO_pos h6 (j74 _ v8 l hl ?_ hV5 h8)
      cases w <;> simp [gvo, gv1, gv0, ht]
  have j57 : ∀ (V : Nat → Int32) (v6 v8 k0 : Int32), v6 = (if st / 7 % 2 = 0 then 1 else 0) → (∀ i, i < 4 → V i = gvo g l r (st / 14) (st / 7 % 2) (st % 7) w i) → v8 = (bif w.isSome then 1 else 0) → k0 = gvo g l r (st / 14) (st / 7 % 2) (st % 7) w 4 → wO (xf_7_lawOf_9_j57 (xs_sA s 15 V) (nI k) (nI l) (nI r) (gWd w) v6 (gLa (st % 7)) v8 k0 4) (fun q => q.1 = g.2.2.2 k (gvo g l r (st / 14) (st / 7 % 2) (st % 7) w) ∧ xsF [] [15, 16] s q.2) := by
    intro V v6 v8 k0 h6 hV h8 hk0
    unfold xf_7_lawOf_9_j57
    refine wO_in (k := 4) rfl (by omega) (by omega) ?_
    rw [xs_sA_sA]
    have hV4 : ∀ i, i < 5 → upd ((xs_sA s 15 V).2.1 15) (4 : Int32).toNatClampNeg k0 i = gvo g l r (st / 14) (st / 7 % 2) (st % 7) w i := by
      intro i hi
      show upd V 4 k0 i = _
      by_cases h5 : i = 4
      · subst h5; rw [upd_eq]; exact hk0
      · rw [upd_ne h5]; exact hV i (by omega)
    cases w with
    | none =>
      refine wO_pos h8 (j65 _ v6 v8 0 h6 hV4 h8 ?_)
      simp [gvo, gv0]
    | some x =>
      refine wO_neg (by rw [h8]; exact pu_10) (j65 _ v6 v8 _ h6 hV4 h8 ?_)
      simp [gvo, gv1, gWd]
  have j37 : ∀ (V : Nat → Int32) (v6 v8 : Int32) (q : Nat), q < g.1.1 → nI (g.2.1 q) = gvo g l r (st / 14) (st / 7 % 2) (st % 7) w 1 → v6 = (if st / 7 % 2 = 0 then 1 else 0) → V 0 = gvo g l r (st / 14) (st / 7 % 2) (st % 7) w 0 → v8 = (bif w.isSome then 1 else 0) → wO (xf_7_lawOf_9_j37 (xs_sA s 15 V) (nI k) (nI l) (nI r) (nI (gph st)) (gWd w) v6 (gLa (st % 7)) v8 (nI q) 1) (fun q => q.1 = g.2.2.2 k (gvo g l r (st / 14) (st / 7 % 2) (st % 7) w) ∧ xsF [] [15, 16] s q.2) := by
    intro V v6 v8 q hq hq1 h6 hV h8
    unfold xf_7_lawOf_9_j37
    refine wO_eq (x_tongue (mvA V) hq) ?_
    refine wO_in (k := 1) rfl (by omega) (by omega) ?_
    refine wO_eq (x_slope hst) ?_
    have hV3 : ∀ i, i < 4 → upd (upd (upd ((xs_sA s 15 V).2.1 15) (1 : Int32).toNatClampNeg (nI (g.2.1 q))) 2 (nI (st / 14))) 3 (gLa (st % 7) + 1) i = gvo g l r (st / 14) (st / 7 % 2) (st % 7) w i := by
      intro i hi
      show upd (upd (upd V 1 _) 2 _) 3 _ i = _
      rcases (show i = 0 ∨ i = 1 ∨ i = 2 ∨ i = 3 by omega) with rfl | rfl | rfl | rfl
      · rw [upd_ne (by omega), upd_ne (by omega), upd_ne (by omega)]; exact hV
      · rw [upd_ne (by omega), upd_ne (by omega), upd_eq]; exact hq1
      · rw [upd_ne (by omega), upd_eq]; cases w <;> simp [gvo, gv1, gv0]
      · rw [upd_eq]
        have e : gLa (st % 7) + 1 = nI (if st % 7 = 6 then 0 else st % 7 + 1) := by
          unfold gLa
          by_cases h6 : st % 7 = 6
          · rw [if_pos h6, if_pos h6]; rfl
          · rw [if_neg h6, if_neg h6]; exact nI_1 _
        rw [e]
        cases w <;> simp [gvo, gv1, gv0]
    rw [xs_sA_sA]
    by_cases ht : st / 7 % 2 = 0
    · rw [if_pos ht] at h6
      refine wO_neg (by rw [h6]; exact pu_10) (j57 _ v6 v8 0 (by rw [if_pos ht]; exact h6) hV3 h8 ?_)
      cases w <;> simp [gvo, gv1, gv0, ht, nI_0]
    · rw [if_neg ht] at h6
      have ht1 : st / 7 % 2 = 1 := by omega
      refine wO_pos h6 (j57 _ v6 v8 1 (by rw [if_neg ht]; exact h6) hV3 h8 ?_)
      cases w <;> simp [gvo, gv1, gv0, ht1] <;> rfl
  have j28 : ∀ (v6 v8 k0 : Int32), v6 = (if st / 7 % 2 = 0 then 1 else 0) → v8 = (bif w.isSome then 1 else 0) → k0 = gvo g l r (st / 14) (st / 7 % 2) (st % 7) w 0 → wO (xf_7_lawOf_9_j28 s (nI k) (nI l) (nI r) (nI (gph st)) (gWd w) v6 (gLa (st % 7)) v8 k0 0) (fun q => q.1 = g.2.2.2 k (gvo g l r (st / 14) (st / 7 % 2) (st % 7) w) ∧ xsF [] [15, 16] s q.2) := by
    intro v6 v8 k0 h6 h8 hk0
    unfold xf_7_lawOf_9_j28
    refine wO_in (k := 0) rfl (by omega) (by omega) ?_
    by_cases ht : st / 7 % 2 = 0
    · rw [if_pos ht] at h6
      refine wO_neg (by rw [h6]; exact pu_10) (j37 _ v6 v8 l hl ?_ (by rw [if_pos ht]; exact h6) (by rw [show (0 : Int32).toNatClampNeg = 0 from rfl, upd_eq]; exact hk0) h8)
      cases w <;> simp [gvo, gv1, gv0, ht]
    · rw [if_neg ht] at h6
      refine wO_pos h6 (j37 _ v6 v8 r hr ?_ (by rw [if_neg ht]; exact h6) (by rw [show (0 : Int32).toNatClampNeg = 0 from rfl, upd_eq]; exact hk0) h8)
      cases w <;> simp [gvo, gv1, gv0, ht]
  have j6 : ∀ v6 : Int32, v6 = (if st / 7 % 2 = 0 then 1 else 0) → wO (xf_7_lawOf_9_j6 s (nI k) (nI l) (nI r) (nI (gph st)) (gWd w) v6) (fun q => q.1 = g.2.2.2 k (gvo g l r (st / 14) (st / 7 % 2) (st % 7) w) ∧ xsF [] [15, 16] s q.2) := by
    intro v6 h6
    unfold xf_7_lawOf_9_j6
    refine wO_eq (x_last hst) ?_
    cases w with
    | none =>
      refine wO_eq (x_hasWordN (by decide)) ?_
      exact wO_pos pu_00 (j28 v6 0 0 h6 rfl (by simp [gvo, gv0]))
    | some x =>
      have hx := hw x rfl
      refine wO_eq (x_hasWord (n := g.1.2) a4 a2 (by omega)) ?_
      rw [decide_eq_true hx]
      refine wO_neg pu_10 (wO_agv (k := x) rfl (by omega) (by omega) (a6 x hx).1 ?_)
      exact j28 v6 1 _ h6 rfl (by simp [gvo, gv1])
  unfold xf_7_lawOf_9
  refine wO_eq (x_turn hst) ?_
  by_cases ht : st / 7 % 2 = 0
  · exact wO_pos (show nI (st / 7 % 2) = 0 by rw [ht]; rfl) (j6 1 (by rw [if_pos ht]))
  · exact wO_neg (show ¬ nI (st / 7 % 2) = 0 by rw [show st / 7 % 2 = 1 by omega]; decide) (j6 0 (by rw [if_neg ht]))
