/-! the class: where each turn leads -/
/-- resting, whatever can be said -/
def gRs (g : gT) (po : Option (Nat × Nat)) (st : Nat) : Option Nat := match po with
  | none => none
  | some (l, r) => bif decide (0 < st / 14) && decide (st / 14 < 20) then some (14 * gSr g l r (st / 14) (st / 7 % 2) (st % 7) + 7 * (1 - st / 7 % 2) + 6) else none
/-- a standing's row of turns is worked out -/
def gOp (g : gT) (po : Option (Nat × Nat)) (can nx : Nat → Int32) (st : Nat) : Prop := can (gph st) = nI (gBs (gCan g po 0 (st / 14) (st / 7 % 2) (st % 7)) g.1.2) ∧ nx (7 * gph st + 6) = gE ((gRs g po st).map gph) ∧ ∀ w, w < g.1.2 → gCan g po 0 (st / 14) (st / 7 % 2) (st % 7) w = true → nx (7 * gph st + w) = gE ((gNx g po 0 st w).map gph)
def gCa (g : gT) (po : Option (Nat × Nat)) (can nx : Nat → Int32) : Prop := ∀ st, gSt g.1.2 st → can (gph st) = -1 ∨ gOp g po can nx st
def gPX (s : xs_S) (po : Option (Nat × Nat)) (n : Nat) : Prop := match po with
  | none => s.1 1873 = -1 ∧ s.1 1874 = -1
  | some (l, r) => s.1 1873 = nI l ∧ s.1 1874 = nI r ∧ l < n ∧ r < n
theorem x_hasPair {s : xs_S} {po : Option (Nat × Nat)} {n : Nat} (h : gPX s po n) (hn : n ≤ 5) : xf_1_hasPair s = some ((bif po.isSome then 1 else 0), s) := by
  unfold xf_1_hasPair
  cases po with
  | none => rw [h.1]; rfl
  | some p =>
    obtain ⟨l, r⟩ := p
    obtain ⟨h1, h2, h3, h4⟩ := h
    rw [h1, h2, if_neg (nI_pos (by omega)), if_neg (nI_pos (by omega))]; rfl
theorem gcl_x (x : Int32) {M : Nat} (hM : M < 2 ^ 31) : xf_11_within x (nI M) = some (nI (gcl x M)) := by
  unfold xf_11_within gcl
  by_cases h1 : x < 0
  · rw [if_neg (Int32.not_le.mpr h1), if_pos h1]; rfl
  · rw [if_pos (Int32.not_lt.mp h1), if_neg h1]
    by_cases h2 : nI M < x
    · rw [if_neg (Int32.not_le.mpr h2), if_pos h2]
    · rw [if_pos (Int32.not_lt.mp h2), if_neg h2]
      obtain ⟨j, hj, rfl⟩ := nI_of h1
      rw [nI_clamp hj]
theorem x_standing (a b c : Nat) : xf_11_standingOf (nI a) (nI b) (nI c) = some (nI (14 * a + 7 * b + c + 1)) := by
  unfold xf_11_standingOf
  rw [show nI a * (2 : Int32) = nI (a * 2) from pu_mul a 2, nI_add, show nI (a * 2 + b) * (7 : Int32) = nI ((a * 2 + b) * 7) from pu_mul _ 7, nI_add, nI_1]
  congr 2
  omega
theorem x_standingN (a b : Nat) : xf_11_standingOf (nI a) (nI b) (-1) = some (nI (14 * a + 7 * b)) := by
  unfold xf_11_standingOf
  rw [show nI a * (2 : Int32) = nI (a * 2) from pu_mul a 2, nI_add, show nI (a * 2 + b) * (7 : Int32) = nI ((a * 2 + b) * 7) from pu_mul _ 7, show nI ((a * 2 + b) * 7) + (-1 : Int32) + 1 = nI ((a * 2 + b) * 7) from by rw [Int32.add_assoc]; exact Int32.add_zero _]
  congr 2
  omega
theorem gph_w {a b w : Nat} (hb : b ≤ 1) (hw : w < 6) : gph (14 * a + 7 * b + w) = 14 * a + 7 * b + w + 1 := by
  unfold gph
  rw [if_neg (by omega)]
  omega
theorem gph_6 {a b : Nat} : gph (14 * a + 7 * b + 6) = 14 * a + 7 * b := by
  unfold gph
  rw [if_pos (by omega)]
  omega
theorem x_pushed {g : gT} {l r st w : Nat} (hs : st < 294) (hw : w < 6) : xf_1_pushed (nI (gph st)) (nI (gP g l r (st / 14) (st / 7 % 2) (st % 7) w)) (nI w) = some (nI (gph (14 * gSl g l r (st / 14) (st / 7 % 2) (st % 7) w + 7 * (1 - st / 7 % 2) + w))) := by
  have hp := gP_le g l r (st / 14) (st / 7 % 2) (st % 7) w
  refine wO_iff.mp ?_
  rw [gph_w (by omega) hw]
  unfold xf_1_pushed
  refine wO_eq (x_turn hs) ?_
  unfold gSl
  generalize gP g l r (st / 14) (st / 7 % 2) (st % 7) w = P at hp ⊢
  by_cases ht : st / 7 % 2 = 0
  · rw [if_pos ht]
    refine wO_pos (show nI (st / 7 % 2) = 0 by rw [ht]; rfl) ?_
    unfold xf_1_pushed_j6
    refine wO_eq (x_slope hs) ?_
    refine wO_neg pu_10 ?_
    unfold xf_1_pushed_j15
    rw [nI_add]
    refine wO_eq (gcl_x _ (M := 20) (by omega)) ?_
    refine wO_neg pu_10 ?_
    unfold xf_1_pushed_j25
    refine wO_eq (x_standing _ 1 w) (wO_some ?_)
    congr 1
    unfold gcl
    rw [if_neg (nI_pos (by omega))]
    by_cases hm : st / 14 + P ≤ 20
    · rw [if_neg (nI_nlt hm (by omega)), nI_clamp (by omega), Nat.min_eq_right hm]; omega
    · rw [if_pos (nI_lt (by omega) (by omega)), Nat.min_eq_left (by omega)]; omega
  · rw [if_neg ht]
    refine wO_neg (show ¬ nI (st / 7 % 2) = 0 by rw [show st / 7 % 2 = 1 by omega]; decide) ?_
    unfold xf_1_pushed_j6
    refine wO_eq (x_slope hs) ?_
    refine wO_pos pu_00 ?_
    unfold xf_1_pushed_j15
    rw [← Int32.sub_eq_add_neg]
    refine wO_eq (gcl_x _ (M := 20) (by omega)) ?_
    refine wO_pos pu_00 ?_
    unfold xf_1_pushed_j25
    refine wO_eq (x_standing _ 0 w) (wO_some ?_)
    congr 1
    unfold gcl
    by_cases hm : st / 14 < P
    · rw [if_pos (pu_neg hm (by omega))]; omega
    · rw [pu_sub (by omega), if_neg (nI_pos (by omega)), if_neg (nI_nlt (by omega) (by omega)), nI_clamp (by omega)]; omega
theorem pu_max {a b : Nat} (ha : a < 2 ^ 31) (hb : b < 2 ^ 31) : mm_max (nI a) (nI b) = nI (max a b) := by
  unfold mm_max
  by_cases h : a < b
  · rw [if_pos (nI_lt h hb), Nat.max_eq_right (by omega)]
  · rw [if_neg (nI_nlt (by omega) ha), Nat.max_eq_left (by omega)]
theorem pu_min {a b : Nat} (ha : a < 2 ^ 31) (hb : b < 2 ^ 31) : mm_min (nI a) (nI b) = nI (min a b) := by
  unfold mm_min
  by_cases h : b < a
  · rw [if_pos (nI_lt h ha), Nat.min_eq_right (by omega)]
  · rw [if_neg (nI_nlt (by omega) hb), Nat.min_eq_left (by omega)]
theorem x_rested {g : gT} {l r st : Nat} (hs : st < 294) : xf_1_rested (nI (gph st)) (nI (gR g l r (st / 14) (st / 7 % 2) (st % 7))) = some (nI (gph (14 * gSr g l r (st / 14) (st / 7 % 2) (st % 7) + 7 * (1 - st / 7 % 2) + 6))) := by
  have hp := gR_le g l r (st / 14) (st / 7 % 2) (st % 7)
  refine wO_iff.mp ?_
  rw [gph_6]
  unfold xf_1_rested gSr
  generalize gR g l r (st / 14) (st / 7 % 2) (st % 7) = P at hp ⊢
  have j17 : ∀ x : Nat, wO (xf_1_rested_j17 (nI (gph st)) (nI x)) (fun y => y = nI (14 * x + 7 * (1 - st / 7 % 2))) := by
    intro x
    unfold xf_1_rested_j17
    refine wO_eq (x_turn hs) ?_
    by_cases ht : st / 7 % 2 = 0
    · refine wO_pos (show nI (st / 7 % 2) = 0 by rw [ht]; rfl) ?_
      unfold xf_1_rested_j25
      refine wO_eq (x_standingN x 1) (wO_some ?_)
      rw [ht]
    · refine wO_neg (show ¬ nI (st / 7 % 2) = 0 by rw [show st / 7 % 2 = 1 by omega]; decide) ?_
      unfold xf_1_rested_j25
      refine wO_eq (x_standingN x 0) (wO_some ?_)
      rw [show st / 7 % 2 = 1 by omega]
  refine wO_eq (x_slope hs) ?_
  refine wO_ite (fun c => ?_) (fun c => ?_)
  · have hc : st / 14 ≤ 10 := (nI_leI (b := 10) (by omega) (by omega)).mp c
    rw [nI_add, show mm_min (10 : Int32) (nI (st / 14 + P)) = nI (min 10 (st / 14 + P)) from pu_min (a := 10) (by omega) (by omega)]
    refine wO_mono (j17 _) (fun y hy => hy.trans ?_)
    congr 1
    by_cases h10 : 10 ≤ st / 14
    · rw [if_pos h10]; omega
    · rw [if_neg h10]
  · have hc : ¬ st / 14 ≤ 10 := fun e => c (nI_le (b := 10) e (by omega))
    rw [pu_sub (by omega), show mm_max (10 : Int32) (nI (st / 14 - P)) = nI (max 10 (st / 14 - P)) from pu_max (a := 10) (by omega) (by omega)]
    refine wO_mono (j17 _) (fun y hy => hy.trans ?_)
    rw [if_pos (by omega)]
