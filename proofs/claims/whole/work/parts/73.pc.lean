/-! the reference: who can say what; a turn taken -/
def gPO (s : ms_S) (po : Option (Nat × Nat)) (n : Nat) : Prop := match po with
  | none => s.2.1 48 3 = -2 ∧ s.2.1 48 4 = -2
  | some (l, r) => s.2.1 48 3 = nI l ∧ s.2.1 48 4 = nI r ∧ l < n ∧ r < n
/-- text, standing, pair or nobody, words left out -/
def MW (g : gT) (lv : Nat) (s : ms_S) (po : Option (Nat × Nat)) (wo sl tu la : Nat) : Prop := MT g lv s ∧ gPO s po g.1.1 ∧ s.1 50 = nI wo ∧ wo < 64 ∧ s.2.1 48 0 = nI sl ∧ s.2.1 48 1 = nI tu ∧ s.2.1 48 2 = nI la ∧ sl ≤ 20 ∧ tu ≤ 1 ∧ (la < g.1.2 ∨ la = 6)
theorem MW.mv {g : gT} {lv : Nat} {s t : ms_S} {po : Option (Nat × Nat)} {wo sl tu la : Nat} (h : MW g lv s po wo sl tu la) (hF : msF gKs s t) : MW g lv t po wo sl tu la := by
  obtain ⟨h1, h2, h3, h4, h5, h6, h7, h8⟩ := h
  have e := hF.a 48 (by decide)
  refine ⟨h1.mv hF (by decide), ?_, (hF.i 50 (by decide)).trans h3, h4, ?_, ?_, ?_, h8⟩
  · unfold gPO at h2 ⊢
    rw [e]; exact h2
  · rw [e]; exact h5
  · rw [e]; exact h6
  · rw [e]; exact h7
theorem MW.mc {g : gT} {lv : Nat} {s : ms_S} {l r wo sl tu la : Nat} (h : MW g lv s (some (l, r)) wo sl tu la) : MC g lv s l r sl tu la := by
  obtain ⟨h1, ⟨a, b, c, d⟩, h3, h4, h5, h6, h7, h8, h9, h10⟩ := h
  have := h1.2.2.2.1
  exact ⟨h1, ⟨h5, h6, h7, a, b, h8, h9, by omega⟩, c, d, h10⟩
def gCan (g : gT) (po : Option (Nat × Nat)) (wo sl tu la w : Nat) : Bool := match po with
  | none => false
  | some (l, r) => decide (0 < sl) && (decide (sl < 20) && (!decide (w = la) && (!wo.testBit w && !gX g l r sl tu la w)))
def gBs (f : Nat → Bool) : Nat → Nat
  | 0 => 0
  | n + 1 => gBs f n + (bif f n then 2 ^ n else 0)
theorem gBs_lt (f : Nat → Bool) : ∀ n, gBs f n < 2 ^ n
  | 0 => Nat.zero_lt_one
  | n + 1 => by
    have h := gBs_lt f n
    simp only [gBs, Nat.pow_succ]
    cases f n <;> simp only [cond_true, cond_false] <;> omega
theorem gBs_bit (f : Nat → Bool) (w : Nat) : ∀ n, (gBs f n).testBit w = (decide (w < n) && f w)
  | 0 => by simp [gBs]
  | n + 1 => by
    have h := gBs_bit f w n
    have hl := gBs_lt f n
    have e : gBs f (n + 1) = 2 ^ n * (bif f n then 1 else 0) + gBs f n := by simp only [gBs]; cases f n <;> simp <;> omega
    rw [e, Nat.testBit_two_pow_mul_add _ hl]
    by_cases hw : w < n
    · rw [if_pos hw, h]
      simp [hw, Nat.lt_succ_of_lt hw]
    · rw [if_neg hw]
      by_cases hwn : w = n
      · subst hwn
        cases f w <;> simp
      · have h2 : ¬ w < n + 1 := by omega
        have h3 : ∃ k, w - n = k + 1 := ⟨w - n - 1, by omega⟩
        obtain ⟨k, hk⟩ := h3
        rw [hk]
        cases f n <;> simp [h2, Nat.testBit_succ]
theorem pu_10 : ¬ (1 : Int32) = 0 := by decide
theorem pu_00 : (0 : Int32) = 0 := rfl
theorem pu_bit : ∀ B, B < 64 → ∀ w, w < 7 → ((nI B >>> (nI w &&& 31)) &&& 1) = (bif B.testBit w then 1 else 0) := by decide +kernel
theorem pu_or : ∀ i, i < 6 → ∀ B, B < 2 ^ i → nI B ||| ((1 : Int32) <<< (nI i &&& 31)) = nI (B + 2 ^ i) := by decide +kernel
theorem m_isAsleep {s : ms_S} {sl : Nat} (h : s.2.1 48 0 = nI sl) (hs : sl ≤ 20) : mf_isAsleep s = some ((bif decide (0 < sl) && decide (sl < 20) then 1 else 0), s) := by
  unfold mf_isAsleep
  rw [h]
  by_cases h1 : sl = 0
  · subst h1; rfl
  · rw [if_neg (nI_nle (by omega) (by omega))]
    by_cases h2 : sl = 20
    · subst h2; rfl
    · rw [if_neg (show ¬ (20 : Int32) ≤ nI sl from nI_ge (b := 20) (by omega) (by omega))]
      rw [decide_eq_true (show 0 < sl by omega), decide_eq_true (show sl < 20 by omega)]
      rfl
theorem m_areThere {s : ms_S} {po : Option (Nat × Nat)} {n : Nat} (h : gPO s po n) (hn : n ≤ 5) : mf_areThere s = some ((bif po.isSome then 1 else 0), s) := by
  unfold mf_areThere
  cases po with
  | none =>
    rw [h.1]; rfl
  | some p =>
    obtain ⟨l, r⟩ := p
    obtain ⟨h1, h2, h3, h4⟩ := h
    rw [h1, if_neg (nI_pos (by omega))]; rfl
theorem m_canSay {g : gT} {lv : Nat} {s : ms_S} {po : Option (Nat × Nat)} {wo sl tu la w : Nat} (h : MW g lv s po wo sl tu la) (hw : w < g.1.2) : wO (mf_canSay s (nI w)) (fun q => q.1 = (bif gCan g po wo sl tu la w then 1 else 0) ∧ msF gKs s q.2) := by
  obtain ⟨h1, h2, h3, h4, h5, h6, h7, h8, h9, h10⟩ := id h
  have hn6 := h1.2.2.2.1
  unfold mf_canSay
  refine wO_eq (m_areThere h2 h1.2.2.1) ?_
  cases po with
  | none => exact wO_some ⟨rfl, msF.rf⟩
  | some p =>
    obtain ⟨l, r⟩ := p
    refine wO_neg pu_10 ?_
    refine wO_eq (m_isAsleep h5 h8) ?_
    unfold gCan
    by_cases ha : (decide (0 < sl) && decide (sl < 20)) = true
    · rw [ha]
      rw [Bool.and_eq_true] at ha
      refine wO_neg pu_10 ?_
      simp only [ha.1, ha.2, Bool.true_and]
      refine wO_ite (fun c => ?_) (fun c => ?_)
      · have e : w = la := by
          rw [h7] at c
          exact (nI_eq (by omega) (by omega)).mp c
        rw [decide_eq_true e]
        exact wO_some ⟨rfl, msF.rf⟩
      · have e : ¬ w = la := fun e => c (by rw [h7, e])
        rw [decide_eq_false e]
        rw [h3, pu_bit wo h4 w (by omega)]
        cases hb : wo.testBit w with
        | true => exact wO_neg pu_10 (wO_some ⟨rfl, msF.rf⟩)
        | false =>
          refine wO_pos pu_00 ?_
          refine wO_bd (m_isBarred h.mc hw) ?_
          rintro ⟨v, t⟩ ⟨rfl, hF⟩
          cases gX g l r sl tu la w with
          | true => exact wO_neg pu_10 (wO_some ⟨rfl, hF⟩)
          | false => exact wO_pos pu_00 (wO_some ⟨rfl, hF⟩)
    · rw [Bool.not_eq_true] at ha
      rw [ha]
      refine wO_pos pu_00 (wO_some ⟨?_, msF.rf⟩)
      show (0 : Int32) = bif decide (0 < sl) && (decide (sl < 20) && (!decide (w = la) && (!wo.testBit w && !gX g l r sl tu la w))) then 1 else 0
      rw [← Bool.and_assoc, ha]
      rfl
theorem m_canBits {g : gT} {lv : Nat} {s : ms_S} {po : Option (Nat × Nat)} {wo sl tu la : Nat} (h : MW g lv s po wo sl tu la) : wO (mf_canBits s) (fun q => q.1 = nI (gBs (gCan g po wo sl tu la) g.1.2) ∧ msF gKs s q.2) := by
  have hn6 := h.1.2.2.2.1
  unfold mf_canBits
  refine wO_bd (Q := fun q => q.1 = nI (gBs (gCan g po wo sl tu la) g.1.2) ∧ msF gKs s q.2) ?_ (fun q hq => wO_some hq)
  refine wO_count (fun i q => q.1 = nI (gBs (gCan g po wo sl tu la) i) ∧ q.2.1 = nI i ∧ msF gKs s q.2.2) g.1.2 ?_ ?_ _ ⟨rfl, rfl, msF.rf⟩
  · rintro i ⟨w1, w2, s2⟩ hi ⟨e1, e2, hF⟩
    have e1 : w1 = nI (gBs (gCan g po wo sl tu la) i) := e1
    have e2 : w2 = nI i := e2
    subst e1; subst e2
    have h2 := h.mv hF
    unfold mf_canBits_l4
    refine wO_agv (k := lv) h2.1.2.1 (by have := h.1.1; omega) (by omega) h2.1.2.2.2.2.2.1 ?_
    refine wO_neg (nI_ge hi (by omega)) ?_
    refine wO_bd (m_canSay h2 hi) ?_
    rintro ⟨v, t⟩ ⟨rfl, hF2⟩
    cases hc : gCan g po wo sl tu la i with
    | false =>
      refine wO_pos pu_00 (wO_some ⟨?_, nI_1 i, hF.tr hF2⟩)
      show nI _ = nI _
      simp only [gBs, hc, cond_false, Nat.add_zero]
    | true =>
      refine wO_neg pu_10 (wO_some ⟨?_, nI_1 i, hF.tr hF2⟩)
      show nI _ ||| _ = nI _
      simp only [gBs, hc, cond_true]
      exact pu_or i (by omega) _ (gBs_lt _ i)
  · rintro ⟨w1, w2, s2⟩ ⟨e1, e2, hF⟩
    have e1 : w1 = nI (gBs (gCan g po wo sl tu la) g.1.2) := e1
    have e2 : w2 = nI g.1.2 := e2
    subst e1; subst e2
    have h2 := h.mv hF
    unfold mf_canBits_l4
    refine wO_agv (k := lv) h2.1.2.1 (by have := h.1.1; omega) (by omega) h2.1.2.2.2.2.2.1 ?_
    exact wO_pos (Int32.le_refl _) (wO_some ⟨rfl, hF⟩)
theorem pu_neg {a b : Nat} (h : a < b) (hb : b < 2 ^ 31) : nI a - nI b < 0 := by
  rw [Int32.lt_iff_toInt_lt, Int32.toInt_sub, nI_toInt (by omega), nI_toInt hb, Int.bmod_eq_of_le (by omega) (by omega)]
  show (a : Int) - b < 0
  omega
def gSl (g : gT) (l r sl tu la w : Nat) : Nat := if tu = 0 then min 20 (sl + gP g l r sl tu la w) else sl - gP g l r sl tu la w
def gSr (g : gT) (l r sl tu la : Nat) : Nat := if 10 ≤ sl then max 10 (sl - gR g l r sl tu la) else min 10 (sl + gR g l r sl tu la)
theorem gSl_le {g : gT} {l r sl tu la w : Nat} (h : sl ≤ 20) : gSl g l r sl tu la w ≤ 20 := by
  unfold gSl
  split <;> omega
theorem gSr_le {g : gT} {l r sl tu la : Nat} (h : sl ≤ 20) : gSr g l r sl tu la ≤ 20 := by
  unfold gSr
  split <;> omega
theorem gP_le (g : gT) (l r sl tu la w : Nat) : gP g l r sl tu la w ≤ 9 := by
  rcases gcl_le (g.2.2.2 0 (gv1 g l r sl tu la w)) 9 with h | h
  · exact h
  · exact absurd h (by decide)
theorem gR_le (g : gT) (l r sl tu la : Nat) : gR g l r sl tu la ≤ 9 := by
  rcases gcl_le (g.2.2.2 2 (gv0 g l r sl tu la)) 9 with h | h
  · exact h
  · exact absurd h (by decide)
/-- the row behind a turn -/
def gRw (row : Nat → Int32) (sl tu la : Nat) : Nat → Int32 := fun i => if i = 0 then nI sl else if i = 1 then nI tu else if i = 2 then nI la else row i
def gKr : List Nat := [44, 45, 46, 48]
theorem m_says {g : gT} {lv : Nat} {s : ms_S} {l r sl tu la w : Nat} (h : MC g lv s l r sl tu la) (hw : w < g.1.2) : wO (mf_says s (nI w)) (fun t => msF gKr s t ∧ t.2.1 48 = gRw (s.2.1 48) (gSl g l r sl tu la w) (1 - tu) w) := by
  obtain ⟨hT, ⟨r0, r1, r2, r3, r4, b0, b1, b2⟩, hl, hr, hla⟩ := id h
  have hp := gP_le g l r sl tu la w
  unfold mf_says
  refine wO_bd (m_pushesOf h hw) ?_
  rintro ⟨v, t⟩ ⟨rfl, hF⟩
  have e48 : t.2.1 48 = s.2.1 48 := hF.a 48 (by decide)
  have key : ∀ k0 : Int32, mf_within k0 0 (nI 20) = some (nI (gSl g l r sl tu la w)) → wO (mf_says_j25 t (nI w) k0 0) (fun t => msF gKr s t ∧ t.2.1 48 = gRw (s.2.1 48) (gSl g l r sl tu la w) (1 - tu) w) := by
    intro k0 hk
    unfold mf_says_j25
    refine wO_eq hk ?_
    refine wO_in (k := 0) rfl (by omega) (by omega) (wO_some ⟨(hF.wk (by decide)).tr (msF.sA (by decide)), ?_⟩)
    show upd (upd (upd (t.2.1 48) 0 _) 2 _) 1 ((1 : Int32) - upd (t.2.1 48) 0 _ 1) = _
    rw [e48, upd_ne (j := 1) (k := 0) (by omega), r1, show (1 : Int32) - nI tu = nI (1 - tu) from pu_sub (a := 1) b1]
    funext i
    unfold gRw upd
    by_cases h1 : i = 1
    · rw [if_pos h1]; simp [h1]
    · rw [if_neg h1]
      by_cases h2 : i = 2
      · rw [if_pos h2]; simp [h2]
      · rw [if_neg h2]
        by_cases h0 : i = 0
        · simp [h0]
        · simp [h0, h1, h2]
  refine wO_ite (fun c => ?_) (fun c => ?_)
  · have htu : tu = 0 := by
      rw [show t.2.1 48 1 = nI tu by rw [e48]; exact r1] at c
      exact (nI_eq (b := 0) (by omega) (by omega)).mp c
    refine key _ ?_
    rw [show t.2.1 48 0 = nI sl by rw [e48]; exact r0, nI_add, gcl_w _ (by omega)]
    congr 2
    unfold gcl gSl
    rw [if_neg (nI_pos (by omega)), if_pos htu]
    by_cases hm : sl + gP g l r sl tu la w ≤ 20
    · rw [if_neg (nI_nlt hm (by omega)), nI_clamp (by omega), Nat.min_eq_right hm]
    · rw [if_pos (nI_lt (by omega) (by omega)), Nat.min_eq_left (by omega)]
  · have htu : ¬ tu = 0 := by
      intro e
      rw [show t.2.1 48 1 = nI tu by rw [e48]; exact r1, e] at c
      exact c rfl
    refine key _ ?_
    rw [show t.2.1 48 0 = nI sl by rw [e48]; exact r0, gcl_w _ (by omega)]
    congr 2
    unfold gcl gSl
    rw [if_neg htu]
    by_cases hm : sl < gP g l r sl tu la w
    · rw [if_pos (pu_neg hm (by omega))]
      omega
    · rw [pu_sub (by omega), if_neg (nI_pos (by omega)), if_neg (nI_nlt (by omega) (by omega)), nI_clamp (by omega)]
theorem m_passes {g : gT} {lv : Nat} {s : ms_S} {l r sl tu la : Nat} (h : MC g lv s l r sl tu la) : wO (mf_passes s) (fun t => msF gKr s t ∧ t.2.1 48 = gRw (s.2.1 48) (gSr g l r sl tu la) (1 - tu) 6) := by
  obtain ⟨hT, ⟨r0, r1, r2, r3, r4, b0, b1, b2⟩, hl, hr, hla⟩ := id h
  have hp := gR_le g l r sl tu la
  unfold mf_passes
  refine wO_bd (m_restsNow h) ?_
  rintro ⟨v, t⟩ ⟨rfl, hF⟩
  have e48 : t.2.1 48 = s.2.1 48 := hF.a 48 (by decide)
  have e0 : t.2.1 48 0 = nI sl := by rw [e48]; exact r0
  have key : wO (mf_passes_j31 t (nI (gSr g l r sl tu la)) 0) (fun t => msF gKr s t ∧ t.2.1 48 = gRw (s.2.1 48) (gSr g l r sl tu la) (1 - tu) 6) := by
    unfold mf_passes_j31
    refine wO_in (k := 0) rfl (by omega) (by omega) (wO_some ⟨(hF.wk (by decide)).tr (msF.sA (by decide)), ?_⟩)
    show upd (upd (upd (t.2.1 48) 0 _) 2 _) 1 ((1 : Int32) - upd (t.2.1 48) 0 _ 1) = _
    rw [e48, upd_ne (j := 1) (k := 0) (by omega), r1, show (1 : Int32) - nI tu = nI (1 - tu) from pu_sub (a := 1) b1]
    funext i
    unfold gRw upd
    by_cases h1 : i = 1
    · rw [if_pos h1]; simp [h1]
    · rw [if_neg h1]
      by_cases h2 : i = 2
      · rw [if_pos h2]; simp [h2]; rfl
      · rw [if_neg h2]
        by_cases h0 : i = 0
        · simp [h0]
        · simp [h0, h1, h2]
  refine wO_ite (fun c => ?_) (fun c => ?_)
  · have hs : 10 ≤ sl := by
      rw [e0] at c
      exact (nI_leI (a := 10) (by omega) (by omega)).mp c
    refine wO_eq (x := nI (gSr g l r sl tu la)) ?_ key
    rw [e0]
    unfold mf_within gSr
    rw [if_pos hs, pu_sub (by omega)]
    by_cases hm : 10 ≤ sl - gR g l r sl tu la
    · rw [if_pos (show (10 : Int32) ≤ _ from nI_le (a := 10) hm (by omega)), if_pos (show _ ≤ (20 : Int32) from nI_le (b := 20) (by omega) (by omega)), Nat.max_eq_right hm]
    · rw [if_neg (show ¬ (10 : Int32) ≤ _ from nI_ge (b := 10) (by omega) (by omega)), Nat.max_eq_left (by omega)]
      rfl
  · have hs : ¬ 10 ≤ sl := by
      intro e
      rw [e0] at c
      exact c (nI_le (a := 10) e (by omega))
    refine wO_eq (x := nI (gSr g l r sl tu la)) ?_ key
    rw [e0]
    unfold mf_within gSr
    rw [if_neg hs, nI_add, if_pos (nI_pos' (by omega))]
    by_cases hm : sl + gR g l r sl tu la ≤ 10
    · rw [if_pos (show _ ≤ (10 : Int32) from nI_le (b := 10) hm (by omega)), Nat.min_eq_right hm]
    · rw [if_neg (show ¬ _ ≤ (10 : Int32) from nI_ge (a := 10) (by omega) (by omega)), Nat.min_eq_left (by omega)]
      rfl
