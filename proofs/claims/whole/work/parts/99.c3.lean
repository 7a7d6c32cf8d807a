/-! couples: the class -/
def gU (M0 : Int32) (A0 : Nat → Int32) (c : Nat) (A : Nat → Int32) (M : Int32) (R : Nat → Int32) : Prop := (M0 < nI c → M = nI c ∧ ∀ i, i < 5 → R i = A i) ∧ (¬ M0 < nI c → M = M0 ∧ ∀ i, i < 5 → R i = A0 i)
theorem gU_2 {M0 M1 M2 : Int32} {A0 A1 A2 R1 R2 : Nat → Int32} {c1 c2 : Nat} (h1 : c1 < 64) (h2 : c2 < 64) (h : gU M0 A0 c1 A1 M1 R1) (k : gU M1 R1 c2 A2 M2 R2) : (c1 < c2 → gU M0 A0 c2 A2 M2 R2) ∧ (¬ c1 < c2 → gU M0 A0 c1 A1 M2 R2) := by
  refine ⟨fun hc => ⟨fun q => ?_, fun q => ?_⟩, fun hc => ⟨fun q => ?_, fun q => ?_⟩⟩
  · refine k.1 ?_
    by_cases q1 : M0 < nI c1
    · rw [(h.1 q1).1]; exact nI_lt hc (by omega)
    · rw [(h.2 q1).1]; exact q
  · have q1 : ¬ M0 < nI c1 := fun q1 => q (Int32.lt_trans q1 (nI_lt hc (by omega)))
    obtain ⟨e1, e2⟩ := h.2 q1
    obtain ⟨e3, e4⟩ := k.2 (by rw [e1]; exact q)
    exact ⟨e3.trans e1, fun i hi => (e4 i hi).trans (e2 i hi)⟩
  · obtain ⟨e1, e2⟩ := h.1 q
    obtain ⟨e3, e4⟩ := k.2 (by rw [e1]; exact nI_nlt (by omega) (by omega))
    exact ⟨e3.trans e1, fun i hi => (e4 i hi).trans (e2 i hi)⟩
  · obtain ⟨e1, e2⟩ := h.2 q
    have q2 : ¬ M0 < nI c2 := fun q1 => q (Int32.lt_of_lt_of_le q1 (nI_le (by omega) (by omega)))
    obtain ⟨e3, e4⟩ := k.2 (by rw [e1]; exact q2)
    exact ⟨e3.trans e1, fun i hi => (e4 i hi).trans (e2 i hi)⟩
theorem gU_cg {M0 M1 M : Int32} {A0 A1 A B R R2 : Nat → Int32} {c d : Nat} (h : gU M0 A0 c A M R) (e1 : M1 = M0) (e2 : ∀ i, i < 5 → A1 i = A0 i) (e3 : d = c) (e4 : ∀ i, i < 5 → B i = A i) (e5 : ∀ i, i < 5 → R2 i = R i) : gU M1 A1 d B M R2 := by
  subst e1 e3
  exact ⟨fun q => ⟨(h.1 q).1, fun i hi => (e5 i hi).trans (((h.1 q).2 i hi).trans (e4 i hi).symm)⟩, fun q => ⟨(h.2 q).1, fun i hi => (e5 i hi).trans (((h.2 q).2 i hi).trans (e2 i hi).symm)⟩⟩
/-- the set of those not in a couple yet -/
def gSfr (n sp : Nat) (T : Nat → Int32) (S : Nat) : Prop := S < 32 ∧ ∀ i, i < 5 → (S.testBit i = true ↔ sp ≤ i ∧ i < n ∧ T i = -2)
theorem gS_0 : ∀ S, S < 32 → (∀ i, i < 5 → S.testBit i = false) → S = 0 := by decide +kernel
theorem gFo_lo {E : Nat → Nat → Bool} {cb : Nat → Nat} {S : Nat} : ∀ k, k ≤ gLw S + 1 → gFo E cb S k = none
  | 0, _ => rfl
  | k + 1, hk => by
    rw [gFo_1 (k := k), gFo_lo k (by omega)]
    cases ho : gOt E S k with
    | false => rfl
    | true => have := (gOt_ok ho).1; omega
theorem gFo_hi {E : Nat → Nat → Bool} {cb : Nat → Nat} {S n : Nat} (h : ∀ b, n ≤ b → b < 5 → S.testBit b = false) : ∀ j, n + j ≤ 5 → gFo E cb S (n + j) = gFo E cb S n
  | 0, _ => rfl
  | j + 1, hj => by
    refine (gFo_1 (k := n + j) ?_).trans (gFo_hi h j (by omega))
    unfold gOt
    rw [h (n + j) (by omega) (by omega), Bool.false_and, Bool.and_false]
def gAl (n : Nat) (E : Nat → Nat → Bool) (s : xs_S) : Prop := ∀ a b, a < b → b < n → s.2.1 135 (5 * a + b) = bif E a b then 1 else 0
def gMatch (n : Nat) (E : Nat → Nat → Bool) (p S : Nat) (s t : xs_S) : Prop := xsF [2148] [136, 137] s t ∧ (∀ i, i < 5 → t.2.1 136 i = s.2.1 136 i) ∧ gU (s.1 2148) (s.2.1 137) (p + gCp E S) (fun i => bif S.testBit i then gMa E S i else s.2.1 136 i) (t.1 2148) (t.2.1 137)
theorem x_matchF {n : Nat} {E : Nat → Nat → Bool} (hn : n ≤ 5) : ∀ (f sp p : Nat) (s : xs_S) (S : Nat), 6 ≤ f + sp → sp ≤ n → p ≤ sp → s.1 2147 = nI n → gAl n E s → gSfr n sp (s.2.1 136) S → wO (xf_4_matchFrom f s (nI sp) (nI p)) (gMatch n E p S s) := by
  intro f
  induction f with
  | zero =>
    intro sp p s S h1 h2
    exact absurd h1 (by omega)
  | succ f ih =>
    intro sp p s S h1 h2 hp h47 hal hS
    have hcl := gCp_le (E := E) S hS.1
    have hS32 := hS.1
    show wO (xg_4_matchFrom (xf_4_matchFrom f) s (nI sp) (nI p)) _
    unfold xg_4_matchFrom
    rw [h47]
    by_cases hsn : sp < n
    · refine wO_pos (nI_lt hsn (by omega)) (wO_agv (k := sp) rfl (by omega) (by omega) rfl ?_)
      by_cases hT : s.2.1 136 sp = -2
      · -- sp is free
        have hb : S.testBit sp = true := (hS.2 sp (by omega)).mpr ⟨by omega, hsn, hT⟩
        have h0 : ¬ S = 0 := fun e => by rw [e, Nat.zero_testBit] at hb; cases hb
        have hlw : gLw S = sp := gLw_of hS.1 (by omega) hb (fun i hi => by
          cases hc : S.testBit i with
          | false => rfl
          | true => have := ((hS.2 i (by omega)).mp hc).1; omega)
        have l0 := gRm_lt S hS.1 sp (by omega)
        have hi5 : ∀ b, n ≤ b → b < 5 → S.testBit b = false := fun b hb1 hb2 => by
          cases hc : S.testBit b with
          | false => rfl
          | true => have := ((hS.2 b hb2).mp hc).2.1; omega
        refine wO_pos hT ?_
        rw [nI_1]
        refine wO_bd (Q := fun u => xsF [2148] [136, 137] s u ∧ (∀ i, i < 5 → u.2.1 136 i = s.2.1 136 i) ∧ ((gFo E (gCp E) S 5 = none ∧ u.1 2148 = s.1 2148 ∧ ∀ i, i < 5 → u.2.1 137 i = s.2.1 137 i) ∨ ∃ b, gFo E (gCp E) S 5 = some b ∧ gU (s.1 2148) (s.2.1 137) (p + gVl (gCp E) S b) (fun i => if i = sp then nI b else if i = b then nI sp else bif (gRm (gRm S sp) b).testBit i then gMa E (gRm (gRm S sp) b) i else s.2.1 136 i) (u.1 2148) (u.2.1 137))) ?_ ?_
        · refine wO_count (fun (k : Nat) (q : Int32 × xs_S) => q.1 = nI (sp + 1 + k) ∧ xsF [2148] [136, 137] s q.2 ∧ (∀ i, i < 5 → q.2.2.1 136 i = s.2.1 136 i) ∧ ((gFo E (gCp E) S (sp + 1 + k) = none ∧ q.2.1 2148 = s.1 2148 ∧ ∀ i, i < 5 → q.2.2.1 137 i = s.2.1 137 i) ∨ ∃ b, gFo E (gCp E) S (sp + 1 + k) = some b ∧ gU (s.1 2148) (s.2.1 137) (p + gVl (gCp E) S b) (fun i => if i = sp then nI b else if i = b then nI sp else bif (gRm (gRm S sp) b).testBit i then gMa E (gRm (gRm S sp) b) i else s.2.1 136 i) (q.2.1 2148) (q.2.2.1 137))) (n - (sp + 1)) ?_ ?_ _ ⟨rfl, xsF.rf, fun _ _ => rfl, Or.inl ⟨gFo_lo _ (by omega), rfl, fun _ _ => rfl⟩⟩
          · rintro k ⟨w3, u⟩ hk ⟨e1, f1, t1, g1⟩
            have e1 : w3 = nI (sp + 1 + k) := e1
            have f1 : xsF [2148] [136, 137] s u := f1
            have t1 : ∀ i, i < 5 → u.2.1 136 i = s.2.1 136 i := t1
            have g1 : (gFo E (gCp E) S (sp + 1 + k) = none ∧ u.1 2148 = s.1 2148 ∧ ∀ i, i < 5 → u.2.1 137 i = s.2.1 137 i) ∨ ∃ b, gFo E (gCp E) S (sp + 1 + k) = some b ∧ gU (s.1 2148) (s.2.1 137) (p + gVl (gCp E) S b) (fun i => if i = sp then nI b else if i = b then nI sp else bif (gRm (gRm S sp) b).testBit i then gMa E (gRm (gRm S sp) b) i else s.2.1 136 i) (u.1 2148) (u.2.1 137) := g1
            subst e1
            generalize hb2 : sp + 1 + k = b at *
            have hbn : b < n := by omega
            have hsb : sp < b := by omega
            have ek : sp + 1 + (k + 1) = b + 1 := by omega
            rw [ek]
            have skip : gOt E S b = false → ((gFo E (gCp E) S (b + 1) = none ∧ u.1 2148 = s.1 2148 ∧ ∀ i, i < 5 → u.2.1 137 i = s.2.1 137 i) ∨ ∃ c, gFo E (gCp E) S (b + 1) = some c ∧ gU (s.1 2148) (s.2.1 137) (p + gVl (gCp E) S c) (fun i => if i = sp then nI c else if i = c then nI sp else bif (gRm (gRm S sp) c).testBit i then gMa E (gRm (gRm S sp) c) i else s.2.1 136 i) (u.1 2148) (u.2.1 137)) := fun ho => by
              rw [gFo_1 ho]
              exact g1
            unfold xg_4_matchFrom_l30 xg_4_matchFrom_j77
            dsimp only
            rw [(f1.1 2147 (by decide)).trans h47]
            refine wO_neg (nI_ge hbn (by omega)) (wO_agv (k := b) (v := s.2.1 136 b) rfl (by omega) (by omega) (t1 b (by omega)) ?_)
            by_cases hTb : s.2.1 136 b = -2
            · have hSb : S.testBit b = true := (hS.2 b (by omega)).mpr ⟨by omega, hbn, hTb⟩
              refine wO_pos hTb ?_
              have e5 : nI sp * (5 : Int32) + nI b = nI (5 * sp + b) := by
                rw [show nI sp * (5 : Int32) = nI (sp * 5) from pu_mul sp 5, nI_add]
                congr 1
                omega
              refine wO_agv (k := 5 * sp + b) (v := bif E sp b then 1 else 0) e5 (by omega) (by omega) (by rw [f1.2.1 135 (by decide)]; exact hal sp b hsb hbn) ?_
              cases hE : E sp b with
              | false =>
                have ho : gOt E S b = false := by
                  unfold gOt
                  rw [hlw, hE, Bool.and_false, Bool.and_false]
                exact wO_pos rfl (wO_some ⟨by rw [nI_1], f1, t1, skip ho⟩)
              | true =>
                have ho : gOt E S b = true := by
                  unfold gOt
                  rw [hlw, hE, hSb, decide_eq_true hsb]
                  rfl
                refine wO_neg pu_10 (wO_in (k := sp) rfl (by omega) (by omega) (wO_in (k := b) rfl (by omega) (by omega) ?_))
                rw [nI_clamp (show sp < 2 ^ 31 by omega), nI_clamp (show b < 2 ^ 31 by omega), nI_1 sp, nI_1 p]
                have f2 : xsF [2148] [136, 137] u (xs_sA u 136 (upd (upd (u.2.1 136) sp (nI b)) b (nI sp))) := xsF.sA (by decide)
                have S2 : gSfr n (sp + 1) (upd (upd (u.2.1 136) sp (nI b)) b (nI sp)) (gRm (gRm S sp) b) := by
                  refine ⟨gRm_lt _ l0 b (by omega), fun i hi => ?_⟩
                  rw [gRm_bit _ l0 b (by omega) i hi, gRm_bit S hS.1 sp (by omega) i hi, Bool.and_eq_true, Bool.and_eq_true, hS.2 i hi, Bool.not_eq_true', Bool.not_eq_true', decide_eq_false_iff_not, decide_eq_false_iff_not]
                  by_cases ib : i = b
                  · subst ib
                    rw [upd_eq]
                    exact ⟨fun q => absurd rfl q.2, fun q => absurd q.2.2 (pu_neg2 (by omega))⟩
                  · rw [upd_ne ib]
                    by_cases is : i = sp
                    · exact ⟨fun q => absurd is q.1.2, fun q => absurd q.1 (by omega)⟩
                    · rw [upd_ne is, t1 i hi]
                      exact ⟨fun q => ⟨by omega, q.1.1.2⟩, fun q => ⟨⟨⟨by omega, q.2⟩, is⟩, ib⟩⟩
                refine wO_bd (ih (sp + 1) (p + 1) (xs_sA u 136 (upd (upd (u.2.1 136) sp (nI b)) b (nI sp))) (gRm (gRm S sp) b) (by omega) (by omega) (by omega) ((f1.1 2147 (by decide)).trans h47) (fun a c hac hcn => (congrFun (f1.2.1 135 (by decide)) _).trans (hal a c hac hcn)) S2) ?_
                rintro t ⟨f3, t3, g3⟩
                refine wO_in (k := b) rfl (by omega) (by omega) (wO_in (k := sp) rfl (by omega) (by omega) ?_)
                rw [nI_1]
                have f4 : xsF [2148] [136, 137] t (xs_sA t 136 (upd (upd (t.2.1 136) b (-2)) sp (-2))) := xsF.sA (by decide)
                have g3 : gU (u.1 2148) (u.2.1 137) (p + 1 + gCp E (gRm (gRm S sp) b)) (fun i => bif (gRm (gRm S sp) b).testBit i then gMa E (gRm (gRm S sp) b) i else upd (upd (u.2.1 136) sp (nI b)) b (nI sp) i) (t.1 2148) (t.2.1 137) := g3
                have ec : p + gVl (gCp E) S b = p + 1 + gCp E (gRm (gRm S sp) b) := by
                  unfold gVl
                  rw [hlw]
                  omega
                have g4 : gU (u.1 2148) (u.2.1 137) (p + gVl (gCp E) S b) (fun i => if i = sp then nI b else if i = b then nI sp else bif (gRm (gRm S sp) b).testBit i then gMa E (gRm (gRm S sp) b) i else s.2.1 136 i) (t.1 2148) (t.2.1 137) := gU_cg g3 rfl (fun _ _ => rfl) ec (fun i hi => by
                  show (if i = sp then nI b else if i = b then nI sp else bif (gRm (gRm S sp) b).testBit i then gMa E (gRm (gRm S sp) b) i else s.2.1 136 i) = bif (gRm (gRm S sp) b).testBit i then gMa E (gRm (gRm S sp) b) i else upd (upd (u.2.1 136) sp (nI b)) b (nI sp) i
                  by_cases is : i = sp
                  · have : (gRm (gRm S sp) b).testBit i = false := by
                      rw [gRm_bit _ l0 b (by omega) i hi, gRm_bit S hS.1 sp (by omega) i hi, is, decide_eq_true rfl, Bool.not_true, Bool.and_false, Bool.false_and]
                    rw [this, if_pos is, upd_ne (by omega), is, upd_eq]
                    rfl
                  · rw [if_neg is]
                    by_cases ib : i = b
                    · have : (gRm (gRm S sp) b).testBit i = false := by
                        rw [gRm_bit _ l0 b (by omega) i hi, ib, decide_eq_true rfl, Bool.not_true, Bool.and_false]
                      rw [this, if_pos ib, ib, upd_eq]
                      rfl
                    · rw [if_neg ib, upd_ne ib, upd_ne is, t1 i hi]) (fun _ _ => rfl)
                refine wO_some ⟨rfl, f1.tr (f2.tr (f3.tr f4)), fun i hi => ?_, ?_⟩
                · show upd (upd (t.2.1 136) b (-2)) sp (-2) i = s.2.1 136 i
                  by_cases is : i = sp
                  · rw [is, upd_eq, hT]
                  · rw [upd_ne is]
                    by_cases ib : i = b
                    · rw [ib, upd_eq, hTb]
                    · rw [upd_ne ib, t3 i hi]
                      show upd (upd (u.2.1 136) sp (nI b)) b (nI sp) i = _
                      rw [upd_ne ib, upd_ne is]
                      exact t1 i hi
                · show (gFo E (gCp E) S (b + 1) = none ∧ t.1 2148 = s.1 2148 ∧ ∀ i, i < 5 → t.2.1 137 i = s.2.1 137 i) ∨ ∃ c, gFo E (gCp E) S (b + 1) = some c ∧ gU (s.1 2148) (s.2.1 137) (p + gVl (gCp E) S c) (fun i => if i = sp then nI c else if i = c then nI sp else bif (gRm (gRm S sp) c).testBit i then gMa E (gRm (gRm S sp) c) i else s.2.1 136 i) (t.1 2148) (t.2.1 137)
                  have hvb := gVl_lt (E := E) (b := b) hS.1 h0 (by omega)
                  rcases g1 with ⟨q1, q2, q3⟩ | ⟨c, q1, q2⟩
                  · exact Or.inr ⟨b, gFo_2 ho q1, gU_cg g4 q2.symm (fun i hi => (q3 i hi).symm) rfl (fun _ _ => rfl) (fun _ _ => rfl)⟩
                  · have hc5 : c < b := by
                      have := gFo_ok (E := E) (cb := gCp E) (S := S) b
                      unfold gFoP at this
                      rw [q1] at this
                      exact this.1
                    have hvc := gVl_lt (E := E) (b := c) hS.1 h0 (by omega)
                    obtain ⟨z1, z2⟩ := gU_2 (by omega) (by omega) q2 g4
                    by_cases hv : gVl (gCp E) S c < gVl (gCp E) S b
                    · exact Or.inr ⟨b, gFo_3 ho q1 hv, z1 (by omega)⟩
                    · exact Or.inr ⟨c, gFo_4 ho q1 hv, z2 (by omega)⟩
            · have ho : gOt E S b = false := by
                cases hc : S.testBit b with
                | true => exact absurd ((hS.2 b (by omega)).mp hc).2.2 hTb
                | false =>
                  unfold gOt
                  rw [hc, Bool.false_and, Bool.and_false]
              exact wO_neg hTb (wO_some ⟨by rw [nI_1], f1, t1, skip ho⟩)
          · rintro ⟨w3, u⟩ ⟨e1, f1, t1, g1⟩
            have en : sp + 1 + (n - (sp + 1)) = n := by omega
            have e1 : w3 = nI (sp + 1 + (n - (sp + 1))) := e1
            have f1 : xsF [2148] [136, 137] s u := f1
            rw [en] at e1 g1
            subst e1
            have h5 : gFo E (gCp E) S 5 = gFo E (gCp E) S n := by
              have := gFo_hi (E := E) (cb := gCp E) hi5 (5 - n) (by omega)
              rw [show n + (5 - n) = 5 by omega] at this
              exact this
            unfold xg_4_matchFrom_l30
            dsimp only
            rw [(f1.1 2147 (by decide)).trans h47]
            refine wO_pos (Int32.le_refl _) (wO_some ⟨f1, t1, ?_⟩)
            rw [h5]
            exact g1
        · rintro u ⟨f1, t1, g1⟩
          unfold xg_4_matchFrom_j79
          rw [nI_1]
          have S1 : gSfr n (sp + 1) (u.2.1 136) (gRm S sp) := by
            refine ⟨l0, fun i hi => ?_⟩
            rw [gRm_bit S hS.1 sp (by omega) i hi, Bool.and_eq_true, hS.2 i hi, Bool.not_eq_true', decide_eq_false_iff_not, t1 i hi]
            exact ⟨fun q => ⟨by omega, q.1.2⟩, fun q => ⟨⟨by omega, q.2⟩, by omega⟩⟩
          refine wO_bd (ih (sp + 1) p u (gRm S sp) (by omega) (by omega) (by omega) ((f1.1 2147 (by decide)).trans h47) (fun a c hac hcn => (congrFun (f1.2.1 135 (by decide)) _).trans (hal a c hac hcn)) S1) ?_
          rintro t ⟨f3, t3, g3⟩
          refine wO_some ⟨f1.tr f3, fun i hi => (t3 i hi).trans (t1 i hi), ?_⟩
          have hcl1 := gCp_le (E := E) _ l0
          have g5 : gU (u.1 2148) (u.2.1 137) (p + gCp E (gRm S sp)) (fun i => if i = sp then -2 else bif S.testBit i then gMa E (gRm S sp) i else s.2.1 136 i) (t.1 2148) (t.2.1 137) := gU_cg g3 rfl (fun _ _ => rfl) rfl (fun i hi => by
            show (if i = sp then -2 else bif S.testBit i then gMa E (gRm S sp) i else s.2.1 136 i) = bif (gRm S sp).testBit i then gMa E (gRm S sp) i else u.2.1 136 i
            rw [gRm_bit S hS.1 sp (by omega) i hi, t1 i hi]
            by_cases is : i = sp
            · rw [if_pos is, decide_eq_true is, Bool.not_true, Bool.and_false, is]
              exact hT.symm
            · rw [if_neg is, decide_eq_false is, Bool.not_false, Bool.and_true]) (fun _ _ => rfl)
          rcases gFo_co (E := E) hS.1 h0 with ⟨b, w1, w2, w3, w4⟩ | ⟨w1, w2, w3⟩
          · rcases g1 with ⟨q1, -⟩ | ⟨c, q1, q2⟩
            · rw [w1] at q1; cases q1
            · rw [w1] at q1
              cases q1
              have hb5 := (gCo_some w3).1
              have hvb := gVl_lt (E := E) (b := b) hS.1 h0 hb5
              rw [hlw] at w2
              have z := (gU_2 (by omega) (by omega) q2 g5).2 (by omega)
              refine gU_cg z rfl (fun _ _ => rfl) (by rw [w4]) (fun i hi => ?_) (fun _ _ => rfl)
              show (bif S.testBit i then gMa E S i else s.2.1 136 i) = if i = sp then nI b else if i = b then nI sp else bif (gRm (gRm S sp) b).testBit i then gMa E (gRm (gRm S sp) b) i else s.2.1 136 i
              have ma := gMa_1 (i := i) hS.1 h0 w3
              rw [hlw] at ma
              have hbS := (gOt_ok (gCo_some w3).2.1).2.1
              by_cases is : i = sp
              · rw [if_pos is] at ma ⊢
                rw [is, hb]
                rw [is] at ma
                exact ma
              · rw [if_neg is] at ma ⊢
                by_cases ib : i = b
                · rw [if_pos ib] at ma ⊢
                  rw [ib, hbS]
                  rw [ib] at ma
                  exact ma
                · rw [if_neg ib] at ma ⊢
                  rw [ma, gRm_bit _ l0 b hb5 i hi, gRm_bit S hS.1 sp (by omega) i hi, decide_eq_false is, decide_eq_false ib, Bool.not_false, Bool.and_true, Bool.and_true]
          · have fin : gU (s.1 2148) (s.2.1 137) (p + gCp E (gRm S sp)) (fun i => if i = sp then -2 else bif S.testBit i then gMa E (gRm S sp) i else s.2.1 136 i) (t.1 2148) (t.2.1 137) := by
              rcases g1 with ⟨q1, q2, q3⟩ | ⟨c, q1, q2⟩
              · exact gU_cg g5 q2.symm (fun i hi => (q3 i hi).symm) rfl (fun _ _ => rfl) (fun _ _ => rfl)
              · have hc5 : c < 5 := by
                  have := gFo_ok (E := E) (cb := gCp E) (S := S) 5
                  unfold gFoP at this
                  rw [q1] at this
                  exact this.1
                have hvc := gVl_lt (E := E) (b := c) hS.1 h0 hc5
                have := w1 c q1
                rw [hlw] at this
                exact (gU_2 (by omega) (by omega) q2 g5).1 (by omega)
            rw [hlw] at w3
            refine gU_cg fin rfl (fun _ _ => rfl) (by rw [w3]) (fun i hi => ?_) (fun _ _ => rfl)
            show (bif S.testBit i then gMa E S i else s.2.1 136 i) = if i = sp then -2 else bif S.testBit i then gMa E (gRm S sp) i else s.2.1 136 i
            have ma := gMa_2 (i := i) hS.1 h0 w2
            rw [hlw] at ma
            by_cases is : i = sp
            · rw [if_pos is] at ma ⊢
              rw [is, hb]
              rw [is] at ma
              exact ma
            · rw [if_neg is] at ma ⊢
              rw [ma]
      · refine wO_neg hT ?_
        unfold xg_4_matchFrom_j79
        rw [nI_1]
        refine wO_bd (ih (sp + 1) p s S (by omega) (by omega) (by omega) h47 hal ⟨hS.1, fun i hi => ?_⟩) (fun t ht => wO_some ht)
        rw [hS.2 i hi]
        refine ⟨fun q => ⟨?_, q.2⟩, fun q => ⟨by omega, q.2⟩⟩
        by_cases is : i = sp
        · subst is; exact absurd q.2.2 hT
        · omega
    · have hz : S = 0 := gS_0 S hS.1 (fun i hi => by
        cases hc : S.testBit i with
        | false => rfl
        | true => have := (hS.2 i hi).mp hc; omega)
      subst hz
      refine wO_neg (nI_nlt (by omega) (by omega)) ?_
      by_cases hle : nI p ≤ s.1 2148
      · refine wO_pos hle (wO_some ⟨xsF.rf, fun _ _ => rfl, fun q => absurd q (Int32.not_lt.mpr hle), fun _ => ⟨rfl, fun _ _ => rfl⟩⟩)
      · refine wO_neg hle (wO_some ⟨(xsF.sI (by decide)).tr (xsF.sA (by decide)), fun i hi => rfl, fun _ => ⟨rfl, fun i hi => ?_⟩, fun q => absurd (Int32.not_le.mp hle) q⟩)
        show va_cpy (s.2.1 136) (s.2.1 137) 0 0 5 i = bif (0 : Nat).testBit i then _ else s.2.1 136 i
        rw [Nat.zero_testBit]
        unfold va_cpy
        rw [if_pos ⟨by omega, by omega⟩, Nat.sub_zero, Nat.zero_add]
        rfl
