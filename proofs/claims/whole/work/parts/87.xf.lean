/-! the class: settle, foresee -/
theorem x_settle_rounds {g : gT} {po : Option (Nat × Nat)} {s : xs_S} {wo N : Nat} {q : List Nat × (Nat → Nat)} (hN : N = 294) (hn : g.1.2 ≤ 6) (hwo : wo < 64) (hq : gBo g.1.2 q) (hcl : ∀ x w u, x ∈ q.1 → w < 7 → gNx g po wo x w = some u → u ∈ q.1) (hv : gBv gph g.1.2 q (s.2.1 127) (s.2.1 128) (s.1 2018)) (h2 : s.1 2022 = nI wo) (hO : ∀ x ∈ q.1, gOp g po (s.2.1 118) (s.2.1 119) x) (hro : gRx q.1 (gWs (gNx g po wo) 0) (s.2.1 129) (s.2.1 130)) : wO (mo_loop xf_0_settle_l43 (1, 1, s)) (fun t => xsF [] [129, 130] s t ∧ gRx q.1 (gWs (gNx g po wo) N) (t.2.1 129) (t.2.1 130)) := by
  refine wO_loop (fun (n : Nat) (p : Int32 × Int32 × xs_S) => xsF [] [129, 130] s p.2.2 ∧ ∃ r, r ≤ N ∧ n = N - r ∧ p.2.1 = nI (r + 1) ∧ ((p.1 = 1 ∧ gRx q.1 (gWs (gNx g po wo) r) (p.2.2.2.1 129) (p.2.2.2.1 130)) ∨ (p.1 = 0 ∧ gRx q.1 (gWs (gNx g po wo) N) (p.2.2.2.1 129) (p.2.2.2.1 130)))) ?_ N _ ⟨xsF.rf, 0, by omega, by omega, rfl, Or.inl ⟨rfl, hro⟩⟩
  rintro n ⟨w1, w2, u⟩ ⟨hF, r, hr, en, e2, hI⟩
  have hF : xsF [] [129, 130] s u := hF
  have e2 : w2 = nI (r + 1) := e2
  subst e2
  unfold xf_0_settle_l43
  by_cases hrN : r = N
  · refine wO_pos (show (294 : Int32) < nI (r + 1) from nI_lt (a := 294) (by omega) (by omega)) (wO_some ⟨hF, ?_⟩)
    rcases hI with ⟨_, h⟩ | ⟨_, h⟩
    · rw [hrN] at h; exact h
    · exact h
  · refine wO_neg (show ¬ (294 : Int32) < nI (r + 1) from nI_nlt (a := 294) (by omega) (by omega)) ?_
    rcases hI with ⟨e1, h⟩ | ⟨e1, h⟩
    · have e1 : w1 = 1 := e1
      subst e1
      refine wO_neg pu_10 ?_
      refine wO_bd (x_settle_round (s := u) (r := r) hn hwo (by omega) hq hcl (by rw [hF.2.1 127 (by decide), hF.2.1 128 (by decide), hF.1 2018 (by decide)]; exact hv) (by rw [hF.1 2022 (by decide)]; exact h2) (by rw [hF.2.1 118 (by decide), hF.2.1 119 (by decide)]; exact hO) h) ?_
      rintro ⟨w, v⟩ ⟨k1, k2, k3⟩
      refine wO_some ⟨N - (r + 1), by omega, hF.tr k1, r + 1, by omega, rfl, nI_1 (r + 1), ?_⟩
      rcases k3 with k3 | ⟨k3, k4⟩
      · exact Or.inl ⟨k3, k2⟩
      · refine Or.inr ⟨k3, fun st hst => ?_⟩
        have h3 := gWs_st (V := fun x => x ∈ q.1) (fun x w u hx hw hu => hcl x w u hx hw hu) k4 (N - r) st hst
        rw [Nat.add_sub_cancel' hr] at h3
        have h4 := k2 st hst
        rw [k4 st hst] at h4
        rw [h3]
        exact h4
    · have e1 : w1 = 0 := e1
      subst e1
      exact wO_pos rfl (wO_some ⟨hF, h⟩)
/-- what a settled forecast holds -/
def gFc (g : gT) (po : Option (Nat × Nat)) (wo : Nat) (s : xs_S) (q : List Nat × (Nat → Nat)) : Prop := wo < 64 ∧ s.1 2022 = nI wo ∧ gBo g.1.2 q ∧ (∀ x w u, x ∈ q.1 → w < 7 → gNx g po wo x w = some u → u ∈ q.1) ∧ gBv gph g.1.2 q (s.2.1 127) (s.2.1 128) (s.1 2018) ∧ (∀ x ∈ q.1, gOp g po (s.2.1 118) (s.2.1 119) x) ∧ gRx q.1 (gWf (gNx g po wo)) (s.2.1 129) (s.2.1 130)
/-- the forecast's laying is not ahead of the game's -/
def gLy (s : xs_S) : Prop := ∃ a b, s.1 2023 = nI a ∧ s.1 1875 = nI b ∧ a ≤ b ∧ b < 2 ^ 30
theorem gLy.mv {s t : xs_S} (h : gLy s) (h1 : t.1 2023 = s.1 2023) (h2 : t.1 1875 = s.1 1875) : gLy t := by
  obtain ⟨a, b, k1, k2, k3⟩ := h
  exact ⟨a, b, h1.trans k1, h2.trans k2, k3⟩
theorem gLy.sp {s t : xs_S} (h : gLy s) (h1 : t.1 2023 = s.1 1875) (h2 : t.1 1875 = s.1 1875) : gLy t := by
  obtain ⟨a, b, k1, k2, k3, k4⟩ := h
  exact ⟨b, b, h1.trans k2, h2.trans k2, Nat.le_refl _, k4⟩
def gFs (g : gT) (po : Option (Nat × Nat)) (s : xs_S) : Prop := gLy s ∧ (s.1 2024 = 0 ∨ ¬ s.1 2023 = s.1 1875 ∨ ∃ wo q, gFc g po wo s q)
def xKfA : List Nat := [15, 16, 118, 119, 127, 128, 129, 130]
theorem x_settle {g : gT} {po : Option (Nat × Nat)} {s : xs_S} {wo : Nat} {q : List Nat × (Nat → Nat)} (hn : g.1.2 ≤ 6) (hwo : wo < 64) (hq : gBo g.1.2 q) (hcl : ∀ x w u, x ∈ q.1 → w < 7 → gNx g po wo x w = some u → u ∈ q.1) (hv : gBv gph g.1.2 q (s.2.1 127) (s.2.1 128) (s.1 2018)) (h2 : s.1 2022 = nI wo) (hO : ∀ x ∈ q.1, gOp g po (s.2.1 118) (s.2.1 119) x) : wO (xf_0_settle s) (fun t => xsF [2024] [129, 130] s t ∧ t.1 2024 = 1 ∧ gFc g po wo t q) := by
  unfold xf_0_settle
  refine wO_bd (x_settle_init hq hv) ?_
  rintro s1 ⟨f1, r1⟩
  obtain ⟨N, hN⟩ : ∃ N, N = 294 := ⟨294, rfl⟩
  refine wO_bd (x_settle_rounds (s := s1) hN hn hwo hq hcl (by rw [f1.2.1 127 (by decide), f1.2.1 128 (by decide), f1.1 2018 (by decide)]; exact hv) (by rw [f1.1 2022 (by decide)]; exact h2) (by rw [f1.2.1 118 (by decide), f1.2.1 119 (by decide)]; exact hO) ?_) ?_
  · intro st hst
    obtain ⟨i1, i2⟩ := r1 st hst
    simp only [gWs]
    rw [i1, i2]
    by_cases c1 : st / 14 = 20
    · rw [if_pos c1, if_pos c1]; exact ⟨rfl, rfl⟩
    · rw [if_neg c1, if_neg c1]
      by_cases c2 : st / 14 = 0
      · rw [if_pos c2, if_pos c2]; exact ⟨rfl, rfl⟩
      · rw [if_neg c2, if_neg c2]
  · rintro t ⟨f2, r2⟩
    have f3 := f1.tr f2
    refine wO_some ⟨(f3.wk (by decide) (by decide)).tr (xsF.sI (by decide)), rfl, hwo, (f3.1 2022 (by decide)).trans h2, hq, hcl, ?_, ?_, ?_⟩
    · show gBv gph g.1.2 q (t.2.1 127) (t.2.1 128) (t.1 2018)
      rw [f3.2.1 127 (by decide), f3.2.1 128 (by decide), f3.1 2018 (by decide)]
      exact hv
    · show ∀ x ∈ q.1, gOp g po (t.2.1 118) (t.2.1 119) x
      rw [f3.2.1 118 (by decide), f3.2.1 119 (by decide)]
      exact hO
    · rw [gWf_eq hN]
      exact r2
theorem gRx_win {L : List Nat} {f : Nat → Option (Nat × Nat)} {A B : Nat → Int32} {st : Nat} (h : gRx L f A B) (hst : st ∈ L) : A (gph st) = nI (gWn (f st)) := by
  have h1 := h st hst
  cases h2 : f st with
  | none => rw [h2] at h1; exact h1
  | some p => rw [h2] at h1; exact h1.1
theorem gFc_win {g : gT} {po : Option (Nat × Nat)} {wo st : Nat} {s : xs_S} {q : List Nat × (Nat → Nat)} (k : gFc g po wo s q) (hm : st ∈ q.1) : s.2.1 129 (gph st) = nI (gWn (gWf (gNx g po wo) st)) := by
  unfold gFc at k
  generalize gWf (gNx g po wo) = f at k ⊢
  exact gRx_win k.2.2.2.2.2.2 hm
theorem x_foresee {g : gT} {po : Option (Nat × Nat)} {s : xs_S} {wo st : Nat} (h : XG g s po) (hfs : gFs g po s) (hst : gSt g.1.2 st) (hwo : wo < 64) : wO (xf_0_foresee s (nI (gph st)) (nI wo)) (fun p => xsF xKsI xKfA s p.2 ∧ XG g p.2 po ∧ p.1 = nI (gWn (gWf (gNx g po wo) st)) ∧ gLy p.2 ∧ ∃ q, gFc g po wo p.2 q ∧ st ∈ q.1) := by
  have hn := h.1.2.1
  have hgl := gph_lt hst.1
  have hok : ∀ st w u, gSt g.1.2 st → w < 7 → gNx g po wo st w = some u → gSt g.1.2 u := fun st w u hst _ hu => gNx_ok hn hst.1 hu
  have anew : wO (xf_0_foresee_j25 s (nI (gph st)) (nI wo)) (fun p => xsF xKsI xKfA s p.2 ∧ XG g p.2 po ∧ p.1 = nI (gWn (gWf (gNx g po wo) st)) ∧ gLy p.2 ∧ ∃ q, gFc g po wo p.2 q ∧ st ∈ q.1) := by
    unfold xf_0_foresee_j25
    refine wO_bd (x_spread h hst hwo) ?_
    rintro s1 ⟨f1, g1, ⟨i1, i2, i3⟩, v1, o1⟩
    obtain ⟨b1, b2, b3⟩ := gBf_ok hst hok
    refine wO_bd (x_settle hn hwo b1 b3 v1 i1 o1) ?_
    rintro s2 ⟨f2, k2, c2⟩
    have hm : st ∈ (gBf (gNx g po wo) st).1 := g_mem b2
    have hw := gFc_win c2 hm
    refine wO_agv (k := gph st) rfl (by omega) (by omega) hw ?_
    have f12 : xsF xKsI xKfA s s2 := (f1.wk (by decide) (by decide)).tr (f2.wk (by decide) (by decide))
    exact wO_some ⟨f12, g1.mv f2 (by decide) (by decide) (by rw [f2.2.1 118 (by decide), f2.2.1 119 (by decide)]; exact g1.2.2), rfl, hfs.1.sp ((f2.1 2023 (by decide)).trans i2) (f12.1 1875 (by decide)), _, c2, hm⟩
  have j15 : wO (xf_0_foresee_j15 s (nI (gph st)) (nI wo)) (fun p => xsF xKsI xKfA s p.2 ∧ XG g p.2 po ∧ p.1 = nI (gWn (gWf (gNx g po wo) st)) ∧ gLy p.2 ∧ ∃ q, gFc g po wo p.2 q ∧ st ∈ q.1) := by
    unfold xf_0_foresee_j15 xf_0_foresee_j16
    exact wO_pos rfl anew
  unfold xf_0_foresee
  refine wO_ite (fun c => j15) (fun c => ?_)
  refine wO_ite (fun d => ?_) (fun d => j15)
  refine wO_ite (fun e => ?_) (fun e => j15)
  rcases hfs.2 with k | k | ⟨wo2, q, k⟩
  · exact absurd k c
  · exact absurd d k
  · obtain ⟨a1, a2, a3, a4, a5, a6, a7⟩ := id k
    have hw2 : wo2 = wo := by
      rw [a2] at e
      exact (nI_eq (by omega) (by omega)).mp e
    subst hw2
    unfold xf_0_foresee_j16
    refine wO_neg pu_10 ?_
    have hd := a5.2.2 st hst
    by_cases hm : st ∈ q.1
    · rw [if_pos hm] at hd
      refine wO_agv (k := gph st) rfl (by omega) (by omega) hd ?_
      have h1 := (a3.2 st hm).2
      have h2 := a3.len
      refine wO_neg (pu_n1 (by omega)) ?_
      refine wO_agv (k := gph st) rfl (by omega) (by omega) (gFc_win k hm) ?_
      exact wO_some ⟨xsF.rf, h, rfl, hfs.1, q, k, hm⟩
    · rw [if_neg hm] at hd
      refine wO_agv (k := gph st) rfl (by omega) (by omega) hd ?_
      exact wO_pos rfl anew
