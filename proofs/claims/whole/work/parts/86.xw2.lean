theorem g_uniq {L : List Nat} {i j x : Nat} (h : L.Nodup) (hi : L[i]? = some x) (hj : L[j]? = some x) : i = j := (List.getElem?_inj (g_slt hi) h).mp (hi.trans hj.symm)
/-- the rows hold what f says of the listed standings -/
def gRx (L : List Nat) (f : Nat → Option (Nat × Nat)) (A B : Nat → Int32) : Prop := ∀ st, st ∈ L → match f st with
  | some p => A (gph st) = nI p.1 ∧ B (gph st) = nI p.2
  | none => A (gph st) = 0
/-- in the midst of a round -/
def gMx (nx : Nat → Nat → Option Nat) (L : List Nat) (r i : Nat) (A B : Nat → Int32) : Prop := ∀ (j : Nat) (st : Nat), L[j]? = some st → match gWs nx r st with
  | some p => A (gph st) = nI p.1 ∧ B (gph st) = nI p.2
  | none => match (if j < i then gDc nx (gWs nx r) st (r + 1) else none) with
    | some p => A (gph st) = nI p.1 ∧ B (gph st) = nI (r + 1)
    | none => A (gph st) = 0
theorem x_settle_init {s : xs_S} {nw : Nat} {q : List Nat × (Nat → Nat)} (hq : gBo nw q) (hv : gBv gph nw q (s.2.1 127) (s.2.1 128) (s.1 2018)) : wO (mo_loop xf_0_settle_l2 (0, s)) (fun t => xsF [] [129, 130] s t ∧ ∀ st, st ∈ q.1 → t.2.1 129 (gph st) = (if st / 14 = 20 then 1 else if st / 14 = 0 then 2 else 0) ∧ t.2.1 130 (gph st) = 0) := by
  have hlen := hq.len
  refine wO_count (fun (i : Nat) (p : Int32 × xs_S) => p.1 = nI i ∧ xsF [] [129, 130] s p.2 ∧ ∀ (j : Nat) (st : Nat), j < i → q.1[j]? = some st → p.2.2.1 129 (gph st) = (if st / 14 = 20 then 1 else if st / 14 = 0 then 2 else 0) ∧ p.2.2.1 130 (gph st) = 0) q.1.length ?_ ?_ _ ⟨rfl, xsF.rf, fun j _ hj => absurd hj (by omega)⟩
  · rintro i ⟨w1, u⟩ hi ⟨e, hF, hu⟩
    have e : w1 = nI i := e
    subst e
    have hF : xsF [] [129, 130] s u := hF
    have hu : ∀ (j : Nat) (st : Nat), j < i → q.1[j]? = some st → u.2.1 129 (gph st) = (if st / 14 = 20 then 1 else if st / 14 = 0 then 2 else 0) ∧ u.2.1 130 (gph st) = 0 := hu
    have hx : q.1[i]? = some (q.1[i]) := List.getElem?_eq_getElem hi
    generalize q.1[i] = x at hx
    have hm := g_mem hx
    have hsx := (hq.2 x hm).1
    have hgx := gph_lt hsx.1
    unfold xf_0_settle_l2
    refine wO_neg (show ¬ u.1 2018 ≤ nI i by rw [hF.1 2018 (by decide), hv.1]; exact nI_ge hi (by omega)) ?_
    have hl : u.2.1 127 i = nI (gph x) := by rw [hF.2.1 127 (by decide)]; exact hv.2.1 i x hx
    refine wO_agv (k := i) rfl (by omega) (by omega) hl ?_
    refine wO_eq (x_slope hsx.1) ?_
    refine wO_agv (k := i) rfl (by omega) (by omega) hl ?_
    refine wO_in (k := gph x) rfl (by omega) (by omega) ?_
    refine wO_agv (k := i) rfl (by omega) (by omega) hl ?_
    rw [nI_clamp (by omega)]
    have key : ∀ k0 : Int32, k0 = (if x / 14 = 20 then 1 else if x / 14 = 0 then 2 else 0) → wO (xf_0_settle_j36 (xs_sA u 130 (upd (u.2.1 130) (gph x) 0)) (nI i) k0 (nI (gph x))) (mo_sum (fun p => p.1 = nI (i + 1) ∧ xsF [] [129, 130] s p.2 ∧ ∀ (j : Nat) (st : Nat), j < i + 1 → q.1[j]? = some st → p.2.2.1 129 (gph st) = (if st / 14 = 20 then 1 else if st / 14 = 0 then 2 else 0) ∧ p.2.2.1 130 (gph st) = 0) (fun t => xsF [] [129, 130] s t ∧ ∀ st, st ∈ q.1 → t.2.1 129 (gph st) = (if st / 14 = 20 then 1 else if st / 14 = 0 then 2 else 0) ∧ t.2.1 130 (gph st) = 0)) := by
      intro k0 hk
      unfold xf_0_settle_j36
      refine wO_in (k := gph x) rfl (by omega) (by omega) ?_
      rw [nI_clamp (by omega)]
      refine wO_some ⟨nI_1 i, hF.tr ((xsF.sA (by decide)).tr (xsF.sA (by decide))), fun j st hj hst => ?_⟩
      show upd (u.2.1 129) (gph x) k0 (gph st) = _ ∧ upd (u.2.1 130) (gph x) 0 (gph st) = _
      by_cases he : st = x
      · subst he
        rw [upd_eq, upd_eq]
        exact ⟨hk, rfl⟩
      · rw [upd_ne (fun e => he (gph_inj e)), upd_ne (fun e => he (gph_inj e))]
        refine hu j st ?_ hst
        by_cases hji : j = i
        · subst hji; rw [hx] at hst; cases hst; exact absurd rfl he
        · omega
    refine wO_ite (fun c => ?_) (fun c => ?_)
    · have h := (nI_eq (b := 20) (by have := hsx.1; omega) (by omega)).mp c
      exact key 1 (by rw [if_pos h])
    · have h : ¬ x / 14 = 20 := fun e => c (by rw [e]; rfl)
      refine wO_ite (fun d => ?_) (fun d => ?_)
      · have h0 := (nI_eq (b := 0) (by have := hsx.1; omega) (by omega)).mp d
        exact key 2 (by rw [if_neg h, if_pos h0])
      · have h0 : ¬ x / 14 = 0 := fun e => d (by rw [e]; rfl)
        exact key 0 (by rw [if_neg h, if_neg h0])
  · rintro ⟨w1, u⟩ ⟨e, hF, hu⟩
    have e : w1 = nI q.1.length := e
    subst e
    have hF : xsF [] [129, 130] s u := hF
    unfold xf_0_settle_l2
    refine wO_pos (by rw [hF.1 2018 (by decide), hv.1]; exact Int32.le_refl _) (wO_some ⟨hF, fun st hst => ?_⟩)
    obtain ⟨j, hj⟩ := List.getElem?_of_mem hst
    exact hu j st (g_slt hj) hj
theorem x_settle_round {g : gT} {po : Option (Nat × Nat)} {s : xs_S} {wo r : Nat} {q : List Nat × (Nat → Nat)} (hn : g.1.2 ≤ 6) (hwo : wo < 64) (hr : r < 1000) (hq : gBo g.1.2 q) (hcl : ∀ x w u, x ∈ q.1 → w < 7 → gNx g po wo x w = some u → u ∈ q.1) (hv : gBv gph g.1.2 q (s.2.1 127) (s.2.1 128) (s.1 2018)) (h2 : s.1 2022 = nI wo) (hO : ∀ x ∈ q.1, gOp g po (s.2.1 118) (s.2.1 119) x) (hro : gRx q.1 (gWs (gNx g po wo) r) (s.2.1 129) (s.2.1 130)) : wO (mo_loop (xf_0_settle_l52 (nI (r + 1))) (0, 0, s)) (fun p => xsF [] [129, 130] s p.2 ∧ gRx q.1 (gWs (gNx g po wo) (r + 1)) (p.2.2.1 129) (p.2.2.1 130) ∧ (p.1 = 1 ∨ (p.1 = 0 ∧ ∀ st, st ∈ q.1 → gWs (gNx g po wo) (r + 1) st = gWs (gNx g po wo) r st))) := by
  have hlen := hq.len
  generalize hnx : gNx g po wo = nx at *
  have hw : wO (mo_loop (xf_0_settle_l52 (nI (r + 1))) (0, 0, s)) (fun p => xsF [] [129, 130] s p.2 ∧ gMx nx q.1 r q.1.length (p.2.2.1 129) (p.2.2.1 130) ∧ (p.1 = 1 ∨ (p.1 = 0 ∧ ∀ (j : Nat) (st : Nat), j < q.1.length → q.1[j]? = some st → gWs nx r st = none → gDc nx (gWs nx r) st (r + 1) = none))) := by
    refine wO_count (fun (i : Nat) (p : Int32 × Int32 × xs_S) => p.2.1 = nI i ∧ xsF [] [129, 130] s p.2.2 ∧ gMx nx q.1 r i (p.2.2.2.1 129) (p.2.2.2.1 130) ∧ (p.1 = 1 ∨ (p.1 = 0 ∧ ∀ (j : Nat) (st : Nat), j < i → q.1[j]? = some st → gWs nx r st = none → gDc nx (gWs nx r) st (r + 1) = none))) q.1.length ?_ ?_ _ ⟨rfl, xsF.rf, fun j st hj => ?_, Or.inr ⟨rfl, fun j _ hj => absurd hj (by omega)⟩⟩
    · rintro i ⟨w1, w3, u⟩ hi ⟨e, hF, hmid, hfl⟩
      have e : w3 = nI i := e
      subst e
      have hF : xsF [] [129, 130] s u := hF
      have hmid : gMx nx q.1 r i (u.2.1 129) (u.2.1 130) := hmid
      have hx : q.1[i]? = some (q.1[i]) := List.getElem?_eq_getElem hi
      generalize q.1[i] = x at hx
      have hm := g_mem hx
      have hsx := (hq.2 x hm).1
      have hgx := gph_lt hsx.1
      unfold xf_0_settle_l52
      refine wO_neg (show ¬ u.1 2018 ≤ nI i by rw [hF.1 2018 (by decide), hv.1]; exact nI_ge hi (by omega)) ?_
      have hl : u.2.1 127 i = nI (gph x) := by rw [hF.2.1 127 (by decide)]; exact hv.2.1 i x hx
      refine wO_agv (k := i) rfl (by omega) (by omega) hl ?_
      have hmx := hmid i x hx
      unfold xf_0_settle_j74
      cases h1 : gWs nx r x with
      | some p =>
        rw [h1] at hmx
        have hp := gWs_ok h1
        refine wO_agv (k := gph x) rfl (by omega) (by omega) hmx.1 ?_
        refine wO_neg (fun e => absurd ((nI_eq (b := 0) (by omega) (by omega)).mp e) (by omega)) ?_
        refine wO_some ⟨nI_1 i, hF, fun j st hj => ?_, ?_⟩
        · have h3 := hmid j st hj
          show match gWs nx r st with
            | some p => _
            | none => _
          cases h4 : gWs nx r st with
          | some p => rw [h4] at h3; exact h3
          | none =>
            rw [h4] at h3
            have hji : ¬ j = i := fun e => by subst e; rw [hx] at hj; cases hj; rw [h1] at h4; cases h4
            simp only at h3 ⊢
            by_cases hlt : j < i
            · rw [if_pos hlt] at h3; rw [if_pos (by omega)]; exact h3
            · rw [if_neg hlt] at h3; rw [if_neg (by omega)]; exact h3
        · rcases hfl with h3 | ⟨h3, h4⟩
          · exact Or.inl h3
          · refine Or.inr ⟨h3, fun j st hj hst h5 => ?_⟩
            have hji : ¬ j = i := fun e => by subst e; rw [hx] at hst; cases hst; rw [h1] at h5; cases h5
            exact h4 j st (by omega) hst h5
      | none =>
        rw [h1] at hmx
        simp only at hmx
        rw [if_neg (by omega)] at hmx
        refine wO_agv (k := gph x) rfl (by omega) (by omega) hmx ?_
        refine wO_pos rfl ?_
        refine wO_agv (k := i) rfl (by omega) (by omega) hl ?_
        have hd := x_decide (g := g) (po := po) (s := u) (wo := wo) (st := x) (R := r + 1) (f := gWs nx r) hn hwo hsx (by rw [hF.2.1 118 (by decide), hF.2.1 119 (by decide)]; exact hO x hm) (fun w v hw hv2 => by
          rw [hnx] at hv2
          have hvm := hcl x w v hm hw hv2
          obtain ⟨j, hj⟩ := List.getElem?_of_mem hvm
          have h3 := hmid j v hj
          unfold gSn
          cases h4 : gWs nx r v with
          | some p =>
            rw [h4] at h3
            have hp := gWs_ok h4
            exact ⟨h3.1, hp.1, hp.2.1, h3.2, by omega⟩
          | none =>
            rw [h4] at h3
            simp only at h3 ⊢
            cases h5 : (if j < i then gDc nx (gWs nx r) v (r + 1) else none) with
            | none => rw [h5] at h3; exact Or.inl h3
            | some p =>
              rw [h5] at h3
              have h6 : gDc nx (gWs nx r) v (r + 1) = some p := by
                by_cases hlt : j < i
                · rw [if_pos hlt] at h5; exact h5
                · rw [if_neg hlt] at h5; cases h5
              have h7 := gDc_ok h6
              exact Or.inr ⟨p.1, r + 1, h3.1, h7.1, h7.2.1, h3.2, by omega, by omega⟩) (by omega) (by rw [hF.1 2022 (by decide)]; exact h2)
        rw [hnx] at hd
        refine wO_eq hd ?_
        cases h5 : gDc nx (gWs nx r) x (r + 1) with
        | none =>
          simp only
          refine wO_pos trivial (wO_some ⟨nI_1 i, hF, fun j st hj => ?_, ?_⟩)
          · have h3 := hmid j st hj
            show match gWs nx r st with
              | some p => _
              | none => _
            cases h4 : gWs nx r st with
            | some p => rw [h4] at h3; exact h3
            | none =>
              rw [h4] at h3
              simp only at h3 ⊢
              by_cases hji : j = i
              · subst hji
                rw [hx] at hj
                cases hj
                rw [if_pos (by omega), h5]
                exact hmx
              · by_cases hlt : j < i
                · rw [if_pos hlt] at h3; rw [if_pos (by omega)]; exact h3
                · rw [if_neg hlt] at h3; rw [if_neg (by omega)]; exact h3
          · rcases hfl with h3 | ⟨h3, h4⟩
            · exact Or.inl h3
            · refine Or.inr ⟨h3, fun j st hj hst h6 => ?_⟩
              by_cases hji : j = i
              · subst hji; rw [hx] at hst; cases hst; exact h5
              · exact h4 j st (by omega) hst h6
        | some p =>
          simp only
          refine wO_neg pu_10 (wO_some ⟨nI_1 i, hF.tr ((xsF.sA (by decide)).tr (xsF.sA (by decide))), fun j st hj => ?_, Or.inl rfl⟩)
          have h3 := hmid j st hj
          show match gWs nx r st with
            | some p => _
            | none => _
          by_cases hji : j = i
          · subst hji
            rw [hx] at hj
            cases hj
            rw [h1]
            simp only
            rw [if_pos (by omega), h5]
            show upd (u.2.1 129) (gph x) (nI p.1) (gph x) = _ ∧ upd (u.2.1 130) (gph x) (nI (r + 1)) (gph x) = _
            rw [upd_eq, upd_eq]
            exact ⟨rfl, rfl⟩
          · have hne : ¬ gph st = gph x := fun e => hji (g_uniq hq.1 hj (by rw [gph_inj e]; exact hx))
            have ea : upd (u.2.1 129) (gph x) (nI p.1) (gph st) = u.2.1 129 (gph st) := upd_ne hne
            have eb : upd (u.2.1 130) (gph x) (nI (r + 1)) (gph st) = u.2.1 130 (gph st) := upd_ne hne
            cases h4 : gWs nx r st with
            | some p2 =>
              rw [h4] at h3
              exact ⟨ea.trans h3.1, eb.trans h3.2⟩
            | none =>
              rw [h4] at h3
              simp only at h3 ⊢
              have hii : (j < i + 1) = (j < i) := propext ⟨fun _ => by omega, fun _ => by omega⟩
              have hcongr : (if j < i + 1 then gDc nx (gWs nx r) st (r + 1) else none) = (if j < i then gDc nx (gWs nx r) st (r + 1) else none) := by
                by_cases hlt : j < i
                · rw [if_pos hlt, if_pos (by omega)]
                · rw [if_neg hlt, if_neg (by omega)]
              rw [hcongr]
              cases h6 : (if j < i then gDc nx (gWs nx r) st (r + 1) else none) with
              | none => rw [h6] at h3; exact ea.trans h3
              | some p2 => rw [h6] at h3; exact ⟨ea.trans h3.1, eb.trans h3.2⟩
    · rintro ⟨w1, w3, u⟩ ⟨e, hF, hmid, hfl⟩
      have e : w3 = nI q.1.length := e
      subst e
      have hF : xsF [] [129, 130] s u := hF
      unfold xf_0_settle_l52
      exact wO_pos (by rw [hF.1 2018 (by decide), hv.1]; exact Int32.le_refl _) (wO_some ⟨hF, hmid, hfl⟩)
    · have h3 := hro st (g_mem hj)
      cases h4 : gWs nx r st with
      | some p => rw [h4] at h3; exact h3
      | none =>
        rw [h4] at h3
        simp only
        rw [if_neg (by omega)]
        exact h3
  refine wO_mono hw ?_
  rintro ⟨w1, u⟩ ⟨h1, h3, h4⟩
  refine ⟨h1, fun st hst => ?_, ?_⟩
  · obtain ⟨j, hj⟩ := List.getElem?_of_mem hst
    have h5 := h3 j st hj
    simp only [gWs]
    cases h6 : gWs nx r st with
    | some p => rw [h6] at h5; exact h5
    | none =>
      rw [h6] at h5
      simp only at h5 ⊢
      rw [if_pos (g_slt hj)] at h5
      cases h7 : gDc nx (gWs nx r) st (r + 1) with
      | none => rw [h7] at h5; exact h5
      | some p =>
        rw [h7] at h5
        have h8 := gDc_ok h7
        exact ⟨h5.1, by rw [h8.2.2]; exact h5.2⟩
  · rcases h4 with h4 | ⟨h4, h5⟩
    · exact Or.inl h4
    · refine Or.inr ⟨h4, fun st hst => ?_⟩
      obtain ⟨j, hj⟩ := List.getElem?_of_mem hst
      simp only [gWs]
      cases h6 : gWs nx r st with
      | some p => rfl
      | none => exact h5 j st (g_slt hj) hj h6
