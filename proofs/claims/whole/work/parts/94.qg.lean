/-! question: together, the sweeps of the class -/
def gFP (nx : Nat → Nat → Option Nat) (F : Nat → Option Nat) (x : Nat) : Prop := ∃ w u, w < 7 ∧ nx x w = some u ∧ gCm u = true ∧ F u = none
theorem gAm_cg {nx : Nat → Nat → Option Nat} {F G : Nat → Option Nat} {x : Nat} : ∀ {k : Nat}, (∀ w u, w < k → nx x w = some u → F u = G u) → gAm nx F x k = gAm nx G x k
  | 0, _ => rfl
  | k + 1, h => by
    have ih := gAm_cg (k := k) (fun w u hw => h w u (by omega))
    simp only [gAm]
    rw [ih]
    cases gAm nx G x k with
    | none => rfl
    | some a =>
      simp only
      cases hu : nx x k with
      | none => rfl
      | some u =>
        simp only
        rw [h k u (by omega) hu]
theorem x_sweep {g : gT} {po : Option (Nat × Nat)} {s : xs_S} {B : Nat} {v1 v2 v4 : Int32} {q : List Nat × (Nat → Nat)} {F0 : Nat → Option Nat} (hn : g.1.2 ≤ 6) (hq : gBo g.1.2 q) (hcl : ∀ x w u, x ∈ q.1 → w < 7 → gNx g po 0 x w = some u → u ∈ q.1) (hb : gBv gph g.1.2 q (s.2.1 127) (s.2.1 128) (s.1 2018)) (hO : ∀ x ∈ q.1, gOp g po (s.2.1 118) (s.2.1 119) x) (hv : gLv q.1 F0 (s.2.1 130)) (ht : gLt (gNx g po 0) q.1 F0 B) (hB : B < 100000) : wO (mo_loop (xf_0_longestAsleep_l41 v1 v2 v4) (0, s.1 2018 - 1, s)) (fun p => ∃ F, xsF [] [130] s p.2 ∧ gLv q.1 F (p.2.2.1 130) ∧ gLt (gNx g po 0) q.1 F (B + 294) ∧ (∀ x d, x ∈ q.1 → F0 x = some d → F x = some d) ∧ ((p.1 = 1 ∧ ∃ x, x ∈ q.1 ∧ F0 x = none ∧ ∃ d, F x = some d) ∨ (p.1 = 0 ∧ ∀ x, x ∈ q.1 → F x = none → gFP (gNx g po 0) F x))) := by
  have hlen := hq.len
  rw [hb.1]
  refine wO_count (fun (k : Nat) (p : Int32 × Int32 × xs_S) => p.2.1 = nI (q.1.length - k) - 1 ∧ ∃ F, xsF [] [130] s p.2.2 ∧ gLv q.1 F (p.2.2.2.1 130) ∧ gLt (gNx g po 0) q.1 F (B + k) ∧ (∀ x d, x ∈ q.1 → F0 x = some d → F x = some d) ∧ ((p.1 = 1 ∧ ∃ x, x ∈ q.1 ∧ F0 x = none ∧ ∃ d, F x = some d) ∨ (p.1 = 0 ∧ ∀ (j : Nat) (x : Nat), q.1.length - k ≤ j → q.1[j]? = some x → F x = none → gFP (gNx g po 0) F x))) q.1.length ?_ ?_ _ ⟨rfl, F0, xsF.rf, hv, ht, fun _ _ _ h => h, Or.inr ⟨rfl, fun j x hj hx => absurd (g_slt hx) (by omega)⟩⟩
  · rintro k ⟨w3, w5, u⟩ hk ⟨e, F, hF, hv1, ht1, hex, hfl⟩
    obtain ⟨i, hi⟩ : ∃ i, q.1.length - k = i + 1 := ⟨q.1.length - k - 1, by omega⟩
    have e : w5 = nI (q.1.length - k) - 1 := e
    rw [hi] at e
    have e : w5 = nI i := e.trans (pu_sub (b := 1) (by omega))
    subst e
    have hi2 : q.1.length - (k + 1) = i := by omega
    have hF : xsF [] [130] s u := hF
    have hv1 : gLv q.1 F (u.2.1 130) := hv1
    have hil : i < q.1.length := by omega
    have hx : q.1[i]? = some (q.1[i]) := List.getElem?_eq_getElem hil
    generalize q.1[i] = x at hx
    have hm := g_mem hx
    have hsx := (hq.2 x hm).1
    have hgx := gph_lt hsx.1
    have en : nI i + (-1 : Int32) = nI (q.1.length - (k + 1)) - 1 := by
      rw [hi2, Int32.sub_eq_add_neg]
    unfold xf_0_longestAsleep_l41
    refine wO_neg (pu_nn (by omega)) ?_
    refine wO_agv (k := i) (v := nI (gph x)) rfl (by omega) (by omega) (by rw [hF.2.1 127 (by decide)]; exact hb.2.1 i x hx) ?_
    have hvx := hv1 x hm
    refine wO_agv (k := gph x) rfl (by omega) (by omega) hvx ?_
    unfold xf_0_longestAsleep_j71 xf_0_longestAsleep_j73
    have hB3 : ∀ y d, y ∈ q.1 → F y = some d → d ≤ B + k := fun y d hy hd => (ht1 y d hy hd).1
    cases hfx : F x with
    | some d =>
      have hd := hB3 x d hm hfx
      refine wO_neg (show ¬ nI d = -1 from pu_n1 (by omega)) (wO_some ⟨en, F, hF, hv1, fun y d2 hy hd2 => ⟨by have := (ht1 y d2 hy hd2).1; omega, (ht1 y d2 hy hd2).2⟩, hex, ?_⟩)
      rcases hfl with h | ⟨h1, h2⟩
      · exact Or.inl h
      · refine Or.inr ⟨h1, fun j y hj hy hfy => ?_⟩
        by_cases he : j = i
        · subst he; rw [hx] at hy; cases hy; rw [hfx] at hfy; cases hfy
        · exact h2 j y (by omega) hy hfy
    | none =>
      refine wO_pos rfl ?_
      refine wO_eq (x_asleep (B := B + k) hn hsx (by rw [hF.2.1 118 (by decide), hF.2.1 119 (by decide)]; exact hO x hm) (fun w v hw hv2 => hcl x w v hm hw hv2) hv1 hB3 (by omega)) ?_
      refine wO_in (k := gph x) rfl (by omega) (by omega) ?_
      rw [nI_clamp (by omega)]
      refine wO_agv (k := gph x) rfl (by omega) (by omega) upd_eq ?_
      generalize hF2 : (fun y => if y = x then gAm (gNx g po 0) F x 7 else F y) = F2
      have hF2x : F2 x = gAm (gNx g po 0) F x 7 := by rw [← hF2]; exact if_pos rfl
      have hF2y : ∀ y, ¬ y = x → F2 y = F y := fun y hy => by rw [← hF2]; exact if_neg hy
      have hfu : xsF [] [130] s (xs_sA u 130 (upd (u.2.1 130) (gph x) (gE (gAm (gNx g po 0) F x 7)))) := hF.tr (xsF.sA (by decide))
      have hv2 : gLv q.1 F2 (upd (u.2.1 130) (gph x) (gE (gAm (gNx g po 0) F x 7))) := by
        intro y hy
        by_cases he : y = x
        · subst he; rw [upd_eq, hF2x]
        · rw [upd_ne (fun e => he (gph_inj e)), hF2y y he]; exact hv1 y hy
      have ht2 : gLt (gNx g po 0) q.1 F2 (B + (k + 1)) := by
        intro y d hy hd
        by_cases he : y = x
        · subst he
          rw [hF2x] at hd
          exact gLt_new hcl ht1 hy hd
        · rw [hF2y y he] at hd
          exact ⟨by have := (ht1 y d hy hd).1; omega, (ht1 y d hy hd).2⟩
      have hex2 : ∀ y d, y ∈ q.1 → F0 y = some d → F2 y = some d := by
        intro y d hy hd
        have h1 := hex y d hy hd
        by_cases he : y = x
        · subst he; rw [hfx] at h1; cases h1
        · rw [hF2y y he]; exact h1
      have hF0x : F0 x = none := by
        cases h0 : F0 x with
        | none => rfl
        | some d => rw [hex x d hm h0] at hfx; cases hfx
      have hw3 : w3 = 1 ∨ w3 = 0 := hfl.imp (fun h => h.1) (fun h => h.1)
      cases ha : gAm (gNx g po 0) F x 7 with
      | none =>
        rw [ha] at hfu hv2
        refine wO_pos rfl (wO_some ⟨en, F2, hfu, hv2, ht2, hex2, ?_⟩)
        have hsame : ∀ y, F2 y = F y := fun y => by
          by_cases he : y = x
          · subst he; rw [hF2x, ha, hfx]
          · exact hF2y y he
        rcases hfl with ⟨h1, y, h2, h3, d, h4⟩ | ⟨h1, h2⟩
        · refine Or.inl ⟨?_, y, h2, h3, d, (hsame y).trans h4⟩
          have h1 : w3 = 1 := h1
          subst h1
          rfl
        · refine Or.inr ⟨?_, fun j y hj hy hfy => ?_⟩
          · have h1 : w3 = 0 := h1
            subst h1
            rfl
          · have hFP : gFP (gNx g po 0) F y := by
              by_cases he : j = i
              · subst he
                rw [hx] at hy
                cases hy
                obtain ⟨w, v, k1, k2, k3, k4⟩ := gAm_none ha
                exact ⟨w, v, k1, k2, k3, k4⟩
              · exact h2 j y (by omega) hy ((hsame y).symm.trans hfy)
            obtain ⟨w, v, k1, k2, k3, k4⟩ := hFP
            exact ⟨w, v, k1, k2, k3, (hsame v).trans k4⟩
      | some a =>
        rw [ha] at hfu hv2
        have hal := (gLt_new hcl ht1 hm ha).1
        refine wO_neg (show ¬ nI a = -1 from pu_n1 (by omega)) (wO_some ⟨en, F2, hfu, hv2, ht2, hex2, Or.inl ⟨?_, x, hm, hF0x, a, hF2x.trans ha⟩⟩)
        rcases hw3 with h | h
        · subst h; rfl
        · subst h; rfl
  · rintro ⟨w3, w5, u⟩ ⟨e, F, hF, hv1, ht1, hex, hfl⟩
    have e : w5 = nI (q.1.length - q.1.length) - 1 := e
    rw [Nat.sub_self] at e
    subst e
    unfold xf_0_longestAsleep_l41
    refine wO_pos (by decide) (wO_some ⟨F, hF, hv1, fun y d hy hd => ⟨by have := (ht1 y d hy hd).1; omega, (ht1 y d hy hd).2⟩, hex, ?_⟩)
    rcases hfl with h | ⟨h1, h2⟩
    · exact Or.inl h
    · refine Or.inr ⟨h1, fun x hx hfx => ?_⟩
      obtain ⟨j, hj⟩ := List.getElem?_of_mem hx
      exact h2 j x (by omega) hj hfx
def gUl (L : List Nat) (F : Nat → Option Nat) (j : Nat) : Bool := match L[j]? with
  | none => false
  | some x => (F x).isNone
theorem x_sweeps {g : gT} {po : Option (Nat × Nat)} {s : xs_S} {N : Nat} {v1 v2 : Int32} {q : List Nat × (Nat → Nat)} (hN : N = 294) (hn : g.1.2 ≤ 6) (hq : gBo g.1.2 q) (hcl : ∀ x w u, x ∈ q.1 → w < 7 → gNx g po 0 x w = some u → u ∈ q.1) (hb : gBv gph g.1.2 q (s.2.1 127) (s.2.1 128) (s.1 2018)) (hO : ∀ x ∈ q.1, gOp g po (s.2.1 118) (s.2.1 119) x) (hv : gLv q.1 (fun _ => none) (s.2.1 130)) : wO (mo_loop (xf_0_longestAsleep_l29 v1 v2) (1, 0, s)) (fun t => ∃ F, xsF [] [130] s t ∧ gLv q.1 F (t.2.1 130) ∧ gLt (gNx g po 0) q.1 F 100000 ∧ ∀ x, x ∈ q.1 → F x = none → gFP (gNx g po 0) F x) := by
  have hlen := hq.len
  refine wO_loop (fun (n : Nat) (p : Int32 × Int32 × xs_S) => ∃ r F, r + n = N ∧ p.2.1 = nI r ∧ xsF [] [130] s p.2.2 ∧ gLv q.1 F (p.2.2.2.1 130) ∧ gLt (gNx g po 0) q.1 F (294 * r) ∧ ((p.1 = 1 ∧ gCt (gUl q.1 F) q.1.length + r ≤ q.1.length) ∨ (p.1 = 0 ∧ ∀ x, x ∈ q.1 → F x = none → gFP (gNx g po 0) F x))) ?_ N _ ⟨0, fun _ => none, by omega, rfl, xsF.rf, hv, fun x d _ h => (by cases h), Or.inl ⟨rfl, by have := gCt_le (gUl q.1 (fun _ => none)) q.1.length; omega⟩⟩
  rintro n ⟨w3, w4, u⟩ ⟨r, F, hr, e, hF, hv1, ht1, hfl⟩
  have e : w4 = nI r := e
  subst e
  have hF : xsF [] [130] s u := hF
  have hv1 : gLv q.1 F (u.2.1 130) := hv1
  have hbig : gLt (gNx g po 0) q.1 F 100000 := fun y d hy hd => ⟨by have := (ht1 y d hy hd).1; omega, (ht1 y d hy hd).2⟩
  unfold xf_0_longestAsleep_l29
  by_cases hrN : r = N
  · refine wO_pos (show (294 : Int32) ≤ nI r from nI_le (a := 294) (by omega) (by omega)) (wO_some ⟨F, hF, hv1, hbig, fun x hx hfx => ?_⟩)
    rcases hfl with ⟨h1, h2⟩ | ⟨h1, h2⟩
    · exfalso
      have h0 : gCt (gUl q.1 F) q.1.length = 0 := by omega
      obtain ⟨j, hj⟩ := List.getElem?_of_mem hx
      have := (gAny_no.mp (gCt_0.mp h0)) j (g_slt hj)
      unfold gUl at this
      rw [hj] at this
      simp only at this
      rw [hfx] at this
      cases this
    · exact h2 x hx hfx
  · refine wO_neg (show ¬ (294 : Int32) ≤ nI r from nI_ge (b := 294) (by omega) (by omega)) ?_
    rcases hfl with ⟨h1, h2⟩ | ⟨h1, h2⟩
    · have h1 : w3 = 1 := h1
      subst h1
      refine wO_neg pu_10 ?_
      refine wO_bd (x_sweep (s := u) (B := 294 * r) hn hq hcl (by rw [hF.2.1 127 (by decide), hF.2.1 128 (by decide), hF.1 2018 (by decide)]; exact hb) (by rw [hF.2.1 118 (by decide), hF.2.1 119 (by decide)]; exact hO) hv1 ht1 (by omega)) ?_
      rintro ⟨w, v⟩ ⟨F2, k1, k2, k3, k4, k5⟩
      refine wO_some ⟨n - 1, by omega, r + 1, F2, by omega, nI_1 r, hF.tr k1, k2, fun y d hy hd => ⟨by have := (k3 y d hy hd).1; omega, (k3 y d hy hd).2⟩, ?_⟩
      rcases k5 with ⟨k5, x, k6, k7, d, k8⟩ | k5
      · refine Or.inl ⟨k5, ?_⟩
        have hsub : ∀ j, j < q.1.length → gUl q.1 F2 j = true → gUl q.1 F j = true := by
          intro j hj h
          unfold gUl at h ⊢
          cases hx : q.1[j]? with
          | none => rw [hx] at h; cases h
          | some y =>
            rw [hx] at h
            simp only at h ⊢
            cases hf : F y with
            | none => rfl
            | some d2 => rw [k4 y d2 (g_mem hx) hf] at h; cases h
        obtain ⟨c1, c2⟩ := gCt_sub hsub
        have hne : ¬ gCt (gUl q.1 F2) q.1.length = gCt (gUl q.1 F) q.1.length := by
          intro e
          obtain ⟨j, hj⟩ := List.getElem?_of_mem k6
          have h3 := c2.mp e j (g_slt hj) (by unfold gUl; rw [hj]; simp only; rw [k7]; rfl)
          unfold gUl at h3
          rw [hj] at h3
          simp only at h3
          rw [k8] at h3
          cases h3
        omega
      · exact Or.inr k5
    · have h1 : w3 = 0 := h1
      subst h1
      exact wO_pos rfl (wO_some ⟨F, hF, hv1, hbig, h2⟩)
theorem gTk_inf {nx : Nat → Nat → Option Nat} {L : List Nat} {F : Nat → Option Nat} (hcl : ∀ x w u, x ∈ L → w < 7 → nx x w = some u → u ∈ L) (hfp : ∀ x, x ∈ L → F x = none → gFP nx F x) : ∀ k x, x ∈ L → F x = none → gCm x = true → gTk nx k x = true
  | 0, x, _, _, hc => hc
  | k + 1, x, hx, hf, _ => by
    obtain ⟨w, u, h1, h2, h3, h4⟩ := hfp x hx hf
    rw [gTk_s, gAny_iff]
    refine ⟨w, h1, ?_⟩
    unfold gTs
    rw [h2]
    exact gTk_inf hcl hfp k u (hcl x w u hx h1 h2) h4 h3
theorem x_spr2 {g : gT} {po : Option (Nat × Nat)} {s : xs_S} {st : Nat} (h : XC g po st s) : wO (xf_0_spread s (nI (gph st)) 0) (fun t => xsF xQi xQa s t ∧ (XC g po st t ∧ t.1 2024 = 0) ∧ gBv gph g.1.2 (gBf (gNx g po 0) st) (t.2.1 127) (t.2.1 128) (t.1 2018) ∧ ∀ x ∈ (gBf (gNx g po 0) st).1, gOp g po (t.2.1 118) (t.2.1 119) x) := by
  refine wO_mono (x_spread (wo := 0) h.1 h.2.2.2 (by omega)) ?_
  rintro t ⟨h1, h2, ⟨h3, h4, h5⟩, h6, h7⟩
  have h1 : xsF xQi xQa s t := h1.wk (by decide) (by decide)
  exact ⟨h1, ⟨⟨h2, ⟨h.2.1.1.sp h4 (h1.1 1875 (by decide)), Or.inl h5⟩, (h1.1 400 (by decide)).trans h.2.2.1, h.2.2.2⟩, h5⟩, h6, h7⟩
theorem q_together {g : gT} {lv : Nat} {s : xs_S} {m : ms_S} {po : Option (Nat × Nat)} {st : Nat} (hx : XC g po st s) (hm : MN g lv m po st) : gQ g po st s m (xf_11_together s) (mf_together m) := by
  have hst := hx.2.2.2
  have hst1 := hst.1
  have hgl := gph_lt hst1
  have hn := hx.1.1.2.1
  have hok : ∀ st w u, gSt g.1.2 st → w < 7 → gNx g po 0 st w = some u → gSt g.1.2 u := fun st w u hst _ hu => gNx_ok hn hst.1 hu
  refine gQ_of (P := gTg (gNx g po 0) st 200) gTg_u ?_ (m_together hm)
  unfold xf_11_together xf_0_longestAsleep
  rw [hx.2.2.1]
  refine wO_bd (Q := fun p => gTg (gNx g po 0) st 200 p.1 ∧ xsF xQi xQa s p.2 ∧ XC g po st p.2) ?_ (fun p hp => wO_some hp)
  refine wO_eq (x_awake hst1) ?_
  show wO (if (bif gCm st then (0 : Int32) else 1) = 0 then _ else _) _
  cases hc : gCm st with
  | false => exact wO_neg pu_10 (wO_some ⟨Or.inl ⟨0, by omega, fun j hj => absurd hj (by omega), gTk_0 (Or.inl hc), rfl⟩, xsF.rf, hx⟩)
  | true =>
    refine wO_pos rfl ?_
    obtain ⟨b1, b2, b3⟩ := gBf_ok hst hok
    have hlen := b1.len
    have hms := g_mem b2
    refine wO_bd (x_spr2 hx) ?_
    rintro t ⟨h1, ⟨h2, hz⟩, h3, h4⟩
    generalize gBf (gNx g po 0) st = q at *
    refine wO_bd (Q := fun t2 => xsF [] [130] t t2 ∧ gLv q.1 (fun _ => none) (t2.2.1 130)) ?_ ?_
    · refine wO_count (fun (i : Nat) (p : Int32 × xs_S) => p.1 = nI i ∧ xsF [] [130] t p.2 ∧ ∀ (j : Nat) (x : Nat), j < i → q.1[j]? = some x → p.2.2.1 130 (gph x) = -1) q.1.length ?_ ?_ _ ⟨rfl, xsF.rf, fun j _ hj => absurd hj (by omega)⟩
      · rintro i ⟨w, u⟩ hi ⟨e, hF, hu⟩
        have e : w = nI i := e
        subst e
        have hF : xsF [] [130] t u := hF
        have hxx : q.1[i]? = some (q.1[i]) := List.getElem?_eq_getElem hi
        generalize q.1[i] = x at hxx
        have hgx := gph_lt (b1.2 x (g_mem hxx)).1.1
        unfold xf_0_longestAsleep_l11
        refine wO_neg (show ¬ u.1 2018 ≤ nI i by rw [hF.1 2018 (by decide), h3.1]; exact nI_ge hi (by omega)) ?_
        refine wO_agv (k := i) (v := nI (gph x)) rfl (by omega) (by omega) (by rw [hF.2.1 127 (by decide)]; exact h3.2.1 i x hxx) ?_
        refine wO_in (k := gph x) rfl (by omega) (by omega) ?_
        rw [nI_clamp (by omega)]
        refine wO_some ⟨nI_1 i, hF.tr (xsF.sA (by decide)), fun j y hj hy => ?_⟩
        show upd (u.2.1 130) (gph x) (-1) (gph y) = -1
        by_cases he : y = x
        · subst he; exact upd_eq
        · rw [upd_ne (fun e => he (gph_inj e))]
          refine hu j y ?_ hy
          by_cases hji : j = i
          · subst hji; rw [hxx] at hy; cases hy; exact absurd rfl he
          · omega
      · rintro ⟨w, u⟩ ⟨e, hF, hu⟩
        have e : w = nI q.1.length := e
        subst e
        have hF : xsF [] [130] t u := hF
        unfold xf_0_longestAsleep_l11
        refine wO_pos (by rw [hF.1 2018 (by decide), h3.1]; exact Int32.le_refl _) (wO_some ⟨hF, fun x hxm => ?_⟩)
        obtain ⟨j, hj⟩ := List.getElem?_of_mem hxm
        exact hu j x (g_slt hj) hj
    · rintro t2 ⟨f2, v2⟩
      obtain ⟨N, hN⟩ : ∃ N, N = 294 := ⟨294, rfl⟩
      refine wO_bd (x_sweeps (s := t2) hN hn b1 b3 (by rw [f2.2.1 127 (by decide), f2.2.1 128 (by decide), f2.1 2018 (by decide)]; exact h3) (by rw [f2.2.1 118 (by decide), f2.2.1 119 (by decide)]; exact h4) v2) ?_
      rintro t3 ⟨F, f3, v3, l3, p3⟩
      have f23 : xsF [] [130] t t3 := f2.tr f3
      have hfr : xsF xQi xQa s t3 := h1.tr (f23.wk (by decide) (by decide))
      have hXC : XC g po st t3 := ⟨h2.1.mv f23 (by decide) (by decide) (by rw [f23.2.1 118 (by decide), f23.2.1 119 (by decide)]; exact h2.1.2.2), ⟨h2.2.1.1.mv (f23.1 2023 (by decide)) (f23.1 1875 (by decide)), Or.inl ((f23.1 2024 (by decide)).trans hz)⟩, (f23.1 400 (by decide)).trans h2.2.2.1, hst⟩
      unfold xf_0_longestAsleep_j77
      have hvs := v3 st hms
      refine wO_agv (k := gph st) rfl (by omega) (by omega) hvs ?_
      cases hf : F st with
      | none =>
        refine wO_pos rfl (wO_some ⟨Or.inr ⟨fun j _ => gTk_inf b3 p3 (j + 1) st hms hf hc, rfl⟩, hfr, hXC⟩)
      | some d =>
        rw [hf] at hvs
        obtain ⟨d1, d2⟩ := l3 st d hms hf
        have d2 := d2 hc
        refine wO_neg (show ¬ nI d = -1 from pu_n1 (by omega)) ?_
        refine wO_agv (k := gph st) rfl (by omega) (by omega) hvs ?_
        refine wO_some ⟨?_, hfr, hXC⟩
        show gTg (gNx g po 0) st 200 (mm_min (nI 200) (nI d))
        rw [pu_min (by omega) (by omega)]
        by_cases hd : d < 200
        · refine Or.inl ⟨d, hd, fun j hj => (d2 (j + 1)).mpr (by omega), ?_, congrArg nI (by omega)⟩
          cases ht : gTk (gNx g po 0) (d + 1) st with
          | false => rfl
          | true => exact absurd ((d2 (d + 1)).mp ht) (by omega)
        · exact Or.inr ⟨fun j hj => (d2 (j + 1)).mpr (by omega), congrArg nI (by omega)⟩
