/-! laws: the class's steps -/
def gCst (x : gIt) : Int32 := if x.1 = 0 then nI x.2 else if x.1 = 1 then nI (10000 + x.2) else nI (19998 + x.1)
def gSeg (A : Nat → Int32) (a : Nat) (L : List Int32) : Prop := ∀ (i : Nat) (w : Int32), L[i]? = some w → A (a + i) = w
theorem gSeg_app {A : Nat → Int32} {a : Nat} {L M : List Int32} (h : gSeg A a (L ++ M)) : gSeg A a L ∧ gSeg A (a + L.length) M := by
  refine ⟨fun i x hx => h i x ?_, fun i x hx => ?_⟩
  · have hlt : i < L.length := by
      rcases Nat.lt_or_ge i L.length with q | q
      · exact q
      · rw [List.getElem?_eq_none q] at hx; cases hx
    rw [List.getElem?_append_left hlt]
    exact hx
  · have := h (L.length + i) x (by rw [List.getElem?_append_right (by omega), Nat.add_sub_cancel_left]; exact hx)
    rw [show a + L.length + i = a + (L.length + i) by omega]
    exact this
theorem gSeg_cons {A : Nat → Int32} {a : Nat} {x : Int32} {M : List Int32} (h : gSeg A a (x :: M)) : A a = x ∧ gSeg A (a + 1) M := by
  refine ⟨h 0 x rfl, fun i w hw => ?_⟩
  have := h (i + 1) w (by simpa using hw)
  rw [show a + 1 + i = a + (i + 1) by omega]
  exact this
theorem x_vm_go {D z : Nat} (hD : D ≤ 24) (hz : z ≤ 401) : ∀ (X : List gIt) (a : Nat) (st : List Int32) (c : Nat) (s : xs_S) (h2 : Nat), gWfr D X st.length h2 → st.length ≤ D → gSeg (s.2.1 13) a (X.map gCst) → a + X.length < z → s.1 193 = nI z → c ≤ a → gPil st (s.2.1 16) → ∃ t, xsF [] [16] s t ∧ ((gRun (s.2.1 15) X st = none ∧ mo_loop xf_3_value_12_l15 (nI a, nI st.length, nI c, s) = some (.inr (.inr (.inr (.inl t))))) ∨ ∃ st2, gRun (s.2.1 15) X st = some st2 ∧ gPil st2 (t.2.1 16) ∧ mo_loop xf_3_value_12_l15 (nI a, nI st.length, nI c, s) = mo_loop xf_3_value_12_l15 (nI (a + X.length), nI st2.length, nI (c + X.length), t)) := by
  intro X
  induction X with
  | nil =>
    intro a st c s h2 hw hsd hg ha h193 hc hp
    exact ⟨s, xsF.rf, Or.inr ⟨st, rfl, hp, rfl⟩⟩
  | cons x X ih =>
    intro a st c s h2 hw hsd hg ha h193 hc hp
    have hlen : (x :: X).length = X.length + 1 := rfl
    rw [hlen] at ha
    obtain ⟨g1, g2⟩ := gSeg_cons (show gSeg (s.2.1 13) a (gCst x :: X.map gCst) from hg)
    have hx5 := gItk_le hw.1
    have hw2 := hw.2
    have head : ∀ (r : (Int32 × Int32 × Int32 × xs_S) ⊕ ((Int32 × xs_S) ⊕ (xs_S) ⊕ (xs_S) ⊕ (xs_S) ⊕ (xs_S))), ¬ gCst x = 20005 → wO (if (20000 : Int32) ≤ gCst x then
        (if nI st.length < (2 : Int32) then some (.inr (.inr (.inr (.inl (s))))) else (if (nI a + (1 : Int32)) < nI z then
        ((mo_ag 24 (s.2.1 16) (nI st.length - (2 : Int32))).bind fun x_10 => ((mo_ag 24 (s.2.1 16) (nI st.length - (1 : Int32))).bind fun x_11 =>
        (if gCst x = (20004 : Int32) then (if x_11 ≤ x_10 then ((mo_ag 401 (s.2.1 13) (nI a + (1 : Int32))).bind fun x_14 => (xf_3_value_12_j108 (s) ((nI st.length + (-2 : Int32))) (nI c) (x_14))) else (xf_3_value_12_j108 (s) ((nI st.length + (-2 : Int32))) (nI c) (((nI a + (1 : Int32)) + (1 : Int32)))))
        else (if gCst x = (20003 : Int32) then (if x_11 = (0 : Int32) then some (.inr (.inr (.inr (.inr (.inl (s)))))) else (xf_3_value_12_j117 (s) ((nI a + (1 : Int32))) (nI st.length) (nI c) (gCst x) (x_10) (x_11))) else (xf_3_value_12_j117 (s) ((nI a + (1 : Int32))) (nI st.length) (nI c) (gCst x) (x_10) (x_11))))))
        else some (.inr (.inr (.inr (.inl (s)))))))
        else (if nI st.length < (24 : Int32) then (if (10000 : Int32) ≤ gCst x then ((mo_ag 9 (s.2.1 15) (gCst x - (10000 : Int32))).bind fun x_21 => (xf_3_value_12_j67 (s) ((nI a + (1 : Int32))) (nI st.length) (nI c) (x_21) (nI st.length))) else (xf_3_value_12_j67 (s) ((nI a + (1 : Int32))) (nI st.length) (nI c) (gCst x) (nI st.length))) else some (.inr (.inr (.inl (s)))))) (fun q => q = r) → xf_3_value_12_l15 (nI a, nI st.length, nI c, s) = some r := fun r hne hr => wO_iff.mp (by
      unfold xf_3_value_12_l15
      dsimp only
      rw [h193]
      refine wO_neg (show ¬ nI 401 ≤ nI c from nI_ge (by omega) (by omega)) (wO_neg (nI_ge (show a < z by omega) (by omega)) (wO_agv (k := a) rfl (by omega) (by omega) g1 (wO_neg hne hr))))
    by_cases c0 : x.1 < 2
    · rw [if_pos c0] at hw2
      have push : ∀ v : Int32, v = (if x.1 = 0 then nI x.2 else s.2.1 15 x.2) → xf_3_value_12_l15 (nI a, nI st.length, nI c, s) = some (.inl (nI (a + 1), nI (st.length + 1), nI (c + 1), xs_sA s 16 (upd (s.2.1 16) st.length v))) → ∃ t, xsF [] [16] s t ∧ ((gRun (s.2.1 15) (x :: X) st = none ∧ mo_loop xf_3_value_12_l15 (nI a, nI st.length, nI c, s) = some (.inr (.inr (.inr (.inl t))))) ∨ ∃ st2, gRun (s.2.1 15) (x :: X) st = some st2 ∧ gPil st2 (t.2.1 16) ∧ mo_loop xf_3_value_12_l15 (nI a, nI st.length, nI c, s) = mo_loop xf_3_value_12_l15 (nI (a + (x :: X).length), nI st2.length, nI (c + (x :: X).length), t)) := fun v hv hstep => by
        have er : gRun (s.2.1 15) (x :: X) st = gRun (s.2.1 15) X (v :: st) := by
          rw [hv]
          exact if_pos c0
        rw [er, mo_loop_inl hstep, hlen, show a + (X.length + 1) = a + 1 + X.length by omega, show c + (X.length + 1) = c + 1 + X.length by omega]
        obtain ⟨t, ft, hr⟩ := ih (a + 1) (v :: st) (c + 1) (xs_sA s 16 (upd (s.2.1 16) st.length v)) h2 hw2.2 hw2.1 g2 (by omega) h193 (by omega) (gPil_push hp)
        exact ⟨t, (xsF.sA (by decide)).tr ft, hr⟩
      have j67 : ∀ v : Int32, wO (xf_3_value_12_j67 s (nI a + (1 : Int32)) (nI st.length) (nI c) v (nI st.length)) (fun q => q = .inl (nI (a + 1), nI (st.length + 1), nI (c + 1), xs_sA s 16 (upd (s.2.1 16) st.length v))) := fun v => by
        unfold xf_3_value_12_j67 xf_3_value_12_j128
        refine wO_in (k := st.length) rfl (by omega) (by omega) ?_
        rw [nI_clamp (by omega), nI_1, nI_1, nI_1]
        exact wO_some rfl
      have h24 : nI st.length < (24 : Int32) := nI_lt (b := 24) (by omega) (by omega)
      by_cases cz : x.1 = 0
      · have hx : x.2 < 10000 := by
          rcases hw.1 with q | q | q
          · exact q.2
          · omega
          · omega
        have ec : gCst x = nI x.2 := by unfold gCst; rw [if_pos cz]
        refine push (nI x.2) (by rw [if_pos cz]) (head _ ?_ ?_)
        · rw [ec]
          exact fun e => absurd ((nI_eq (b := 20005) (by omega) (by omega)).mp e) (by omega)
        · rw [ec]
          exact wO_neg (show ¬ nI 20000 ≤ nI x.2 from nI_ge (by omega) (by omega)) (wO_pos h24 (wO_neg (show ¬ nI 10000 ≤ nI x.2 from nI_ge (by omega) (by omega)) (j67 _)))
      · have hx : x.2 < 9 := by
          rcases hw.1 with q | q | q
          · omega
          · exact q.2
          · omega
        have ec : gCst x = nI (10000 + x.2) := by unfold gCst; rw [if_neg cz, if_pos (by omega)]
        refine push (s.2.1 15 x.2) (by rw [if_neg cz]) (head _ ?_ ?_)
        · rw [ec]
          exact fun e => absurd ((nI_eq (b := 20005) (by omega) (by omega)).mp e) (by omega)
        · rw [ec]
          refine wO_neg (show ¬ nI 20000 ≤ nI (10000 + x.2) from nI_ge (by omega) (by omega)) (wO_pos h24 (wO_pos (show nI 10000 ≤ nI (10000 + x.2) from nI_le (by omega) (by omega)) (wO_ag (k := x.2) ?_ hx (by omega) (j67 _))))
          rw [show nI (10000 + x.2) - (10000 : Int32) = nI (10000 + x.2 - 10000) from pu_sub (b := 10000) (by omega), Nat.add_sub_cancel_left]
    · rw [if_neg c0] at hw2
      match st, hsd, hw2, hp, head with
      | b :: a1 :: st3, hsd, hw2, hp, head =>
        have hsd : st3.length + 2 ≤ D := hsd
        obtain ⟨t1, t2⟩ := gPil_top hp
        have hl3 : (b :: a1 :: st3).length = st3.length + 2 := rfl
        have ec : gCst x = nI (19998 + x.1) := by unfold gCst; rw [if_neg (by omega), if_neg (by omega)]
        have e2 : nI (b :: a1 :: st3).length - (2 : Int32) = nI st3.length := by
          rw [hl3]
          exact pu_sub (a := st3.length + 2) (b := 2) (by omega)
        have e1 : nI (b :: a1 :: st3).length - (1 : Int32) = nI (st3.length + 1) := by
          rw [hl3]
          exact pu_sub (a := st3.length + 2) (b := 1) (by omega)
        have e3 : nI (b :: a1 :: st3).length + (-1 : Int32) = nI (st3.length + 1) := by
          rw [hl3, show st3.length + 2 = st3.length + 1 + 1 by omega, ← nI_1 (st3.length + 1), Int32.add_assoc, show (1 : Int32) + (-1) = 0 by decide, Int32.add_zero]
        have e4 : nI (st3.length + 1) - (1 : Int32) = nI st3.length := pu_sub (a := st3.length + 1) (b := 1) (by omega)
        have hne5 : ¬ gCst x = 20005 := by
          rw [ec]
          exact fun e => absurd ((nI_eq (b := 20005) (by omega) (by omega)).mp e) (by omega)
        have mid : ∀ (r : (Int32 × Int32 × Int32 × xs_S) ⊕ ((Int32 × xs_S) ⊕ (xs_S) ⊕ (xs_S) ⊕ (xs_S) ⊕ (xs_S))), wO (if gCst x = (20003 : Int32) then (if b = (0 : Int32) then some (.inr (.inr (.inr (.inr (.inl (s)))))) else (xf_3_value_12_j117 (s) ((nI a + (1 : Int32))) (nI (b :: a1 :: st3).length) (nI c) (gCst x) a1 b)) else (xf_3_value_12_j117 (s) ((nI a + (1 : Int32))) (nI (b :: a1 :: st3).length) (nI c) (gCst x) a1 b)) (fun q => q = r) → xf_3_value_12_l15 (nI a, nI (b :: a1 :: st3).length, nI c, s) = some r := fun r hr => by
          refine head r hne5 ?_
          refine wO_pos (by rw [ec]; exact nI_le (a := 20000) (by omega) (by omega)) (wO_neg (by rw [hl3]; exact nI_nlt (b := 2) (by omega) (by omega)) (wO_pos (by rw [nI_1]; exact nI_lt (by omega) (by omega)) ?_))
          rw [e2, e1]
          refine wO_agv (k := st3.length) rfl (by omega) (by omega) t2 (wO_agv (k := st3.length + 1) rfl (by omega) (by omega) t1 (wO_neg ?_ hr))
          rw [ec]
          exact fun e => absurd ((nI_eq (b := 20004) (by omega) (by omega)).mp e) (by omega)
        by_cases hnd : x.1 = 5 ∧ b = 0
        · refine ⟨s, xsF.rf, Or.inl ⟨(if_neg c0).trans (if_pos hnd), mo_loop_inr (mid _ ?_)⟩⟩
          exact wO_pos (by rw [ec, hnd.1]; rfl) (wO_pos hnd.2 (wO_some rfl))
        · have er : gRun (s.2.1 15) (x :: X) (b :: a1 :: st3) = gRun (s.2.1 15) X (gOpv x.1 a1 b :: st3) := (if_neg c0).trans (if_neg hnd)
          have j117 : wO (xf_3_value_12_j117 (s) ((nI a + (1 : Int32))) (nI (b :: a1 :: st3).length) (nI c) (gCst x) a1 b) (fun q => q = .inl (nI (a + 1), nI (st3.length + 1), nI (c + 1), xs_sA s 16 (upd (s.2.1 16) st3.length (gOpv x.1 a1 b)))) := by
            unfold xf_3_value_12_j117 xf_3_value_12_j128
            refine wO_eq (x := gOpv x.1 a1 b) (wO_iff.mp ?_) ?_
            · unfold xf_3_reckon gOpv
              rw [ec]
              rcases (show x.1 = 2 ∨ x.1 = 3 ∨ x.1 = 4 ∨ x.1 = 5 by omega) with q | q | q | q
              · rw [q]; exact wO_pos rfl (wO_some rfl)
              · rw [q]; exact wO_neg (by decide) (wO_pos rfl (wO_some rfl))
              · rw [q]; exact wO_neg (by decide) (wO_neg (by decide) (wO_pos rfl (wO_some rfl)))
              · have hb0 : ¬ b = 0 := fun e => hnd ⟨q, e⟩
                rw [q]; exact wO_neg (by decide) (wO_neg (by decide) (wO_neg (by decide) (wO_neg hb0 (wO_neg hb0 (wO_some rfl)))))
            · rw [e3, e4]
              refine wO_in (k := st3.length) rfl (by omega) (by omega) ?_
              rw [nI_clamp (by omega), nI_1, nI_1]
              exact wO_some rfl
          have hstep := mid _ (wO_ite (fun _ => wO_ite (fun q0 => by
            rename_i q3
            rw [ec] at q3
            have : 19998 + x.1 = 20003 := (nI_eq (b := 20003) (by omega) (by omega)).mp q3
            exact absurd ⟨by omega, q0⟩ hnd) (fun _ => j117)) (fun _ => j117))
          rw [er, mo_loop_inl hstep, hlen, show a + (X.length + 1) = a + 1 + X.length by omega, show c + (X.length + 1) = c + 1 + X.length by omega]
          obtain ⟨t, ft, hr⟩ := ih (a + 1) (gOpv x.1 a1 b :: st3) (c + 1) (xs_sA s 16 (upd (s.2.1 16) st3.length (gOpv x.1 a1 b))) h2 hw2.2 (by show st3.length + 1 ≤ D; omega) g2 (by omega) h193 (by omega) (gPil_op hp)
          exact ⟨t, (xsF.sA (by decide)).tr ft, hr⟩
      | [b], hsd, hw2, hp, head => exact absurd hw2.1 (by simp)
      | [], hsd, hw2, hp, head => exact absurd hw2.1 (by simp)
/-- a law's steps, from a on -/
def gCC : List (List gIt × List gIt × List gIt) → List gIt → Nat → List Int32
  | [], F, _ => F.map gCst ++ [nI 20005]
  | b :: L, F, a => b.1.map gCst ++ (b.2.1.map gCst ++ ([nI 20004, nI (a + b.1.length + b.2.1.length + b.2.2.length + 3)] ++ (b.2.2.map gCst ++ ([nI 20005] ++ gCC L F (a + b.1.length + b.2.1.length + b.2.2.length + 3)))))
theorem x_done {a h c z : Nat} {s : xs_S} (hc : c ≤ a) (ha : a < z) (hz : z ≤ 401) (h193 : s.1 193 = nI z) (g1 : s.2.1 13 a = nI 20005) : mo_loop xf_3_value_12_l15 (nI a, nI h, nI c, s) = some (.inl (nI h, s)) := by
  refine mo_loop_inr (wO_iff.mp ?_)
  unfold xf_3_value_12_l15
  dsimp only
  rw [h193]
  exact wO_neg (show ¬ nI 401 ≤ nI c from nI_ge (by omega) (by omega)) (wO_neg (nI_ge ha (by omega)) (wO_agv (k := a) rfl (by omega) (by omega) g1 (wO_pos rfl (wO_some rfl))))
theorem x_jump {a c z tg : Nat} {s : xs_S} {x y : Int32} (hc : c ≤ a) (ha : a + 1 < z) (hz : z ≤ 401) (h193 : s.1 193 = nI z) (g1 : s.2.1 13 a = nI 20004) (g2 : s.2.1 13 (a + 1) = nI tg) (hp : gPil [y, x] (s.2.1 16)) : mo_loop xf_3_value_12_l15 (nI a, nI 2, nI c, s) = mo_loop xf_3_value_12_l15 (nI (if x < y then a + 2 else tg), nI 0, nI (c + 1), s) := by
  have t1 : s.2.1 16 1 = y := hp 0 y rfl
  have t2 : s.2.1 16 0 = x := hp 1 x rfl
  refine mo_loop_inl (wO_iff.mp ?_)
  unfold xf_3_value_12_l15 xf_3_value_12_j108 xf_3_value_12_j128
  dsimp only
  rw [h193]
  refine wO_neg (show ¬ nI 401 ≤ nI c from nI_ge (by omega) (by omega)) (wO_neg (nI_ge (show a < z by omega) (by omega)) (wO_agv (k := a) rfl (by omega) (by omega) g1 (wO_neg (by decide) (wO_pos (by decide) (wO_neg (show ¬ nI 2 < (2 : Int32) by decide) (wO_pos (by rw [nI_1]; exact nI_lt ha (by omega)) (wO_agv (k := 0) (v := x) rfl (by omega) (by omega) t2 (wO_agv (k := 1) (v := y) rfl (by omega) (by omega) t1 (wO_pos rfl ?_)))))))))
  rw [show nI 2 + (-2 : Int32) = nI 0 by decide, nI_1 a, nI_1 c, nI_1 (a + 1)]
  by_cases hlt : x < y
  · rw [if_pos hlt]
    exact wO_neg (Int32.not_le.mpr hlt) (wO_some rfl)
  · rw [if_neg hlt]
    exact wO_pos (Int32.not_lt.mp hlt) (wO_agv (k := a + 1) rfl (by omega) (by omega) g2 (wO_some rfl))
