/-! laws: the class's laws -/
theorem gMapl (X : List gIt) : (X.map gCst).length = X.length := List.length_map ..
theorem x_law_go {z : Nat} {F : List gIt} (hz : z ≤ 401) : ∀ (L : List (List gIt × List gIt × List gIt)) (a c : Nat) (s : xs_S), gLwf 20 L F → gSeg (s.2.1 13) a (gCC L F a) → a + (gCC L F a).length ≤ z → s.1 193 = nI z → c ≤ a → ∃ t r, mo_loop xf_3_value_12_l15 (nI a, nI 0, nI c, s) = some r ∧ xsF [] [16] s t ∧ ((r = .inl (nI 1, t) ∧ t.2.1 16 0 = gLaw (s.2.1 15) L F) ∨ (r = .inr (.inr (.inr (.inl t))) ∧ gLaw (s.2.1 15) L F = 0)) := by
  have one : ∀ (T : List gIt) (a c : Nat) (s : xs_S), gWfr 20 T 0 1 → gSeg (s.2.1 13) a (T.map gCst ++ [nI 20005]) → a + T.length + 1 ≤ z → s.1 193 = nI z → c ≤ a → ∃ t r, mo_loop xf_3_value_12_l15 (nI a, nI 0, nI c, s) = some r ∧ xsF [] [16] s t ∧ ((r = .inl (nI 1, t) ∧ t.2.1 16 0 = (gEvl (s.2.1 15) T).getD 0) ∨ (r = .inr (.inr (.inr (.inl t))) ∧ (gEvl (s.2.1 15) T).getD 0 = 0)) := fun T a c s hw hg ha h193 hc => by
    obtain ⟨g1, g2⟩ := gSeg_app hg
    rw [gMapl] at g2
    have es := gEvl_some (v := s.2.1 15) hw
    obtain ⟨t, ft, hr⟩ := x_vm_go (D := 20) (by omega) hz T a [] c s 1 hw (Nat.zero_le _) g1 (by omega) h193 hc (fun j x hx => by simp at hx)
    rcases hr with ⟨hn, hm⟩ | ⟨st2, hs2, hp2, hm⟩
    · rw [hn] at es
      refine ⟨t, _, hm, ft, Or.inr ⟨rfl, ?_⟩⟩
      cases he : gEvl (s.2.1 15) T with
      | none => rfl
      | some x => rw [he] at es; cases es
    · rw [hs2] at es
      cases he : gEvl (s.2.1 15) T with
      | none => rw [he] at es; cases es
      | some x =>
        rw [he] at es
        have es : st2 = [x] := Option.some.inj es
        subst es
        refine ⟨t, .inl (nI 1, t), ?_, ft, Or.inl ⟨rfl, ?_⟩⟩
        · refine Eq.trans hm ?_
          refine x_done (z := z) (by omega) (by omega) hz ((ft.1 193 (by decide)).trans h193) ?_
          rw [ft.2.1 13 (by decide)]
          exact (gSeg_cons g2).1
        · exact hp2 0 x rfl
  intro L
  induction L with
  | nil =>
    intro a c s hw hg ha h193 hc
    have ha : a + (F.map gCst ++ [nI 20005]).length ≤ z := ha
    rw [List.length_append, gMapl] at ha
    exact one F a c s hw hg (by simpa [Nat.add_assoc] using ha) h193 hc
  | cons b L ih =>
    obtain ⟨U, V, T⟩ := b
    intro a c s hw hg ha h193 hc
    obtain ⟨w1, w2, w3, w4⟩ := hw
    have w1 : gWfr 20 U 0 1 := w1
    have w2 : gWfr 20 V 0 1 := w2
    have w3 : gWfr 20 T 0 1 := w3
    have hg : gSeg (s.2.1 13) a (U.map gCst ++ (V.map gCst ++ ([nI 20004, nI (a + U.length + V.length + T.length + 3)] ++ (T.map gCst ++ ([nI 20005] ++ gCC L F (a + U.length + V.length + T.length + 3)))))) := hg
    have hal : (gCC ((U, V, T) :: L) F a).length = U.length + (V.length + (2 + (T.length + (1 + (gCC L F (a + U.length + V.length + T.length + 3)).length)))) := by
      show (U.map gCst ++ (V.map gCst ++ ([nI 20004, nI (a + U.length + V.length + T.length + 3)] ++ (T.map gCst ++ ([nI 20005] ++ gCC L F (a + U.length + V.length + T.length + 3)))))).length = _
      simp only [List.length_append, gMapl]
      rfl
    rw [hal] at ha
    obtain ⟨g1, h1⟩ := gSeg_app hg
    obtain ⟨g2, h2⟩ := gSeg_app h1
    obtain ⟨g3, h3⟩ := gSeg_app h2
    rw [gMapl] at g2 h2 g3 h3
    rw [gMapl] at g3 h3
    have h3 : gSeg (s.2.1 13) (a + U.length + V.length + 2) (T.map gCst ++ ([nI 20005] ++ gCC L F (a + U.length + V.length + T.length + 3))) := h3
    have g4 : gSeg (s.2.1 13) (a + U.length + V.length + 2) (T.map gCst ++ [nI 20005]) := by
      rw [← List.append_assoc] at h3
      exact (gSeg_app h3).1
    have g5 : gSeg (s.2.1 13) (a + U.length + V.length + T.length + 3) (gCC L F (a + U.length + V.length + T.length + 3)) := by
      rw [← List.append_assoc] at h3
      have := (gSeg_app h3).2
      rw [List.length_append, gMapl] at this
      rw [show a + U.length + V.length + T.length + 3 = a + U.length + V.length + 2 + (T.length + [nI 20005].length) by show _ = a + U.length + V.length + 2 + (T.length + 1); omega]
      rw [show a + U.length + V.length + T.length + 3 = a + U.length + V.length + 2 + (T.length + [nI 20005].length) by show _ = a + U.length + V.length + 2 + (T.length + 1); omega] at this
      exact this
    obtain ⟨k1, k2⟩ := gSeg_cons g3
    obtain ⟨k2, -⟩ := gSeg_cons k2
    have eU := gEvl_some (v := s.2.1 15) w1
    have eV := gEvl_some (v := s.2.1 15) w2
    have hL : gLaw (s.2.1 15) ((U, V, T) :: L) F = (match gEvl (s.2.1 15) U, gEvl (s.2.1 15) V with
      | some x, some y => if x < y then (gEvl (s.2.1 15) T).getD 0 else gLaw (s.2.1 15) L F
      | _, _ => 0) := rfl
    obtain ⟨t, ft, hr⟩ := x_vm_go (D := 20) (by omega) hz U a [] c s 1 w1 (Nat.zero_le _) g1 (by omega) h193 hc (fun j x hx => by simp at hx)
    have t193 : t.1 193 = nI z := (ft.1 193 (by decide)).trans h193
    have t13 : t.2.1 13 = s.2.1 13 := ft.2.1 13 (by decide)
    have t15 : t.2.1 15 = s.2.1 15 := ft.2.1 15 (by decide)
    rcases hr with ⟨hn, hm⟩ | ⟨st2, hs2, hp2, hm⟩
    · rw [hn] at eU
      refine ⟨t, _, hm, ft, Or.inr ⟨rfl, ?_⟩⟩
      cases he : gEvl (s.2.1 15) U with
      | none => rw [hL, he]
      | some x => rw [he] at eU; cases eU
    · rw [hs2] at eU
      cases he : gEvl (s.2.1 15) U with
      | none => rw [he] at eU; cases eU
      | some x =>
        rw [he] at eU
        have eU : st2 = [x] := Option.some.inj eU
        subst eU
        have w22 : gWfr 21 V ([x] : List Int32).length 2 := gWfr_sh (j := 1) w2
        obtain ⟨t2, ft2, hr2⟩ := x_vm_go (D := 21) (by omega) hz V (a + U.length) [x] (c + U.length) t 2 w22 (by show 1 ≤ 21; omega) (by rw [t13]; exact g2) (by omega) t193 (by omega) hp2
        rw [t15] at hr2
        have below : gRun (s.2.1 15) V [x] = (gRun (s.2.1 15) V []).map (· ++ [x]) := gRun_below (st := []) w2
        have f2 : xsF [] [16] s t2 := ft.tr ft2
        rcases hr2 with ⟨hn2, hm2⟩ | ⟨st3, hs3, hp3, hm2⟩
        · rw [below] at hn2
          refine ⟨t2, _, hm.trans hm2, f2, Or.inr ⟨rfl, ?_⟩⟩
          cases he2 : gEvl (s.2.1 15) V with
          | none => rw [hL, he, he2]
          | some y => rw [eV, he2] at hn2; cases hn2
        · rw [below, eV] at hs3
          cases he2 : gEvl (s.2.1 15) V with
          | none => rw [he2] at hs3; cases hs3
          | some y =>
            rw [he2] at hs3
            have hs3 : [y, x] = st3 := Option.some.inj hs3
            subst hs3
            have u193 : t2.1 193 = nI z := (ft2.1 193 (by decide)).trans t193
            have u13 : t2.2.1 13 = s.2.1 13 := (ft2.2.1 13 (by decide)).trans t13
            have u15 : t2.2.1 15 = s.2.1 15 := (ft2.2.1 15 (by decide)).trans t15
            have jm := x_jump (a := a + U.length + V.length) (c := c + U.length + V.length) (z := z) (tg := a + U.length + V.length + T.length + 3) (s := t2) (x := x) (y := y) (by omega) (by omega) hz u193 (by rw [u13]; exact k1) (by rw [u13]; exact k2) hp3
            have chain := hm.trans (hm2.trans jm)
            rw [hL, he, he2]
            show ∃ t r, mo_loop xf_3_value_12_l15 (nI a, nI 0, nI c, s) = some r ∧ xsF [] [16] s t ∧ ((r = .inl (nI 1, t) ∧ t.2.1 16 0 = if x < y then (gEvl (s.2.1 15) T).getD 0 else gLaw (s.2.1 15) L F) ∨ (r = .inr (.inr (.inr (.inl t))) ∧ (if x < y then (gEvl (s.2.1 15) T).getD 0 else gLaw (s.2.1 15) L F) = 0))
            by_cases hlt : x < y
            · rw [if_pos hlt] at chain ⊢
              obtain ⟨t3, r, q1, q2, q3⟩ := one T (a + U.length + V.length + 2) (c + U.length + V.length + 1) t2 w3 (by rw [u13]; exact g4) (by omega) u193 (by omega)
              rw [u15] at q3
              exact ⟨t3, r, chain.trans q1, f2.tr q2, q3⟩
            · rw [if_neg hlt] at chain ⊢
              obtain ⟨t3, r, q1, q2, q3⟩ := ih (a + U.length + V.length + T.length + 3) (c + U.length + V.length + 1) t2 w4 (by rw [u13]; exact g5) (by omega) u193 (by omega)
              rw [u15] at q3
              exact ⟨t3, r, chain.trans q1, f2.tr q2, q3⟩
/-- one law of the class: where it starts, its steps -/
def gXLk (z : Nat) (k : Nat) (o : Option gLd) (st stp : Nat → Int32) : Prop := match o with
  | none => st k = -1
  | some d => ∃ a, st k = nI a ∧ gSeg stp a (gCC d.1 d.2 a) ∧ a + (gCC d.1 d.2 a).length ≤ z ∧ gLwf 20 d.1 d.2
theorem XL_of {g : gT} {LW : Nat → Option gLd} {z : Nat} {s : xs_S} (hz : z ≤ 401) (h193 : s.1 193 = nI z) (hg : ∀ k v, k < 4 → g.2.2.2 k v = gLfn LW k v) (hk : ∀ k, k < 4 → gXLk z k (LW k) (s.2.1 14) (s.2.1 13)) : XL g s := by
  have hwo : gLwo LW := fun k d hk4 hl => by
    have := hk k hk4
    rw [hl] at this
    obtain ⟨a, -, -, -, h⟩ := this
    exact h
  refine ⟨fun k hk4 v v2 hv => by rw [hg k v hk4, hg k v2 hk4]; exact gLfn_cg hwo hk4 hv, fun s2 e193 e13 e14 k hk4 => ?_⟩
  rw [hg k _ hk4]
  have hkk := hk k hk4
  rw [← e13, ← e14] at hkk
  unfold xf_3_value_12 gLfn
  cases hl : LW k with
  | none =>
    rw [hl] at hkk
    refine wO_agv (k := k) rfl hk4 (by omega) (show s2.2.1 14 k = -1 from hkk) (wO_neg (show ¬ (0 : Int32) ≤ -1 by decide) ?_)
    refine wO_eq (x := (g_df k (s2.2.1 15), s2)) (wO_iff.mp ?_) (wO_some ⟨rfl, xsF.rf⟩)
    unfold xf_3_untold_12 g_df
    rcases (show k = 0 ∨ k = 1 ∨ k = 2 ∨ k = 3 by omega) with rfl | rfl | rfl | rfl
    · exact wO_pos rfl (wO_some rfl)
    · exact wO_neg pu_10 (wO_pos rfl (wO_some rfl))
    · exact wO_neg (by decide) (wO_neg (by decide) (wO_some rfl))
    · exact wO_neg (by decide) (wO_neg (by decide) (wO_some rfl))
  | some d =>
    rw [hl] at hkk
    obtain ⟨a, a1, a2, a3, a4⟩ := hkk
    obtain ⟨t, r, q1, q2, q3⟩ := x_law_go hz d.1 a 0 s2 a4 a2 a3 (e193.trans h193) (Nat.zero_le _)
    refine wO_agv (k := k) rfl hk4 (by omega) a1 (wO_pos (nI_pos' (by omega)) (wO_eq q1 ?_))
    rcases q3 with ⟨rfl, q4⟩ | ⟨rfl, q4⟩
    · exact wO_pos (show (1 : Int32) ≤ nI 1 by decide) (wO_agv (k := 0) (by decide) (by omega) (by omega) q4 (wO_some ⟨rfl, q2⟩))
    · exact wO_some ⟨q4.symm, q2⟩
