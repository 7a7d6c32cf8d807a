/-! speaker, word, tell, feed, count -/
theorem pu_neg2 {k : Nat} (h : k < 64) : ¬ nI k = (-2 : Int32) := by
  have : ∀ k, k < 64 → ¬ nI k = (-2 : Int32) := by decide
  exact this k h
theorem R_s4 : lw_s4 RR := fun n s m a c h hn => by
  obtain ⟨g, lv, po, st, ti, h1, h2, h3⟩ := id h
  have hns := h1.1.1.1
  have h147 := h1.1.1.2.2.1
  have hlv := h3.1.1
  obtain ⟨g1, g2, g3, g4, g5, g6, g7, g8, g9, g10⟩ := id h3.2.2.2.2.1
  have g3 : gAp po g.1.1 (s.1 401) (s.1 402) := g3
  rcases pu_small a g.1.1 (by omega) with ⟨k, hk, rfl⟩ | ha
  · have xh : ∀ P, wO (if c = (0 : Int32) then ((mo_ag 5 (s.2.1 10) (nI k)).bind fun x_4 => some (x_4, s)) else (if c = (1 : Int32) then (if nI k = s.1 401 then some ((0 : Int32), s) else (if nI k = s.1 402 then some ((1 : Int32), s) else some ((-2 : Int32), s))) else (if c = (2 : Int32) then ((mo_ag 5 (s.2.1 26) (nI k)).bind fun x_7 => some (x_7, s)) else some ((-1 : Int32), s)))) P → wO (xf_11_speaker s (nI k) c) P := fun P hP => by
      unfold xf_11_speaker
      refine wO_eq (x_hasSpeaker h147 hns (by omega)) ?_
      rw [decide_eq_true hk]
      exact wO_neg pu_10 hP
    have e5 : (5 : Int32) * m.1 18 + nI k = nI (5 * lv + k) := by rw [h3.1.2.1]; exact (congrArg (· + nI k) (pu_mul 5 lv)).trans (nI_add _ _)
    by_cases c0 : c = 0
    · subst c0
      refine ⟨nI (g.2.1 k), s, m, wO_iff.mp (xh _ (wO_pos rfl (wO_agv (k := k) rfl (by omega) (by omega) (h1.1.1.2.2.2.2.1 k hk).1 (wO_some rfl)))), wO_iff.mp ?_, R_up h⟩
      unfold mf_speaker
      exact wO_eq (m_isSpeaker_yes h3.1 hk) (wO_neg pu_10 (wO_pos rfl (wO_agv (k := 5 * lv + k) e5 (by omega) (by omega) (h3.1.2.2.2.2.2.2.1 k hk).1 (wO_some rfl))))
    · by_cases c1 : c = 1
      · subst c1
        have key : ∃ v, (if nI k = s.1 401 then some ((0 : Int32), s) else (if nI k = s.1 402 then some ((1 : Int32), s) else some ((-2 : Int32), s))) = some (v, s) ∧ (if m.2.1 47 3 = nI k then some ((0 : Int32), m) else (if m.2.1 47 4 = nI k then some ((1 : Int32), m) else some ((-2 : Int32), m))) = some (v, m) := by
          cases po with
          | none =>
            refine ⟨-2, ?_, ?_⟩
            · rw [g3.1, g3.2, if_neg (pu_n1 (by omega)), if_neg (pu_n1 (by omega))]
            · rw [g7.1, g7.2, if_neg (fun e => pu_neg2 (k := k) (by omega) e.symm), if_neg (fun e => pu_neg2 (k := k) (by omega) e.symm)]
          | some p =>
            obtain ⟨l, r⟩ := p
            obtain ⟨x1, x2, -⟩ := g3
            obtain ⟨y1, y2, -⟩ := g7
            rw [x1, x2, y1, y2]
            by_cases e1 : nI k = nI l
            · exact ⟨0, if_pos e1, if_pos e1.symm⟩
            · by_cases e2 : nI k = nI r
              · exact ⟨1, (if_neg e1).trans (if_pos e2), (if_neg (fun e => e1 e.symm)).trans (if_pos e2.symm)⟩
              · exact ⟨-2, (if_neg e1).trans (if_neg e2), (if_neg (fun e => e1 e.symm)).trans (if_neg (fun e => e2 e.symm))⟩
        obtain ⟨v, k1, k2⟩ := key
        refine ⟨v, s, m, wO_iff.mp (xh _ (wO_neg pu_10 (wO_pos rfl (wO_iff.mpr k1)))), wO_iff.mp ?_, R_up h⟩
        unfold mf_speaker
        exact wO_eq (m_isSpeaker_yes h3.1 hk) (wO_neg pu_10 (wO_neg pu_10 (wO_pos rfl (wO_iff.mpr k2))))
      · by_cases c2 : c = 2
        · subst c2
          have e7 : (7 : Int32) + nI k = nI (7 + k) := nI_add 7 k
          refine ⟨s.2.1 26 k, s, m, wO_iff.mp (xh _ (wO_neg c0 (wO_neg c1 (wO_pos rfl (wO_agv (k := k) rfl (by omega) (by omega) rfl (wO_some rfl)))))), wO_iff.mp ?_, R_up h⟩
          unfold mf_speaker
          exact wO_eq (m_isSpeaker_yes h3.1 hk) (wO_neg pu_10 (wO_neg c0 (wO_neg c1 (wO_pos rfl (wO_agv (k := 7 + k) e7 (by omega) (by omega) (g10 k (by omega)).symm (wO_some rfl))))))
        · refine ⟨-1, s, m, wO_iff.mp (xh _ (wO_neg c0 (wO_neg c1 (wO_neg c2 (wO_some rfl))))), wO_iff.mp ?_, R_up h⟩
          unfold mf_speaker
          exact wO_eq (m_isSpeaker_yes h3.1 hk) (wO_neg pu_10 (wO_neg c0 (wO_neg c1 (wO_neg c2 (wO_some rfl)))))
  · refine ⟨-1, s, m, wO_iff.mp ?_, wO_iff.mp ?_, R_up h⟩
    · unfold xf_11_speaker
      exact wO_eq (x_hasSpeaker_no h147 ha) (wO_pos rfl (wO_some rfl))
    · unfold mf_speaker
      exact wO_eq (m_isSpeaker_no h3.1 ha) (wO_pos rfl (wO_some rfl))
theorem x_sayable {g : gT} {po : Option (Nat × Nat)} {st : Nat} {s : xs_S} (h : XC g po st s) : wO (xf_11_sayable s) (fun p => p.1 = nI (gBs (gCan g po 0 (st / 14) (st / 7 % 2) (st % 7)) g.1.2) ∧ xsF xQi xQa s p.2 ∧ XC g po st p.2) := by
  unfold xf_11_sayable
  rw [h.2.2.1]
  refine wO_bd (x_opens h h.2.2.2) ?_
  rintro t ⟨f, c, o⟩
  have := gph_lt h.2.2.2.1
  exact wO_agv (k := gph st) c.2.2.1 (by omega) (by omega) o.1 (wO_some ⟨rfl, f, c⟩)
theorem x_pairLaw {g : gT} {s : xs_S} {l r st k w : Nat} (h : XT g s) (hp : gPX s (some (l, r)) g.1.1) (hk : k < 4) (hs : gSt g.1.2 st) (hw : w < g.1.2) : wO (xf_7_lawOf_9 s (nI k) (s.1 1873) (s.1 1874) (nI (gph st)) (nI w)) (fun q => q.1 = g.2.2.2 k (gv1 g l r (st / 14) (st / 7 % 2) (st % 7) w) ∧ xsF [] [15, 16] s q.2) := by
  obtain ⟨p1, p2, p3, p4⟩ := gPX_ap.mp hp
  rw [p1, p2]
  exact x_lawOf (w := some w) h hk p3 p4 hs (fun x hx => by cases hx; exact hw)
theorem R_s5 : lw_s5 RR := fun n s m a c h hn => by
  obtain ⟨g, lv, po, st, ti, h1, h2, h3⟩ := id h
  have hnw := h1.1.1.2.1
  have hns := h1.1.1.1
  have h148 := h1.1.1.2.2.2.1
  have hs := h1.2.2.2
  rcases pu_small a g.1.2 (by omega) with ⟨w, hw, rfl⟩ | ha
  · have xh : ∀ P, wO (if c = (0 : Int32) then ((mo_ag 6 (s.2.1 11) (nI w)).bind fun x_4 => some (x_4, s)) else (if c = (1 : Int32) then ((xf_11_sayable s).bind fun (v_5, s_5) => some (((v_5 >>> (nI w &&& 31)) &&& (1 : Int32)), s_5)) else (if c = (2 : Int32) then ((xf_1_pushesOf s (s.1 400) (nI w)).bind fun (v_6, s_6) => some (v_6, s_6)) else (if c = (3 : Int32) then ((xf_1_isBarred s (s.1 400) (nI w)).bind fun (v_7, s_7) => (if v_7 = (0 : Int32) then some ((0 : Int32), s_7) else some ((1 : Int32), s_7))) else some ((-1 : Int32), s))))) P → wO (xf_11_word s (nI w) c) P := fun P hP => by
      unfold xf_11_word
      refine wO_eq (x_hasWord h148 hnw (by omega)) ?_
      rw [decide_eq_true hw]
      exact wO_neg pu_10 hP
    obtain ⟨m1, em, fm, rm, lm, wm⟩ := m_copies h3.mn
    have fm2 : msF mqA m m1 := fm.wk (by decide)
    rcases pu_small c 4 (by omega) with ⟨k, hk, rfl⟩ | hc
    · have mh : ∀ P, wO (if nI k = (0 : Int32) then ((mf_forceAt m1 (nI w)).bind fun (v_7, s_7) => some (v_7, s_7)) else (if nI k = (1 : Int32) then ((mf_canSay m1 (nI w)).bind fun (v_9, s_9) => (if v_9 = (0 : Int32) then some ((0 : Int32), s_9) else some ((1 : Int32), s_9))) else ((mf_areThere m1).bind fun (v_11, s_11) => (if v_11 = (0 : Int32) then some ((0 : Int32), s_11) else (if nI k = (2 : Int32) then ((mf_pushesOf s_11 (nI w)).bind fun (v_14, s_14) => some (v_14, s_14)) else ((mf_isBarred s_11 (nI w)).bind fun (v_15, s_15) => (if v_15 = (0 : Int32) then some ((0 : Int32), s_15) else some ((1 : Int32), s_15)))))))) P → wO (mf_word m (nI w) (nI k)) P := fun P hP => by
        unfold mf_word
        refine wO_eq (m_isWord_yes h3.1 hw) (wO_neg pu_10 (wO_eq (m_in_yes (n := 4) hk (by omega)) (wO_neg pu_10 (wO_eq em hP))))
      rcases (show k = 0 ∨ k = 1 ∨ k = 2 ∨ k = 3 by omega) with rfl | rfl | rfl | rfl
      · refine ⟨nI (g.2.2.1 w), s, m1, wO_iff.mp (xh _ (wO_pos rfl (wO_agv (k := w) rfl (by omega) (by omega) (h1.1.1.2.2.2.2.2.1 w hw).1 (wO_some rfl)))), wO_iff.mp (mh _ (wO_pos rfl (wO_eq (m_forceAt wm.1 hw) (wO_some rfl)))), RR_st h2 h3 h1 xsF.rf fm2⟩
      · obtain ⟨⟨v, s2⟩, e2, v2, f2, c2⟩ := x_sayable h1
        have v2 : v = nI (gBs (gCan g po 0 (st / 14) (st / 7 % 2) (st % 7)) g.1.2) := v2
        subst v2
        obtain ⟨⟨v, m2⟩, e3, v3, f3⟩ := m_canSay wm hw
        have v3 : v = (bif gCan g po 0 (st / 14) (st / 7 % 2) (st % 7) w then 1 else 0) := v3
        subst v3
        have f3 : msF gKs m1 m2 := f3
        refine ⟨(bif gCan g po 0 (st / 14) (st / 7 % 2) (st % 7) w then 1 else 0), s2, m2, wO_iff.mp (xh _ (wO_neg pu_10 (wO_pos rfl (wO_eq e2 (wO_some ?_))))), wO_iff.mp (mh _ (wO_neg pu_10 (wO_pos rfl (wO_eq e3 ?_)))), RR_st h2 h3 c2 f2 (fm2.tr (f3.wk (by decide)))⟩
        · rw [pu_bit _ (gBs_lt64 hnw) w (by omega), gBs_bit, decide_eq_true hw, Bool.true_and]
        · cases gCan g po 0 (st / 14) (st / 7 % 2) (st % 7) w with
          | false => exact wO_pos rfl (wO_some rfl)
          | true => exact wO_neg pu_10 (wO_some rfl)
      · cases po with
        | none =>
          refine ⟨0, s, m1, wO_iff.mp (xh _ (wO_neg (by decide) (wO_neg (by decide) (wO_pos rfl (wO_eq (x := (0, s)) (wO_iff.mp ?_) (wO_some rfl)))))), wO_iff.mp (mh _ (wO_neg (by decide) (wO_neg (by decide) (wO_eq (m_areThere wm.2.1 hns) (wO_pos rfl (wO_some rfl)))))), RR_st h2 h3 h1 xsF.rf fm2⟩
          unfold xf_1_pushesOf
          exact wO_eq (x_hasPair h1.1.2.1 hns) (wO_pos rfl (wO_some rfl))
        | some p =>
          obtain ⟨l, r⟩ := p
          obtain ⟨⟨v, s2⟩, e2, v2, f2⟩ := x_pairLaw (k := 0) h1.1.1 h1.1.2.1 (by omega) hs hw
          have v2 : v = g.2.2.2 0 (gv1 g l r (st / 14) (st / 7 % 2) (st % 7) w) := v2
          subst v2
          have f2 : xsF [] [15, 16] s s2 := f2
          obtain ⟨⟨v, m2⟩, e3, v3, f3⟩ := m_pushesOf wm.mc hw
          have v3 : v = nI (gP g l r (st / 14) (st / 7 % 2) (st % 7) w) := v3
          subst v3
          have f3 : msF gKs m1 m2 := f3
          refine ⟨nI (gP g l r (st / 14) (st / 7 % 2) (st % 7) w), s2, m2, wO_iff.mp (xh _ (wO_neg (by decide) (wO_neg (by decide) (wO_pos rfl (wO_eq (x := (nI (gP g l r (st / 14) (st / 7 % 2) (st % 7) w), s2)) (wO_iff.mp ?_) (wO_some rfl)))))), wO_iff.mp (mh _ (wO_neg (by decide) (wO_neg (by decide) (wO_eq (m_areThere wm.2.1 hns) (wO_neg pu_10 (wO_pos rfl (wO_eq e3 (wO_some rfl)))))))), RR_st h2 h3 (h1.fr f2 (by decide) (by decide)) (f2.wk (by decide) (by decide)) (fm2.tr (f3.wk (by decide)))⟩
          unfold xf_1_pushesOf
          refine wO_eq (x_hasPair h1.1.2.1 hns) (wO_neg pu_10 ?_)
          rw [h1.2.2.1]
          exact wO_eq e2 (wO_eq (gcl_x _ (M := 9) (by omega)) (wO_some rfl))
      · cases po with
        | none =>
          refine ⟨0, s, m1, wO_iff.mp (xh _ (wO_neg (by decide) (wO_neg (by decide) (wO_neg (by decide) (wO_pos rfl (wO_eq (x := (0, s)) (wO_iff.mp ?_) (wO_pos rfl (wO_some rfl)))))))), wO_iff.mp (mh _ (wO_neg (by decide) (wO_neg (by decide) (wO_eq (m_areThere wm.2.1 hns) (wO_pos rfl (wO_some rfl)))))), RR_st h2 h3 h1 xsF.rf fm2⟩
          unfold xf_1_isBarred
          exact wO_eq (x_hasPair h1.1.2.1 hns) (wO_pos rfl (wO_some rfl))
        | some p =>
          obtain ⟨l, r⟩ := p
          obtain ⟨⟨v, s2⟩, e2, v2, f2⟩ := x_pairLaw (k := 3) h1.1.1 h1.1.2.1 (by omega) hs hw
          have v2 : v = g.2.2.2 3 (gv1 g l r (st / 14) (st / 7 % 2) (st % 7) w) := v2
          subst v2
          have f2 : xsF [] [15, 16] s s2 := f2
          obtain ⟨⟨v, m2⟩, e3, v3, f3⟩ := m_isBarred wm.mc hw
          have v3 : v = (bif gX g l r (st / 14) (st / 7 % 2) (st % 7) w then 1 else 0) := v3
          subst v3
          have f3 : msF gKs m1 m2 := f3
          have eb : xf_1_isBarred s (s.1 400) (nI w) = some ((bif gX g l r (st / 14) (st / 7 % 2) (st % 7) w then 1 else 0), s2) := wO_iff.mp (by
            unfold xf_1_isBarred
            refine wO_eq (x_hasPair h1.1.2.1 hns) (wO_neg pu_10 ?_)
            rw [h1.2.2.1]
            refine wO_eq e2 ?_
            unfold gX
            by_cases hz : 0 < g.2.2.2 3 (gv1 g l r (st / 14) (st / 7 % 2) (st % 7) w)
            · rw [decide_eq_true hz]
              exact wO_neg (Int32.not_le.mpr hz) (wO_some rfl)
            · rw [decide_eq_false hz]
              exact wO_pos (Int32.not_lt.mp hz) (wO_some rfl))
          refine ⟨(bif gX g l r (st / 14) (st / 7 % 2) (st % 7) w then 1 else 0), s2, m2, wO_iff.mp (xh _ (wO_neg (by decide) (wO_neg (by decide) (wO_neg (by decide) (wO_pos rfl (wO_eq eb ?_)))))), wO_iff.mp (mh _ (wO_neg (by decide) (wO_neg (by decide) (wO_eq (m_areThere wm.2.1 hns) (wO_neg pu_10 (wO_neg (by decide) (wO_eq e3 ?_))))))), RR_st h2 h3 (h1.fr f2 (by decide) (by decide)) (f2.wk (by decide) (by decide)) (fm2.tr (f3.wk (by decide)))⟩
          · cases gX g l r (st / 14) (st / 7 % 2) (st % 7) w with
            | false => exact wO_pos rfl (wO_some rfl)
            | true => exact wO_neg pu_10 (wO_some rfl)
          · cases gX g l r (st / 14) (st / 7 % 2) (st % 7) w with
            | false => exact wO_pos rfl (wO_some rfl)
            | true => exact wO_neg pu_10 (wO_some rfl)
    · have ne : ∀ k, k < 4 → ¬ c = nI k := fun k hk e => by
        subst e
        rcases hc with hc | hc
        · exact pu_nn (by omega) hc
        · exact nI_ge hk (by omega) hc
      refine ⟨-1, s, m, wO_iff.mp (xh _ (wO_neg (ne 0 (by omega)) (wO_neg (ne 1 (by omega)) (wO_neg (ne 2 (by omega)) (wO_neg (ne 3 (by omega)) (wO_some rfl)))))), wO_iff.mp ?_, R_up h⟩
      unfold mf_word
      exact wO_eq (m_isWord_yes h3.1 hw) (wO_neg pu_10 (wO_eq (m_in_no (n := 4) (by omega) hc) (wO_pos rfl (wO_some rfl))))
  · refine ⟨-1, s, m, wO_iff.mp ?_, wO_iff.mp ?_, R_up h⟩
    · unfold xf_11_word
      exact wO_eq (x_hasWord_no h148 ha) (wO_pos rfl (wO_some rfl))
    · unfold mf_word
      exact wO_eq (m_isWord_no h3.1 ha) (wO_pos rfl (wO_some rfl))
theorem vp_bz {a : Int32} (h : a = 0 ∨ a = 1) : vp_nar .boolean a = a := by
  rcases h with rfl | rfl <;> decide
theorem R_s29 : lw_s29 RR := fun n s m a v c h hn hc => by
  obtain ⟨g, lv, po, st, ti, h1, h2, b1, b2, b3, b4, b5, b6, b7, ⟨z, z1, z2, z3, z4⟩, b9, b10⟩ := id h
  have no : (a < 1 ∨ (¬ a < 1 ∧ (5 : Int32) < a) ∨ v < 0 ∨ (¬ v < 0 ∧ (20 : Int32) < v) ∨ z = 20) → gAns n (xf_11_tell s a v c) (mf_tell m a v c) := fun hh => by
    refine ⟨-1, s, m, wO_iff.mp ?_, wO_iff.mp ?_, R_up h⟩
    · unfold xf_11_tell
      refine wO_ite (fun _ => wO_some rfl) (fun c1 => wO_ite (fun _ => wO_some rfl) (fun c2 => wO_ite (fun _ => wO_some rfl) (fun c3 => wO_ite (fun c4 => ?_) (fun _ => wO_some rfl))))
      have hz : z = 20 := by
        rcases hh with q | ⟨-, q⟩ | q | ⟨-, q⟩ | q
        · exact absurd q c1
        · exact absurd q c2
        · exact absurd q c3
        · exact absurd c4 (Int32.not_le.mpr q)
        · exact q
      subst hz
      refine wO_eq (x := (-1, s)) ?_ (wO_some rfl)
      unfold xf_9_add
      rw [z2]
      exact if_neg (nI_nlt (a := 20) (b := 20) (by omega) (by omega))
    · unfold mf_tell
      refine wO_ite (fun _ => wO_some rfl) (fun c0 => ?_)
      unfold mf_in
      by_cases c1 : a < 1
      · rw [if_pos c1]; exact wO_eq rfl (wO_pos rfl (wO_some rfl))
      · rw [if_neg c1]
        by_cases c2 : (5 : Int32) < a
        · rw [if_pos c2]; exact wO_eq rfl (wO_pos rfl (wO_some rfl))
        · rw [if_neg c2]
          refine wO_eq rfl (wO_neg pu_10 ?_)
          by_cases c3 : v < 0
          · rw [if_pos c3]; exact wO_eq rfl (wO_pos rfl (wO_some rfl))
          · rw [if_neg c3]
            have c4 : (20 : Int32) < v := by
              rcases hh with q | ⟨-, q⟩ | q | ⟨-, q⟩ | q
              · exact absurd q c1
              · exact absurd q c2
              · exact absurd q c3
              · exact q
              · exact absurd (by rw [z3, q]; rfl) c0
            rw [if_pos c4]
            exact wO_eq rfl (wO_pos rfl (wO_some rfl))
  by_cases c1 : a < 1
  · exact no (Or.inl c1)
  · by_cases c2 : (5 : Int32) < a
    · exact no (Or.inr (Or.inl ⟨c1, c2⟩))
    · by_cases c3 : v < 0
      · exact no (Or.inr (Or.inr (Or.inl c3)))
      · by_cases c4 : (20 : Int32) < v
        · exact no (Or.inr (Or.inr (Or.inr (Or.inl ⟨c3, c4⟩))))
        · by_cases c5 : z = 20
          · exact no (Or.inr (Or.inr (Or.inr (Or.inr c5))))
          · obtain ⟨p, hp, rfl⟩ := nI_of (x := a) (fun e => c1 (Int32.lt_of_lt_of_le e (by decide)))
            obtain ⟨q, hq, rfl⟩ := nI_of c3
            have p1 : 1 ≤ p := by
              by_cases h7 : 1 ≤ p
              · exact h7
              · exact absurd (nI_lt (b := 1) (show p < 1 by omega) (by omega)) c1
            have p5 : p ≤ 5 := by
              by_cases h7 : p ≤ 5
              · exact h7
              · exact absurd (nI_lt (a := 5) (by omega) hp) c2
            have q20 : q ≤ 20 := by
              by_cases h7 : q ≤ 20
              · exact h7
              · exact absurd (nI_lt (a := 20) (by omega) hq) c4
            have hz : z < 20 := by omega
            have ez : nI z + 1 - 1 = nI z := by rw [nI_1]; exact pu_sub (a := z + 1) (b := 1) (by omega)
            generalize hs2 : xs_sA (xs_sA (xs_sA (xs_sI s 1924 (nI (z + 1))) 121 (upd (s.2.1 121) z (nI p))) 122 (upd (s.2.1 122) z (nI q))) 123 (upd (s.2.1 123) z c) = s2
            generalize hm2 : ms_sA (ms_sA (ms_sA (ms_sI m 63 (nI (z + 1))) 64 (upd (m.2.1 64) z (nI p))) 65 (upd (m.2.1 65) z (nI q))) 66 (upd (m.2.1 66) z c) = m2
            have fx : xsF [1924] [121, 122, 123] s s2 := by
              rw [← hs2]
              exact (xsF.sI (by decide)).tr ((xsF.sA (by decide)).tr ((xsF.sA (by decide)).tr (xsF.sA (by decide))))
            have fm : msF [63, 64, 65, 66] m m2 := by
              rw [← hm2]
              exact (msF.sI (by decide)).tr ((msF.sA (by decide)).tr ((msF.sA (by decide)).tr (msF.sA (by decide))))
            have xi : ∀ j, ¬ j = 1924 → s2.1 j = s.1 j := fun j hj => fx.1 j (fun e => hj (List.mem_singleton.mp e))
            have xa : ∀ j, ¬ (121 ≤ j ∧ j < 124) → s2.2.1 j = s.2.1 j := fun j hj => fx.2.1 j (fun e => by
              have : ∀ i ∈ [121, 122, 123], 121 ≤ i ∧ i < 124 := by decide
              exact hj (this j e))
            refine ⟨nI z, s2, m2, wO_iff.mp ?_, wO_iff.mp ?_, g, lv, po, st, ti, h1.fr fx (by decide) (by decide), (h2.fr (xi 151 (by omega)) (xi 401 (by omega)) (xi 402 (by omega)) (xa 138 (by omega)) (xi 1875 (by omega))).up (by omega), ?_⟩
            · unfold xf_11_tell
              refine wO_neg c1 (wO_neg c2 (wO_neg c3 (wO_pos (Int32.not_lt.mp c4) (wO_eq (x := (nI z, s2)) (wO_iff.mp ?_) (wO_some rfl)))))
              unfold xf_9_add
              rw [z2]
              refine wO_pos (show nI z < (20 : Int32) from nI_lt (b := 20) hz (by omega)) ?_
              refine wO_in (k := z) rfl hz (by omega) (wO_in (k := z) rfl hz (by omega) (wO_in (k := z) rfl hz (by omega) ?_))
              rw [vp_bz hc, nI_clamp (by omega), ez, nI_1, hs2]
              exact wO_some rfl
            · unfold mf_tell
              rw [z3]
              refine wO_neg (fun e => c5 ((nI_eq (b := 20) (by omega) (by omega)).mp e)) ?_
              refine wO_eq (x := 1) (by unfold mf_in; rw [if_neg c1, if_neg c2]) (wO_neg pu_10 (wO_eq (x := 1) (by unfold mf_in; rw [if_neg c3, if_neg c4]) (wO_neg pu_10 ?_)))
              refine wO_in (k := z) rfl hz (by omega) (wO_in (k := z) rfl hz (by omega) (wO_in (k := z) rfl hz (by omega) ?_))
              rw [vp_bz hc, nI_clamp (by omega), ez, nI_1, hm2]
              exact wO_some rfl
            · refine ⟨b1.mv fm (by decide), by rw [fm.a 29 (by decide)]; exact b2, by rw [xi 152 (by omega), fm.a 30 (by decide)]; exact b3, by rw [xi 4 (by omega), fm.i 17 (by decide)]; exact b4, b5.mv (fun k hk => xi _ (by omega)) (xa 26 (by omega)) (fm.a 47 (by decide)), b6.mv (fun j h4 h5 => xi j (by omega)) (fun j h4 h5 => xa j (by omega)) (fm.i 54 (by decide)) (fm.a 55 (by decide)), b7.mv (fun j h4 h5 => xi j (by omega)) (fun j h4 h5 => xa j (by omega)) (fm.a 70 (by decide)) (fm.a 71 (by decide)), ?_, b9.mv (xi 17 (by omega)) (xa 2 (by omega)) (fm.i 2 (by decide)) (fm.a 1 (by decide)), fun k hk => by rw [fm.2]; exact b10 k hk⟩
              refine ⟨z + 1, by omega, by rw [← hs2]; rfl, by rw [← hm2]; rfl, fun i hi => ?_⟩
              have r1 : s2.2.1 121 = upd (s.2.1 121) z (nI p) := by rw [← hs2]; rfl
              have r2 : s2.2.1 122 = upd (s.2.1 122) z (nI q) := by rw [← hs2]; rfl
              have r3 : s2.2.1 123 = upd (s.2.1 123) z c := by rw [← hs2]; rfl
              have r4 : m2.2.1 64 = upd (m.2.1 64) z (nI p) := by rw [← hm2]; rfl
              have r5 : m2.2.1 65 = upd (m.2.1 65) z (nI q) := by rw [← hm2]; rfl
              have r6 : m2.2.1 66 = upd (m.2.1 66) z c := by rw [← hm2]; rfl
              rw [r1, r2, r3, r4, r5, r6]
              by_cases he : i = z
              · subst he
                rw [upd_eq, upd_eq, upd_eq, upd_eq, upd_eq, upd_eq]
                exact ⟨⟨p, p1, p5, rfl, rfl⟩, ⟨q, q20, rfl, rfl⟩, rfl, hc⟩
              · rw [upd_ne he, upd_ne he, upd_ne he, upd_ne he, upd_ne he, upd_ne he]
                exact z4 i (by omega)
theorem x_held {s : xs_S} (hb : ∀ i, i < 3 → s.2.1 116 i = 0 ∨ s.2.1 116 i = 1) : xf_11_heldSlots s = some (s.2.1 116 0 + s.2.1 116 1 + s.2.1 116 2, s) := by
  refine wO_iff.mp ?_
  unfold xf_11_heldSlots
  refine wO_bd (Q := fun p => p = (s.2.1 116 0 + s.2.1 116 1 + s.2.1 116 2, s)) ?_ (by rintro _ rfl; exact wO_some rfl)
  have one : ∀ (i : Nat) (w v : Int32), i < 3 → s.2.1 116 i = v → wO (xf_11_heldSlots_l4 (w, nI i, s)) (fun r => r = .inl (w + v, nI (i + 1), s)) := fun i w v hi hv => by
    unfold xf_11_heldSlots_l4 xf_11_heldSlots_j13
    refine wO_neg (show ¬ (3 : Int32) ≤ nI i from nI_ge (b := 3) hi (by omega)) (wO_agv (k := i) rfl hi (by omega) hv ?_)
    rcases hb i hi with e | e
    · rw [hv] at e
      subst e
      refine wO_pos rfl (wO_some ?_)
      rw [Int32.add_zero, nI_1]
    · rw [hv] at e
      subst e
      refine wO_neg pu_10 (wO_some ?_)
      rw [nI_1]
  refine wO_step (wO_mono (one 0 0 _ (by omega) rfl) ?_)
  rintro _ rfl
  refine wO_step (wO_mono (one 1 _ _ (by omega) rfl) ?_)
  rintro _ rfl
  refine wO_step (wO_mono (one 2 _ _ (by omega) rfl) ?_)
  rintro _ rfl
  refine wO_step ?_
  unfold xf_11_heldSlots_l4
  refine wO_pos (Int32.le_refl _) (wO_some ?_)
  show (0 + s.2.1 116 0 + s.2.1 116 1 + s.2.1 116 2, s) = _
  rw [Int32.zero_add]
theorem R_s35 : lw_s35 RR := fun n s m a h hn => by
  obtain ⟨g, lv, po, st, ti, h1, h2, h3⟩ := id h
  have hnw := h1.1.1.2.1
  have hns := h1.1.1.1
  have hlv := h3.1.1
  have hs := h1.2.2.2
  have hst := hs.1
  obtain ⟨g1, g2, g3, g4, g5, g6, g7, g8, g9, g10⟩ := id h3.2.2.2.2.1
  have g3 : gAp po g.1.1 (s.1 401) (s.1 402) := g3
  have g8 : s.1 403 = m.2.1 47 5 := g8
  have g9 : s.1 404 = m.2.1 47 6 := g9
  obtain ⟨m1, em, fm, rm, lm, wm⟩ := m_copies h3.mn
  have fm2 : msF mqA m m1 := fm.wk (by decide)
  have sm : RR (n + 1) s m1 := RR_st h2 h3 h1 xsF.rf fm2
  have ont : ∀ (x y : Int32), (x = -1 ∧ y = -2 ∨ ∃ k, k < 64 ∧ x = nI k ∧ y = nI k) → xf_11_orNotThere x = some y := fun x y hxy => by
    unfold xf_11_orNotThere
    rcases hxy with ⟨rfl, rfl⟩ | ⟨k, hk, rfl, rfl⟩
    · exact if_neg (by decide)
    · exact if_pos (nI_pos' (by omega))
  rcases pu_small a 14 (by omega) with ⟨k, hk, rfl⟩ | ha
  · have ne : ∀ i, i < 14 → ¬ i = k → ¬ nI k = nI i := fun i hi h4 e => h4 ((nI_eq (by omega) (by omega)).mp e).symm
    rcases (show k = 0 ∨ k = 1 ∨ k = 2 ∨ k = 3 ∨ k = 4 ∨ k = 5 ∨ k = 6 ∨ k = 7 ∨ k = 8 ∨ k = 9 ∨ k = 10 ∨ k = 11 ∨ k = 12 ∨ k = 13 by omega) with rfl | rfl | rfl | rfl | rfl | rfl | rfl | rfl | rfl | rfl | rfl | rfl | rfl | rfl
    · refine ⟨nI g.1.1, s, m1, wO_iff.mp ?_, wO_iff.mp ?_, sm⟩
      · unfold xf_11_count
        exact wO_pos rfl (wO_some (by rw [h1.1.1.2.2.1]))
      · unfold mf_count
        exact wO_eq em (wO_pos rfl (wO_agv (k := lv) wm.1.2.1 (by omega) (by omega) wm.1.2.2.2.2.1 (wO_some rfl)))
    · refine ⟨nI g.1.2, s, m1, wO_iff.mp ?_, wO_iff.mp ?_, sm⟩
      · unfold xf_11_count
        exact wO_neg (ne 0 (by omega) (by omega)) (wO_pos rfl (wO_some (by rw [h1.1.1.2.2.2.1])))
      · unfold mf_count
        exact wO_eq em (wO_neg (ne 0 (by omega) (by omega)) (wO_pos rfl (wO_agv (k := lv) wm.1.2.1 (by omega) (by omega) wm.1.2.2.2.2.2.1 (wO_some rfl))))
    · refine ⟨nI (st / 14), s, m1, wO_iff.mp ?_, wO_iff.mp ?_, sm⟩
      · unfold xf_11_count
        exact wO_neg (ne 0 (by omega) (by omega)) (wO_neg (ne 1 (by omega) (by omega)) (wO_pos rfl (wO_eq (by rw [h1.2.2.1]; exact x_slope hst) (wO_some rfl))))
      · unfold mf_count
        exact wO_eq em (wO_neg (ne 0 (by omega) (by omega)) (wO_neg (ne 1 (by omega) (by omega)) (wO_pos rfl (wO_some (by rw [rm 0 (by omega), g4])))))
    · refine ⟨nI (st / 7 % 2), s, m1, wO_iff.mp ?_, wO_iff.mp ?_, sm⟩
      · unfold xf_11_count
        exact wO_neg (ne 0 (by omega) (by omega)) (wO_neg (ne 1 (by omega) (by omega)) (wO_neg (ne 2 (by omega) (by omega)) (wO_pos rfl (wO_eq (by rw [h1.2.2.1]; exact x_turn hst) (wO_some rfl)))))
      · unfold mf_count
        exact wO_eq em (wO_neg (ne 0 (by omega) (by omega)) (wO_neg (ne 1 (by omega) (by omega)) (wO_neg (ne 2 (by omega) (by omega)) (wO_pos rfl (wO_some (by rw [rm 1 (by omega), g5]))))))
    · by_cases h6 : st % 7 = 6
      · refine ⟨-2, s, m1, wO_iff.mp ?_, wO_iff.mp ?_, sm⟩
        · unfold xf_11_count
          exact wO_neg (ne 0 (by omega) (by omega)) (wO_neg (ne 1 (by omega) (by omega)) (wO_neg (ne 2 (by omega) (by omega)) (wO_neg (ne 3 (by omega) (by omega)) (wO_pos rfl (wO_eq (by rw [h1.2.2.1]; exact x_last hst) (wO_eq (ont _ (-2) (Or.inl ⟨by unfold gLa; rw [if_pos h6], rfl⟩)) (wO_some rfl)))))))
        · unfold mf_count
          exact wO_eq em (wO_neg (ne 0 (by omega) (by omega)) (wO_neg (ne 1 (by omega) (by omega)) (wO_neg (ne 2 (by omega) (by omega)) (wO_neg (ne 3 (by omega) (by omega)) (wO_pos rfl (wO_pos (by rw [rm 2 (by omega), g6, h6]; rfl) (wO_some rfl)))))))
      · refine ⟨nI (st % 7), s, m1, wO_iff.mp ?_, wO_iff.mp ?_, sm⟩
        · unfold xf_11_count
          exact wO_neg (ne 0 (by omega) (by omega)) (wO_neg (ne 1 (by omega) (by omega)) (wO_neg (ne 2 (by omega) (by omega)) (wO_neg (ne 3 (by omega) (by omega)) (wO_pos rfl (wO_eq (by rw [h1.2.2.1]; exact x_last hst) (wO_eq (ont _ (nI (st % 7)) (Or.inr ⟨st % 7, by omega, by unfold gLa; rw [if_neg h6], rfl⟩)) (wO_some rfl)))))))
        · unfold mf_count
          exact wO_eq em (wO_neg (ne 0 (by omega) (by omega)) (wO_neg (ne 1 (by omega) (by omega)) (wO_neg (ne 2 (by omega) (by omega)) (wO_neg (ne 3 (by omega) (by omega)) (wO_pos rfl (wO_neg (by rw [rm 2 (by omega), g6]; exact fun e => h6 ((nI_eq (b := 6) (by omega) (by omega)).mp e)) (wO_some (by rw [rm 2 (by omega), g6]))))))))
    · refine ⟨m.2.1 47 3, s, m1, wO_iff.mp ?_, wO_iff.mp ?_, sm⟩
      · unfold xf_11_count
        exact wO_neg (ne 0 (by omega) (by omega)) (wO_neg (ne 1 (by omega) (by omega)) (wO_neg (ne 2 (by omega) (by omega)) (wO_neg (ne 3 (by omega) (by omega)) (wO_neg (ne 4 (by omega) (by omega)) (wO_pos rfl (wO_eq (ont _ _ (by cases po with | none => exact Or.inl ⟨g3.1, g7.1⟩ | some p => exact Or.inr ⟨p.1, by have := g3.2.2.1; omega, g3.1, g7.1⟩)) (wO_some rfl)))))))
      · unfold mf_count
        exact wO_eq em (wO_neg (ne 0 (by omega) (by omega)) (wO_neg (ne 1 (by omega) (by omega)) (wO_neg (ne 2 (by omega) (by omega)) (wO_neg (ne 3 (by omega) (by omega)) (wO_neg (ne 4 (by omega) (by omega)) (wO_pos rfl (wO_some (by rw [rm 3 (by omega)]))))))))
    · refine ⟨m.2.1 47 4, s, m1, wO_iff.mp ?_, wO_iff.mp ?_, sm⟩
      · unfold xf_11_count
        exact wO_neg (ne 0 (by omega) (by omega)) (wO_neg (ne 1 (by omega) (by omega)) (wO_neg (ne 2 (by omega) (by omega)) (wO_neg (ne 3 (by omega) (by omega)) (wO_neg (ne 4 (by omega) (by omega)) (wO_neg (ne 5 (by omega) (by omega)) (wO_pos rfl (wO_eq (ont _ _ (by cases po with | none => exact Or.inl ⟨g3.2, g7.2⟩ | some p => exact Or.inr ⟨p.2, by have := g3.2.2.2; omega, g3.2.1, g7.2.1⟩)) (wO_some rfl))))))))
      · unfold mf_count
        exact wO_eq em (wO_neg (ne 0 (by omega) (by omega)) (wO_neg (ne 1 (by omega) (by omega)) (wO_neg (ne 2 (by omega) (by omega)) (wO_neg (ne 3 (by omega) (by omega)) (wO_neg (ne 4 (by omega) (by omega)) (wO_neg (ne 5 (by omega) (by omega)) (wO_pos rfl (wO_some (by rw [rm 4 (by omega)])))))))))
    · refine ⟨m.2.1 47 5, s, m1, wO_iff.mp ?_, wO_iff.mp ?_, sm⟩
      · unfold xf_11_count
        exact wO_neg (ne 0 (by omega) (by omega)) (wO_neg (ne 1 (by omega) (by omega)) (wO_neg (ne 2 (by omega) (by omega)) (wO_neg (ne 3 (by omega) (by omega)) (wO_neg (ne 4 (by omega) (by omega)) (wO_neg (ne 5 (by omega) (by omega)) (wO_neg (ne 6 (by omega) (by omega)) (wO_pos rfl (wO_some (by rw [g8])))))))))
      · unfold mf_count
        exact wO_eq em (wO_neg (ne 0 (by omega) (by omega)) (wO_neg (ne 1 (by omega) (by omega)) (wO_neg (ne 2 (by omega) (by omega)) (wO_neg (ne 3 (by omega) (by omega)) (wO_neg (ne 4 (by omega) (by omega)) (wO_neg (ne 5 (by omega) (by omega)) (wO_neg (ne 6 (by omega) (by omega)) (wO_pos rfl (wO_some (by rw [rm 5 (by omega)]))))))))))
    · refine ⟨s.1 17, s, m1, wO_iff.mp ?_, wO_iff.mp ?_, sm⟩
      · unfold xf_11_count
        exact wO_neg (ne 0 (by omega) (by omega)) (wO_neg (ne 1 (by omega) (by omega)) (wO_neg (ne 2 (by omega) (by omega)) (wO_neg (ne 3 (by omega) (by omega)) (wO_neg (ne 4 (by omega) (by omega)) (wO_neg (ne 5 (by omega) (by omega)) (wO_neg (ne 6 (by omega) (by omega)) (wO_neg (ne 7 (by omega) (by omega)) (wO_pos rfl (wO_some rfl)))))))))
      · unfold mf_count
        exact wO_eq em (wO_neg (ne 0 (by omega) (by omega)) (wO_neg (ne 1 (by omega) (by omega)) (wO_neg (ne 2 (by omega) (by omega)) (wO_neg (ne 3 (by omega) (by omega)) (wO_neg (ne 4 (by omega) (by omega)) (wO_neg (ne 5 (by omega) (by omega)) (wO_neg (ne 6 (by omega) (by omega)) (wO_neg (ne 7 (by omega) (by omega)) (wO_pos rfl (wO_some (by obtain ⟨z, z1, z2, z3, -⟩ := h3.2.2.2.2.2.2.2.2.1; rw [fm.i 2 (by decide), z2, z3])))))))))))
    · refine ⟨s.1 434, s, m1, wO_iff.mp ?_, wO_iff.mp ?_, sm⟩
      · unfold xf_11_count
        exact wO_neg (ne 0 (by omega) (by omega)) (wO_neg (ne 1 (by omega) (by omega)) (wO_neg (ne 2 (by omega) (by omega)) (wO_neg (ne 3 (by omega) (by omega)) (wO_neg (ne 4 (by omega) (by omega)) (wO_neg (ne 5 (by omega) (by omega)) (wO_neg (ne 6 (by omega) (by omega)) (wO_neg (ne 7 (by omega) (by omega)) (wO_neg (ne 8 (by omega) (by omega)) (wO_pos rfl (wO_some rfl))))))))))
      · unfold mf_count
        exact wO_eq em (wO_neg (ne 0 (by omega) (by omega)) (wO_neg (ne 1 (by omega) (by omega)) (wO_neg (ne 2 (by omega) (by omega)) (wO_neg (ne 3 (by omega) (by omega)) (wO_neg (ne 4 (by omega) (by omega)) (wO_neg (ne 5 (by omega) (by omega)) (wO_neg (ne 6 (by omega) (by omega)) (wO_neg (ne 7 (by omega) (by omega)) (wO_neg (ne 8 (by omega) (by omega)) (wO_pos rfl (wO_some (by obtain ⟨x, z, z1, z2, z3, z4, -⟩ := h3.2.2.2.2.2.1; rw [fm.i 54 (by decide), z3, z4]))))))))))))
    · refine ⟨s.1 1924, s, m1, wO_iff.mp ?_, wO_iff.mp ?_, sm⟩
      · unfold xf_11_count
        exact wO_neg (ne 0 (by omega) (by omega)) (wO_neg (ne 1 (by omega) (by omega)) (wO_neg (ne 2 (by omega) (by omega)) (wO_neg (ne 3 (by omega) (by omega)) (wO_neg (ne 4 (by omega) (by omega)) (wO_neg (ne 5 (by omega) (by omega)) (wO_neg (ne 6 (by omega) (by omega)) (wO_neg (ne 7 (by omega) (by omega)) (wO_neg (ne 8 (by omega) (by omega)) (wO_neg (ne 9 (by omega) (by omega)) (wO_pos rfl (wO_some rfl)))))))))))
      · unfold mf_count
        exact wO_eq em (wO_neg (ne 0 (by omega) (by omega)) (wO_neg (ne 1 (by omega) (by omega)) (wO_neg (ne 2 (by omega) (by omega)) (wO_neg (ne 3 (by omega) (by omega)) (wO_neg (ne 4 (by omega) (by omega)) (wO_neg (ne 5 (by omega) (by omega)) (wO_neg (ne 6 (by omega) (by omega)) (wO_neg (ne 7 (by omega) (by omega)) (wO_neg (ne 8 (by omega) (by omega)) (wO_neg (ne 9 (by omega) (by omega)) (wO_pos rfl (wO_some (by obtain ⟨z, z1, z2, z3, -⟩ := h3.2.2.2.2.2.2.2.1; rw [fm.i 63 (by decide), z2, z3])))))))))))))
    · have hb : ∀ i, i < 3 → s.2.1 116 i = 0 ∨ s.2.1 116 i = 1 := fun i hi => (h3.2.2.2.2.2.2.1 i hi).2.imp id (fun q => q.1)
      have hh : ∀ i, i < 3 → m1.2.1 70 i = s.2.1 116 i := fun i hi => by rw [fm.a 70 (by decide)]; exact (h3.2.2.2.2.2.2.1 i hi).1
      refine ⟨s.2.1 116 0 + s.2.1 116 1 + s.2.1 116 2, s, m1, wO_iff.mp ?_, wO_iff.mp ?_, sm⟩
      · unfold xf_11_count
        exact wO_neg (ne 0 (by omega) (by omega)) (wO_neg (ne 1 (by omega) (by omega)) (wO_neg (ne 2 (by omega) (by omega)) (wO_neg (ne 3 (by omega) (by omega)) (wO_neg (ne 4 (by omega) (by omega)) (wO_neg (ne 5 (by omega) (by omega)) (wO_neg (ne 6 (by omega) (by omega)) (wO_neg (ne 7 (by omega) (by omega)) (wO_neg (ne 8 (by omega) (by omega)) (wO_neg (ne 9 (by omega) (by omega)) (wO_neg (ne 10 (by omega) (by omega)) (wO_pos rfl (wO_eq (x_held hb) (wO_some rfl)))))))))))))
      · unfold mf_count
        refine wO_eq em (wO_neg (ne 0 (by omega) (by omega)) (wO_neg (ne 1 (by omega) (by omega)) (wO_neg (ne 2 (by omega) (by omega)) (wO_neg (ne 3 (by omega) (by omega)) (wO_neg (ne 4 (by omega) (by omega)) (wO_neg (ne 5 (by omega) (by omega)) (wO_neg (ne 6 (by omega) (by omega)) (wO_neg (ne 7 (by omega) (by omega)) (wO_neg (ne 8 (by omega) (by omega)) (wO_neg (ne 9 (by omega) (by omega)) (wO_neg (ne 10 (by omega) (by omega)) (wO_pos rfl (?_)))))))))))))
        have b0 := hb 0 (by omega)
        have b1 := hb 1 (by omega)
        have b2 := hb 2 (by omega)
        rw [hh 0 (by omega)]
        unfold mf_count_j71 mf_count_j79
        rw [hh 1 (by omega), hh 2 (by omega)]
        generalize s.2.1 116 0 = y0 at b0
        generalize s.2.1 116 1 = y1 at b1
        generalize s.2.1 116 2 = y2 at b2
        rcases b0 with rfl | rfl <;> rcases b1 with rfl | rfl <;> rcases b2 with rfl | rfl <;> exact wO_some rfl
    · refine ⟨m.2.1 47 6, s, m1, wO_iff.mp ?_, wO_iff.mp ?_, sm⟩
      · unfold xf_11_count
        exact wO_neg (ne 0 (by omega) (by omega)) (wO_neg (ne 1 (by omega) (by omega)) (wO_neg (ne 2 (by omega) (by omega)) (wO_neg (ne 3 (by omega) (by omega)) (wO_neg (ne 4 (by omega) (by omega)) (wO_neg (ne 5 (by omega) (by omega)) (wO_neg (ne 6 (by omega) (by omega)) (wO_neg (ne 7 (by omega) (by omega)) (wO_neg (ne 8 (by omega) (by omega)) (wO_neg (ne 9 (by omega) (by omega)) (wO_neg (ne 10 (by omega) (by omega)) (wO_neg (ne 11 (by omega) (by omega)) (wO_pos rfl (wO_some (by rw [g9]))))))))))))))
      · unfold mf_count
        exact wO_eq em (wO_neg (ne 0 (by omega) (by omega)) (wO_neg (ne 1 (by omega) (by omega)) (wO_neg (ne 2 (by omega) (by omega)) (wO_neg (ne 3 (by omega) (by omega)) (wO_neg (ne 4 (by omega) (by omega)) (wO_neg (ne 5 (by omega) (by omega)) (wO_neg (ne 6 (by omega) (by omega)) (wO_neg (ne 7 (by omega) (by omega)) (wO_neg (ne 8 (by omega) (by omega)) (wO_neg (ne 9 (by omega) (by omega)) (wO_neg (ne 10 (by omega) (by omega)) (wO_neg (ne 11 (by omega) (by omega)) (wO_pos rfl (wO_some (by rw [rm 6 (by omega)])))))))))))))))
    · obtain ⟨⟨v, s2⟩, e2, v2, f2, c2⟩ := x_sayable h1
      have v2 : v = nI (gBs (gCan g po 0 (st / 14) (st / 7 % 2) (st % 7)) g.1.2) := v2
      subst v2
      obtain ⟨⟨v, m2⟩, e3, v3, f3⟩ := m_canBits wm
      have v3 : v = nI (gBs (gCan g po 0 (st / 14) (st / 7 % 2) (st % 7)) g.1.2) := v3
      subst v3
      have f3 : msF gKs m1 m2 := f3
      refine ⟨nI (gBs (gCan g po 0 (st / 14) (st / 7 % 2) (st % 7)) g.1.2), s2, m2, wO_iff.mp ?_, wO_iff.mp ?_, RR_st h2 h3 c2 f2 (fm2.tr (f3.wk (by decide)))⟩
      · unfold xf_11_count
        exact wO_neg (ne 0 (by omega) (by omega)) (wO_neg (ne 1 (by omega) (by omega)) (wO_neg (ne 2 (by omega) (by omega)) (wO_neg (ne 3 (by omega) (by omega)) (wO_neg (ne 4 (by omega) (by omega)) (wO_neg (ne 5 (by omega) (by omega)) (wO_neg (ne 6 (by omega) (by omega)) (wO_neg (ne 7 (by omega) (by omega)) (wO_neg (ne 8 (by omega) (by omega)) (wO_neg (ne 9 (by omega) (by omega)) (wO_neg (ne 10 (by omega) (by omega)) (wO_neg (ne 11 (by omega) (by omega)) (wO_neg (ne 12 (by omega) (by omega)) (wO_pos rfl (wO_eq e2 (wO_some rfl)))))))))))))))
      · unfold mf_count
        exact wO_eq em (wO_neg (ne 0 (by omega) (by omega)) (wO_neg (ne 1 (by omega) (by omega)) (wO_neg (ne 2 (by omega) (by omega)) (wO_neg (ne 3 (by omega) (by omega)) (wO_neg (ne 4 (by omega) (by omega)) (wO_neg (ne 5 (by omega) (by omega)) (wO_neg (ne 6 (by omega) (by omega)) (wO_neg (ne 7 (by omega) (by omega)) (wO_neg (ne 8 (by omega) (by omega)) (wO_neg (ne 9 (by omega) (by omega)) (wO_neg (ne 10 (by omega) (by omega)) (wO_neg (ne 11 (by omega) (by omega)) (wO_neg (ne 12 (by omega) (by omega)) (wO_pos rfl (wO_eq e3 (wO_some rfl))))))))))))))))
  · have ne : ∀ k, k < 14 → ¬ a = nI k := fun k hk e => by
      subst e
      rcases ha with ha | ha
      · exact pu_nn (by omega) ha
      · exact nI_ge hk (by omega) ha
    refine ⟨-1, s, m1, wO_iff.mp ?_, wO_iff.mp ?_, sm⟩
    · unfold xf_11_count
      exact wO_neg (ne 0 (by omega)) (wO_neg (ne 1 (by omega)) (wO_neg (ne 2 (by omega)) (wO_neg (ne 3 (by omega)) (wO_neg (ne 4 (by omega)) (wO_neg (ne 5 (by omega)) (wO_neg (ne 6 (by omega)) (wO_neg (ne 7 (by omega)) (wO_neg (ne 8 (by omega)) (wO_neg (ne 9 (by omega)) (wO_neg (ne 10 (by omega)) (wO_neg (ne 11 (by omega)) (wO_neg (ne 12 (by omega)) (wO_neg (ne 13 (by omega)) (wO_some rfl))))))))))))))
    · unfold mf_count
      exact wO_eq em (wO_neg (ne 0 (by omega)) (wO_neg (ne 1 (by omega)) (wO_neg (ne 2 (by omega)) (wO_neg (ne 3 (by omega)) (wO_neg (ne 4 (by omega)) (wO_neg (ne 5 (by omega)) (wO_neg (ne 6 (by omega)) (wO_neg (ne 7 (by omega)) (wO_neg (ne 8 (by omega)) (wO_neg (ne 9 (by omega)) (wO_neg (ne 10 (by omega)) (wO_neg (ne 11 (by omega)) (wO_neg (ne 12 (by omega)) (wO_neg (ne 13 (by omega)) (wO_some rfl)))))))))))))))
