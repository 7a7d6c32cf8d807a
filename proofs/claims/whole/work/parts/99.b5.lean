/-! wages of both; hire; cheapest -/
def gWb (g : gT) (ti l r : Nat) : Nat := gW g l r ti 0 6 + gW g l r ti 1 6
theorem gW_le (g : gT) (l r sl tu la : Nat) : gW g l r sl tu la ≤ 99 := by
  have := gcl_le (g.2.2.2 1 (gv0 g l r sl tu la)) 99
  unfold gW
  omega
theorem x_wages {g : gT} {s : xs_S} {ti l r : Nat} (h : XT g s) (h151 : s.1 151 = nI ti) (hti : ti ≤ 20) (hl : l < g.1.1) (hr : r < g.1.1) : wO (xf_7_wagesOfBoth_9 s (nI l) (nI r)) (fun p => p.1 = nI (gWb g ti l r) ∧ xsF [] [15, 16] s p.2) := by
  have one : ∀ (t : xs_S) (b : Nat), b ≤ 1 → XT g t → wO (xf_7_lawOf_9 t 1 (nI l) (nI r) (nI (14 * ti + 7 * b)) (-1)) (fun q => q.1 = g.2.2.2 1 (gv0 g l r ti b 6) ∧ xsF [] [15, 16] t q.2) := fun t b hb ht => by
    have hg : gph (14 * ti + 7 * b + 6) = 14 * ti + 7 * b := gph_6
    have hs : gSt g.1.2 (14 * ti + 7 * b + 6) := ⟨by omega, Or.inr (by omega)⟩
    have := x_lawOf (k := 1) (w := none) ht (by omega) hl hr hs (fun x hx => by cases hx)
    rw [hg, show (14 * ti + 7 * b + 6) / 14 = ti by omega, show (14 * ti + 7 * b + 6) / 7 % 2 = b by omega, show (14 * ti + 7 * b + 6) % 7 = 6 by omega] at this
    exact this
  unfold xf_7_wagesOfBoth_9
  rw [h151]
  refine wO_eq (x_standingN ti 0) (wO_bd (one s 0 (by omega) h) ?_)
  rintro ⟨v1, s1⟩ ⟨e1, f1⟩
  have e1 : v1 = g.2.2.2 1 (gv0 g l r ti 0 6) := e1
  have f1 : xsF [] [15, 16] s s1 := f1
  subst e1
  have h1511 : s1.1 151 = nI ti := (f1.1 151 (by decide)).trans h151
  refine wO_eq (x := nI (14 * ti + 7 * 1)) (by rw [h1511]; exact x_standingN ti 1) (wO_bd (one s1 1 (by omega) (h.mv f1 (by decide) (by decide))) ?_)
  rintro ⟨v2, s2⟩ ⟨e2, f2⟩
  have e2 : v2 = g.2.2.2 1 (gv0 g l r ti 1 6) := e2
  have f2 : xsF [] [15, 16] s1 s2 := f2
  subst e2
  refine wO_eq (gcl_x _ (M := 99) (by omega)) (wO_eq (gcl_x _ (M := 99) (by omega)) (wO_some ⟨?_, f1.tr f2⟩))
  exact nI_add _ _
/-- the reference: a pair set, its wages -/
theorem m_pairset {g : gT} {lv ti l r : Nat} {m1 : ms_S} {po : Option (Nat × Nat)} {wo sl tu la : Nat} (h : MW g lv m1 po wo sl tu la) (h29 : m1.2.1 29 lv = nI ti) (hti : ti ≤ 20) (hl : l < g.1.1) (hr : r < g.1.1) : ∃ m2, mf_setsRow (ms_sA m1 48 (upd (upd (m1.2.1 48) 3 (nI l)) 4 (nI r))) = some m2 ∧ msF [48] m1 m2 ∧ MC g lv m2 l r ti 0 6 ∧ m2.2.1 48 = gRw (upd (upd (m1.2.1 48) 3 (nI l)) 4 (nI r)) ti 0 6 := by
  have hF : msF [48] m1 (ms_sA m1 48 (upd (upd (m1.2.1 48) 3 (nI l)) 4 (nI r))) := msF.sA (by decide)
  obtain ⟨m2, e2, f2, r2⟩ := m_setsRow (s := ms_sA m1 48 (upd (upd (m1.2.1 48) 3 (nI l)) 4 (nI r))) (lv := lv) (ti := ti) h.1.1 h.1.2.1 h29
  have ft := hF.tr f2
  refine ⟨m2, e2, ft, ⟨h.1.mv ft (by decide), ?_, hl, hr, Or.inr rfl⟩, r2⟩
  unfold MR
  rw [r2]
  exact ⟨rfl, rfl, rfl, rfl, rfl, hti, by omega, by omega⟩
theorem m_wagesBoth {g : gT} {lv ti l r : Nat} {m : ms_S} {po : Option (Nat × Nat)} {st : Nat} (h : MN g lv m po st) (h29 : m.2.1 29 lv = nI ti) (hti : ti ≤ 20) (hl : l < g.1.1) (hr : r < g.1.1) : wO (mf_wagesBoth m (nI l) (nI r)) (fun p => p.1 = nI (gWb g ti l r) ∧ msF mQ m p.2) := by
  unfold mf_wagesBoth
  refine wO_bd (m_copies h) ?_
  rintro m1 ⟨f1, r1, l1, w1⟩
  obtain ⟨m2, e2, f2, c2, -⟩ := m_pairset w1 (by rw [f1.a 29 (by decide)]; exact h29) hti hl hr
  refine wO_eq e2 ?_
  refine wO_bd (m_wagesOf (on := 0) c2 (by omega)) ?_
  rintro ⟨v1, m3⟩ ⟨q1, q2⟩
  have q1 : v1 = nI (gW g l r ti 0 6) := q1
  have q2 : msF gKs m2 m3 := q2
  subst q1
  refine wO_bd (m_wagesOf (on := 1) (c2.mv q2) (by omega)) ?_
  rintro ⟨v2, m4⟩ ⟨q3, q4⟩
  have q3 : v2 = nI (gW g l r ti 1 6) := q3
  have q4 : msF gKs m3 m4 := q4
  subst q3
  exact wO_some ⟨nI_add _ _, (f1.wk (by decide)).tr ((f2.wk (by decide)).tr ((q2.wk (by decide)).tr (q4.wk (by decide))))⟩
theorem R_s8 : lw_s8 RR := fun n s m x1 x2 h hn => by
  obtain ⟨g, lv, po, st, ti, h1, h2, h3⟩ := id h
  have hns := h1.1.1.1
  have h147 := h1.1.1.2.2.1
  have hti := h2.2.1
  have out : ∀ (hxo : xf_11_areTwo s x1 x2 = some (0, s)) (hmo : mf_hire m x1 x2 = some (-1, m)), gAns n (xf_11_hire s x1 x2) (mf_hire m x1 x2) := by
    intro hxo hmo
    refine ⟨-1, s, m, wO_iff.mp ?_, hmo, R_up h⟩
    unfold xf_11_hire
    exact wO_eq hxo (wO_pos rfl (wO_some rfl))
  rcases pu_small x1 g.1.1 (by omega) with ⟨l, hl, rfl⟩ | hx1
  · rcases pu_small x2 g.1.1 (by omega) with ⟨r, hr, rfl⟩ | hx2
    · by_cases he : l = r
      · refine out (wO_iff.mp ?_) (wO_iff.mp ?_)
        · unfold xf_11_areTwo
          refine wO_eq (x_hasSpeaker h147 hns (by omega)) ?_
          rw [decide_eq_true hl]
          refine wO_neg pu_10 (wO_eq (x_hasSpeaker h147 hns (by omega)) ?_)
          rw [decide_eq_true hr]
          exact wO_neg pu_10 (wO_pos (by rw [he]) (wO_some rfl))
        · unfold mf_hire
          exact wO_eq (m_isSpeaker_yes h3.1 hl) (wO_neg pu_10 (wO_eq (m_isSpeaker_yes h3.1 hr) (wO_neg pu_10 (wO_pos (by rw [he]) (wO_some rfl)))))
      · have hne : ¬ nI l = nI r := fun e => he ((nI_eq (by omega) (by omega)).mp e)
        have two : xf_11_areTwo s (nI l) (nI r) = some (1, s) := wO_iff.mp (by
          unfold xf_11_areTwo
          refine wO_eq (x_hasSpeaker h147 hns (by omega)) ?_
          rw [decide_eq_true hl]
          refine wO_neg pu_10 (wO_eq (x_hasSpeaker h147 hns (by omega)) ?_)
          rw [decide_eq_true hr]
          exact wO_neg pu_10 (wO_neg hne (wO_some rfl)))
        have hG := h3.2.2.2.2.1
        obtain ⟨g1, g2, g3, g4, g5, g6, g7, g8, g9, g10⟩ := id hG
        have g3 : gAp po g.1.1 (s.1 401) (s.1 402) := g3
        have xhead : ∀ P, (po = some (l, r) → wO (some ((-1 : Int32), s)) P) → (¬ po = some (l, r) → wO (xf_11_hire_j17 s (nI l) (nI r)) P) → wO (xf_11_hire s (nI l) (nI r)) P := fun P hy hno => by
          unfold xf_11_hire
          refine wO_eq two (wO_neg pu_10 ?_)
          refine wO_ite (fun c1 => ?_) (fun c1 => hno (fun e => c1 ?_))
          · refine wO_ite (fun c2 => ?_) (fun c2 => hno (fun e => c2 ?_))
            · exact hy (gAp_u hns g3 (show gAp (some (l, r)) g.1.1 (s.1 401) (s.1 402) from ⟨c1.symm, c2.symm, hl, hr⟩))
            · subst e
              exact g3.2.1.symm
          · subst e
            exact g3.1.symm
        have mhead : ∀ P, (po = some (l, r) → wO (some ((-1 : Int32), m)) P) → (¬ po = some (l, r) → wO (mf_hire_j25 m (nI l) (nI r)) P) → wO (mf_hire m (nI l) (nI r)) P := fun P hy hno => by
          unfold mf_hire
          refine wO_eq (m_isSpeaker_yes h3.1 hl) (wO_neg pu_10 (wO_eq (m_isSpeaker_yes h3.1 hr) (wO_neg pu_10 (wO_neg hne ?_))))
          refine wO_ite (fun c1 => ?_) (fun c1 => hno (fun e => c1 ?_))
          · refine wO_ite (fun c2 => ?_) (fun c2 => hno (fun e => c2 ?_))
            · refine hy ?_
              cases po with
              | none => exact absurd (c1.symm.trans g7.1) (by
                  have : ∀ k, k < 5 → ¬ nI k = (-2 : Int32) := by decide
                  exact this l (by omega))
              | some p =>
                obtain ⟨l2, r2⟩ := p
                have e1 : l2 = l := (nI_eq (by have := g7.2.2.1; omega) (by omega)).mp (g7.1.symm.trans c1)
                have e2 : r2 = r := (nI_eq (by have := g7.2.2.2; omega) (by omega)).mp (g7.2.1.symm.trans c2)
                rw [e1, e2]
            · subst e
              exact g7.2.1
          · subst e
            exact g7.1
        by_cases hp : po = some (l, r)
        · exact ⟨-1, s, m, wO_iff.mp (xhead _ (fun _ => wO_some rfl) (fun q => absurd hp q)), wO_iff.mp (mhead _ (fun _ => wO_some rfl) (fun q => absurd hp q)), R_up h⟩
        · obtain ⟨s1, e1, i1, a1, l1, k1⟩ := x_keep h3.2.2.2.2.2.1 hG
          have hT1 : XT g s1 := by
            have hT := h1.1.1
            unfold XT XL at hT ⊢
            rw [i1 147 (by omega), i1 148 (by omega), i1 193 (by omega), a1 10 (by omega), a1 11 (by omega), a1 13 (by omega), a1 14 (by omega)]
            exact hT
          obtain ⟨⟨v, s2⟩, e2, v2, f2⟩ := x_wages (ti := ti) (l := l) (r := r) hT1 (by rw [i1 151 (by omega)]; exact h2.1) hti hl hr
          have v2 : v = nI (gWb g ti l r) := v2
          subst v2
          have f2 : xsF [] [15, 16] s1 s2 := f2
          have e26 : s2.2.1 26 = s.2.1 26 := by rw [f2.2.1 26 (by decide), a1 26 (by omega)]
          -- the reference
          obtain ⟨m1, em, fm, rm, lm, wm⟩ := m_copies h3.mn
          have fm2 : msF mqA m m1 := fm.wk (by decide)
          obtain ⟨m2, em2, fm3, cm, rw2⟩ := m_pairset wm (by rw [fm.a 29 (by decide)]; exact h3.2.1) hti hl hr
          have ex : ∃ t, (∀ P, wO ((xf_1_lay_9 t (nI l) (nI r)).bind fun s_12 => some (nI (gWb g ti l r), s_12)) P → wO (xf_11_hire_j17 s (nI l) (nI r)) P) ∧ t = xs_sI (xs_sA (xs_sI (xs_sI (xs_sI s2 401 (nI l)) 402 (nI r)) 404 (s2.1 404 + nI (gWb g ti l r))) 26 (upd (upd (s.2.1 26) l (s.2.1 26 l + 1)) r (s.2.1 26 r + 1))) 400 (nI (gph (14 * ti + 6))) := by
            refine ⟨_, fun P hP => ?_, rfl⟩
            unfold xf_11_hire_j17
            refine wO_eq e1 (wO_eq e2 ?_)
            refine wO_agv (k := l) (v := s.2.1 26 l) rfl (by omega) (by omega) (by rw [e26]) (wO_in (k := l) rfl (by omega) (by omega) ?_)
            rw [nI_clamp (by omega)]
            refine wO_agv (k := r) (v := s.2.1 26 r) rfl (by omega) (by omega) (by rw [upd_ne (fun e => he e.symm), e26]) (wO_in (k := r) rfl (by omega) (by omega) ?_)
            rw [nI_clamp (by omega), e26]
            refine wO_eq (x_even_st (ti := ti) ((f2.1 151 (by decide)).trans ((i1 151 (by omega)).trans h2.1))) ?_
            exact hP
          obtain ⟨t, ext, ht⟩ := ex
          have t26 : t.2.1 26 = upd (upd (s.2.1 26) l (s.2.1 26 l + 1)) r (s.2.1 26 r + 1) := by rw [ht]; rfl
          have tI : ∀ j, ¬ (400 ≤ j ∧ j < 405) → t.1 j = s2.1 j := fun j hj => by
            rw [ht]
            exact (mm_up_ne (by omega)).trans ((mm_up_ne (by omega)).trans ((mm_up_ne (by omega)).trans (mm_up_ne (by omega))))
          have tA : ∀ j, ¬ j = 26 → t.2.1 j = s2.2.1 j := fun j hj => by rw [ht]; exact mm_up_ne hj
          have t0 : t.1 400 = nI (gph (14 * ti + 6)) := by rw [ht]; rfl
          have t1 : t.1 401 = nI l := by rw [ht]; rfl
          have t2 : t.1 402 = nI r := by rw [ht]; rfl
          have t3 : t.1 403 = s.1 403 := by
            rw [ht]
            show s2.1 403 = _
            rw [f2.1 403 (by decide), i1 403 (by omega)]
          have t4 : t.1 404 = s.1 404 + nI (gWb g ti l r) := by
            rw [ht]
            show s2.1 404 + _ = _
            rw [f2.1 404 (by decide), i1 404 (by omega)]
          have mm : wO (mf_hire_j25 m (nI l) (nI r)) (fun q => q.1 = nI (gWb g ti l r) ∧ msF mdA m q.2 ∧ RP g s1 q.2 ∧ ∀ k, k < 12 → q.2.2.1 47 k = if k = 0 then nI ti else if k = 1 then 0 else if k = 2 then 6 else if k = 3 then nI l else if k = 4 then nI r else if k = 6 then m.2.1 47 6 + nI (gWb g ti l r) else if k = 7 + l ∨ k = 7 + r then m.2.1 47 k + 1 else m.2.1 47 k) := by
            unfold mf_hire_j25
            refine wO_eq em (wO_eq em2 ?_)
            have key : ∀ m4, msF gKs m2 m4 → wO ((mo_ag 12 (upd (m4.2.1 48) 6 ((m4.2.1 48 6) + (nI (gW g l r ti 0 6) + nI (gW g l r ti 1 6)))) ((7 : Int32) + nI l)).bind fun x_12 =>
                (bif mo_in ((7 : Int32) + nI l) 12 then ((mo_ag 12 (upd (upd (m4.2.1 48) 6 ((m4.2.1 48 6) + (nI (gW g l r ti 0 6) + nI (gW g l r ti 1 6)))) (((7 : Int32) + nI l)).toNatClampNeg (x_12 + (1 : Int32))) ((7 : Int32) + nI r)).bind fun x_14 =>
                (bif mo_in ((7 : Int32) + nI r) 12 then ((mf_records (ms_sA m4 48 (upd (upd (upd (m4.2.1 48) 6 ((m4.2.1 48 6) + (nI (gW g l r ti 0 6) + nI (gW g l r ti 1 6)))) (((7 : Int32) + nI l)).toNatClampNeg (x_12 + (1 : Int32))) (((7 : Int32) + nI r)).toNatClampNeg (x_14 + (1 : Int32))))).bind fun s_16 =>
                some ((nI (gW g l r ti 0 6) + nI (gW g l r ti 1 6)), s_16)) else none)) else none)) (fun q => q.1 = nI (gWb g ti l r) ∧ msF mdA m q.2 ∧ RP g s1 q.2 ∧ ∀ k, k < 12 → q.2.2.1 47 k = if k = 0 then nI ti else if k = 1 then 0 else if k = 2 then 6 else if k = 3 then nI l else if k = 4 then nI r else if k = 6 then m.2.1 47 6 + nI (gWb g ti l r) else if k = 7 + l ∨ k = 7 + r then m.2.1 47 k + 1 else m.2.1 47 k) := fun m4 f4 => by
              have ew : nI (gW g l r ti 0 6) + nI (gW g l r ti 1 6) = nI (gWb g ti l r) := nI_add _ _
              have e7 : ∀ k, (7 : Int32) + nI k = nI (7 + k) := fun k => nI_add 7 k
              have r4 : m4.2.1 48 = gRw (upd (upd (m1.2.1 48) 3 (nI l)) 4 (nI r)) ti 0 6 := (f4.a 48 (by decide)).trans rw2
              rw [ew, e7, e7]
              refine wO_ag (k := 7 + l) rfl (by omega) (by omega) (wO_in (k := 7 + l) rfl (by omega) (by omega) ?_)
              rw [nI_clamp (by omega)]
              refine wO_ag (k := 7 + r) rfl (by omega) (by omega) (wO_in (k := 7 + r) rfl (by omega) (by omega) ?_)
              rw [nI_clamp (by omega), upd_ne (show ¬ 7 + r = 7 + l by omega), upd_ne (show ¬ 7 + r = 6 by omega), upd_ne (show ¬ 7 + l = 6 by omega), r4]
              generalize hrow : upd (upd (upd (gRw (upd (upd (m1.2.1 48) 3 (nI l)) 4 (nI r)) ti 0 6) 6 (gRw (upd (upd (m1.2.1 48) 3 (nI l)) 4 (nI r)) ti 0 6 6 + nI (gWb g ti l r))) (7 + l) (gRw (upd (upd (m1.2.1 48) 3 (nI l)) 4 (nI r)) ti 0 6 (7 + l) + 1)) (7 + r) (gRw (upd (upd (m1.2.1 48) 3 (nI l)) 4 (nI r)) ti 0 6 (7 + r) + 1) = row
              have f5 : msF mqA m (ms_sA m4 48 row) := fm2.tr ((fm3.wk (by decide)).tr ((f4.wk (by decide)).tr (msF.sA (by decide))))
              refine wO_bd (k1 (ms_sA m4 48 row) (f5.i 54 (by decide)) (f5.a 55 (by decide)) (f5.a 47 (by decide))) ?_
              rintro n1 ⟨d1, d2, d3⟩
              refine wO_some ⟨rfl, (f5.wk (by decide)).tr (d1.wk (by decide)), d3, fun k hk => ?_⟩
              refine (d2 k hk).trans ?_
              show row k = _
              have base : ∀ j, j < 12 → m1.2.1 48 j = m.2.1 47 j := rm
              rw [← hrow]
              unfold upd gRw
              rcases (show k = 0 ∨ k = 1 ∨ k = 2 ∨ k = 3 ∨ k = 4 ∨ k = 5 ∨ k = 6 ∨ 7 ≤ k by omega) with rfl | rfl | rfl | rfl | rfl | rfl | rfl | hk7
              · rw [if_neg (by omega), if_neg (by omega), if_neg (by omega)]; rfl
              · rw [if_neg (by omega), if_neg (by omega), if_neg (by omega)]; rfl
              · rw [if_neg (by omega), if_neg (by omega), if_neg (by omega)]; rfl
              · rw [if_neg (by omega), if_neg (by omega), if_neg (by omega)]; rfl
              · rw [if_neg (by omega), if_neg (by omega), if_neg (by omega)]; rfl
              · rw [if_neg (by omega), if_neg (by omega), if_neg (by omega)]
                refine (base 5 (by omega)).trans ?_
                rw [if_neg (by omega), if_neg (by omega), if_neg (by omega), if_neg (by omega), if_neg (by omega), if_neg (by omega), if_neg (by omega)]
              · rw [if_neg (by omega), if_neg (by omega), if_pos rfl]
                show m1.2.1 48 6 + _ = m.2.1 47 6 + _
                rw [base 6 (by omega)]
              · have z : ∀ j, 7 ≤ j → j < 12 → (if j = 0 then nI ti else if j = 1 then nI 0 else if j = 2 then nI 6 else if j = 4 then nI r else if j = 3 then nI l else m1.2.1 48 j) = m.2.1 47 j := fun j h7 h12 => by
                  rw [if_neg (by omega), if_neg (by omega), if_neg (by omega), if_neg (by omega), if_neg (by omega)]
                  exact base j h12
                rw [z (7 + r) (by omega) (by omega), z (7 + l) (by omega) (by omega), z k hk7 hk, if_neg (show ¬ k = 0 by omega), if_neg (show ¬ k = 1 by omega), if_neg (show ¬ k = 2 by omega), if_neg (show ¬ k = 3 by omega), if_neg (show ¬ k = 4 by omega), if_neg (show ¬ k = 6 by omega), if_neg (show ¬ k = 6 by omega)]
                by_cases kr : k = 7 + r
                · rw [if_pos kr, if_pos (Or.inr kr), kr]
                · rw [if_neg kr]
                  by_cases kl : k = 7 + l
                  · rw [if_pos kl, if_pos (Or.inl kl), kl]
                  · rw [if_neg kl, if_neg (fun q => q.elim kl kr)]
            refine wO_bd (m_wagesOf (on := 0) cm (by omega)) ?_
            rintro ⟨u1, m3⟩ ⟨q1, q2⟩
            have q1 : u1 = nI (gW g l r ti 0 6) := q1
            have q2 : msF gKs m2 m3 := q2
            subst q1
            refine wO_bd (m_wagesOf (on := 1) (cm.mv q2) (by omega)) ?_
            rintro ⟨u2, m4⟩ ⟨q3, q4⟩
            have q3 : u2 = nI (gW g l r ti 1 6) := q3
            have q4 : msF gKs m3 m4 := q4
            subst q3
            exact key m4 (q2.tr q4)
          obtain ⟨⟨v, n1⟩, emm, v1, f1, p1, d1⟩ := mm
          have v1 : v = nI (gWb g ti l r) := v1
          subst v1
          have f1 : msF mdA m n1 := f1
          have p1 : RP g s1 n1 := p1
          have hG2 : RG g (some (l, r)) (14 * ti + 6) t n1 := by
            have q1 : (14 * ti + 6) / 14 = ti := by omega
            have q2 : (14 * ti + 6) / 7 % 2 = 0 := by omega
            have q3 : (14 * ti + 6) % 7 = 6 := by omega
            unfold RG GS
            rw [q1, q2, q3]
            refine ⟨⟨by omega, Or.inr (by omega)⟩, t0, ⟨t1, t2, hl, hr⟩, d1 0 (by omega), d1 1 (by omega), d1 2 (by omega), ⟨d1 3 (by omega), d1 4 (by omega), hl, hr⟩, ?_, ?_, fun j hj => ?_⟩
            · refine t3.trans (g8.trans ?_)
              refine Eq.trans ?_ (d1 5 (by omega)).symm
              rw [if_neg (by omega), if_neg (by omega), if_neg (by omega), if_neg (by omega), if_neg (by omega), if_neg (by omega), if_neg (by omega)]
            · refine t4.trans ?_
              refine Eq.trans ?_ (d1 6 (by omega)).symm
              rw [if_neg (by omega), if_neg (by omega), if_neg (by omega), if_neg (by omega), if_neg (by omega), if_pos rfl]
              exact congrArg (· + nI (gWb g ti l r)) g9
            · refine Eq.trans ?_ (d1 (7 + j) (by omega)).symm
              rw [t26, if_neg (by omega), if_neg (by omega), if_neg (by omega), if_neg (by omega), if_neg (by omega), if_neg (by omega)]
              by_cases jr : j = r
              · subst jr
                rw [upd_eq, if_pos (Or.inr rfl), g10 j hj]
              · rw [upd_ne jr]
                by_cases jl : j = l
                · subst jl
                  rw [upd_eq, if_pos (Or.inl rfl), g10 j hj]
                · rw [upd_ne jl, if_neg (by omega)]
                  exact g10 j hj
          have hP2 : RP g t n1 := p1.mv (fun j h4 h5 => (tI j (by omega)).trans (f2.1 j (by intro hq; cases hq))) (fun j h4 h5 => (tA j (by omega)).trans (f2.2.1 j (fun hq => by
            have : ∀ i ∈ [15, 16], i < 30 := by decide
            have := this j hq
            omega))) rfl rfl
          have lay := RR_lay (s1 := t) hn h1 h2 h3 (fun j h4 h5 => (tI j h4).trans ((f2.1 j (by intro hq; cases hq)).trans (i1 j h5))) (fun j h4 h5 h6 h7 => (tA j h4).trans ((f2.2.1 j (fun hq => by
            have : ∀ i ∈ [15, 16], i = 15 ∨ i = 16 := by decide
            have := this j hq
            omega)).trans (a1 j h5))) hG2 hP2 f1
          rw [t1, t2] at lay
          obtain ⟨t5, e5, hR⟩ := lay
          refine ⟨nI (gWb g ti l r), t5, n1, wO_iff.mp (xhead _ (fun q => absurd q hp) (fun _ => ?_)), wO_iff.mp (mhead _ (fun q => absurd q hp) (fun _ => ?_)), hR⟩
          · exact ext _ (wO_eq e5 (wO_some rfl))
          · rw [emm]
            exact wO_some rfl
    · refine out (wO_iff.mp ?_) (wO_iff.mp ?_)
      · unfold xf_11_areTwo
        refine wO_eq (x_hasSpeaker h147 hns (by omega)) ?_
        rw [decide_eq_true hl]
        exact wO_neg pu_10 (wO_eq (x_hasSpeaker_no h147 hx2) (wO_pos rfl (wO_some rfl)))
      · unfold mf_hire
        exact wO_eq (m_isSpeaker_yes h3.1 hl) (wO_neg pu_10 (wO_eq (m_isSpeaker_no h3.1 hx2) (wO_pos rfl (wO_some rfl))))
  · refine out (wO_iff.mp ?_) (wO_iff.mp ?_)
    · unfold xf_11_areTwo
      exact wO_eq (x_hasSpeaker_no h147 hx1) (wO_pos rfl (wO_some rfl))
    · unfold mf_hire
      exact wO_eq (m_isSpeaker_no h3.1 hx1) (wO_pos rfl (wO_some rfl))
