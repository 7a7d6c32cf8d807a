/-! reading: units, products, sums -/
theorem e_unit {K P V : Nat → Nat} {W : Nat → Int64} {N k : Nat} {rec : xs_S → Int32 → Option xs_S} (hk : k ≤ 6)
    (hrec : k < 6 → ∀ s m t z c st, gEs K P V W N t (k + 1) z c st s m → st.length ≤ 3 * (k + 1) → gHd 2 st → ∃ s2, rec s (nI (k + 1)) = some s2 ∧ xsF xKei [21] s s2 ∧ gOu K P V W N t (k + 1) z c st 2 s m s2)
    (hrecb : k < 6 → ∀ s f p, gXb P N f p s → ∃ s2, rec s (nI (k + 1)) = some s2 ∧ xsF [321] [21] s s2 ∧ gXb P N f p s2) :
    ∀ s m t z c st, gEs K P V W N t k z c st s m → st.length ≤ 3 * k + 2 → ∃ s2, xf_6_unit rec s (nI k) = some s2 ∧ xsF xKei [21] s s2 ∧ gOu K P V W N t k z c st 0 s m s2 := by
  intro s m t z c st hE hst
  obtain ⟨hT, hH, hz, hzt, h12, hk6, h39, hW, hc, ho⟩ := id hE
  have hN := hT.1
  have ht := hH.1
  obtain ⟨k1, k2, k3, k4, k5, k6, k7, k8⟩ := hT.2.2.2.2 t ht
  obtain ⟨C, c1, c2, c3⟩ := hT.2.1
  have hkd := x_kind hT hH
  have hEm := gEs_em1 hE
  by_cases c30 : K t = 30
  · rcases l13_open hE (by omega) c30 with ⟨hk5, t400, m1, l1, fm1, i11, i13, i12, w1, q39, q40, q41⟩ | ⟨hor, m1, l1, fm1, g1, t2, ht2, q11⟩
    · -- a bracket opens
      obtain ⟨s1, f1, hx⟩ := x_take hT hH (show 30 < 34 by omega)
      rcases hx with ⟨-, -, e1, i100, i101⟩ | ⟨q, -⟩
      · have hT1 : gTok K P V W N s1 m1 := hT.mv (f1.1 21 (by decide)) (f1.2.1 3 (by decide)) (f1.2.1 4 (by decide)) (by rw [f1.2.2.1]) (fm1.a 5 (by decide)) (fm1.a 6 (by decide)) (fm1.a 7 (by decide)) (by rw [fm1.2])
        have hH1 : gHl N (t + 1) s1 m1 := ⟨gHl_next hT ht (by omega) (by omega) t400, i100, i101, i11, i13⟩
        have hE1 : gEs K P V W N (t + 1) (k + 1) z c (6 :: st) s1 m1 := ⟨hT1, hH1, (f1.1 321 (by decide)).trans hz, by omega, i12, by omega, q39, w1, by show c + (st.length + 1) ≤ _; omega, fun o ho2 => by
          rcases List.mem_cons.mp ho2 with q | q
          · exact Or.inl q
          · exact ho o q⟩
        obtain ⟨s2, e2, f2, o2⟩ := hrec hk5 s1 m1 (t + 1) z c (6 :: st) hE1 (by show st.length + 1 ≤ _; omega) (fun _ => Or.inr ⟨6, st, rfl, by omega, Or.inl rfl⟩)
        have f12 : xsF xKei [21] s s2 := (f1.wk (by decide) (by decide)).tr f2
        have mB1 : mB m = mB m1 := mB_open l1
        have head : ∀ (b : Int32) (s3 : xs_S), xf_6_take s2 (nI 31) = some (b, s3) → xf_6_unit rec s (nI k) = some s3 := fun b s3 e3 => wO_iff.mp (by
          unfold xf_6_unit
          refine wO_eq hkd (wO_pos (by rw [c30]; rfl) (wO_pos (show nI k < (6 : Int32) from nI_lt (b := 6) hk5 (by omega)) (wO_eq e1 ?_)))
          rw [nI_1]
          exact wO_eq e2 (wO_eq e3 (wO_some rfl)))
        rcases o2 with ⟨m2, Y2, pd2, t2, p1, p2, hE2, p4, p5, wf2, ax2, ay2, fm2, mb2⟩ | ⟨f, p, g2, r, hr1, hr2⟩
        · obtain ⟨hT2, hH2, hz2, hzt2, h122, hk62, h392, hW2, hc2, ho2⟩ := id hE2
          have ht2 := hH2.1
          have hlp2 := p1.1
          have hll : (pd2 ++ 6 :: st).length = pd2.length + (st.length + 1) := by rw [List.length_append]; rfl
          have hlX2 : (Y2 ++ pd2.map gOpi).length = Y2.length + pd2.length := by rw [List.length_append, List.length_map]
          have hpd2 : ∀ o, o ∈ pd2 → o = 10 ∨ o = 15 ∨ o = 8 ∨ o = 9 := fun o hq => by
            rcases p1.2 o hq with q | q | ⟨-, q | q⟩
            · exact Or.inl q
            · exact Or.inr (Or.inl q)
            · exact Or.inr (Or.inr (Or.inl q))
            · exact Or.inr (Or.inr (Or.inr q))
          obtain ⟨s3, f3, hx3⟩ := x_take hT2 hH2 (show 31 < 34 by omega)
          have f13 : xsF xKei [21] s s3 := f12.tr (f3.wk (by decide) (by decide))
          have ax1 : gAx z [] s s1 := gAx.nil ((f1.1 321 (by decide)).trans hz) (f1.2.1 21 (by decide))
          have ax12 : gAx z (Y2 ++ pd2.map gOpi) s s2 := ax2.mv0 (f1.2.1 21 (by decide))
          have ay12 : gAy c Y2 m m2 := ay2.mv0 q40 q41
          have fm12 : msF gKe m m2 := fm1.tr fm2
          by_cases c31 : K t2 = 31
          · obtain ⟨m3, fm3, i123, w3, a3, hA⟩ := A_close hE2 (by omega) hpd2 c31 (by omega)
            have ay3 : gAy c (Y2 ++ pd2.map gOpi) m m3 := ay12.tr a3
            have fm13 : msF gKe m m3 := fm12.tr fm3
            rcases hx3 with ⟨-, t400b, e3, j100, j101⟩ | ⟨q, e3, g3⟩
            · rcases hA with ⟨-, hA1, hA2, hA3⟩ | ⟨q, -⟩
              · refine ⟨s3, head 1 s3 e3, f13, Or.inl ⟨m3, Y2 ++ pd2.map gOpi, [], t2 + 1, ⟨Nat.le_refl _, fun o hq => by simp at hq⟩, ⟨fun q => by omega, fun q => by omega⟩, ?_, ?_, by omega, ?_, ?_, ay3, fm13, mB1.trans (mb2.trans hA1)⟩⟩
                · rw [List.map_nil, List.append_nil]
                  refine ⟨hT2.mv (f3.1 21 (by decide)) (f3.2.1 3 (by decide)) (f3.2.1 4 (by decide)) (by rw [f3.2.2.1]) (fm3.a 5 (by decide)) (fm3.a 6 (by decide)) (fm3.a 7 (by decide)) (by rw [fm3.2]), ⟨gHl_next hT2 ht2 (by omega) (by omega) t400b, j100, j101, hA2, hA3⟩, (f3.1 321 (by decide)).trans hz2, by omega, ?_, hk6, ay3.1, w3, ?_, ho⟩
                  · rw [i123, Nat.add_sub_cancel]
                  · rw [hlX2]
                    show c + (Y2.length + pd2.length) + st.length ≤ 420 + (t2 + 1)
                    omega
                · rw [List.map_nil, List.append_nil]
                  omega
                · rw [List.map_nil, List.append_nil]
                  exact gWfr_up (by omega) wf2
                · rw [List.map_nil, List.append_nil]
                  exact ax12.mv (f3.1 321 (by decide)) (f3.2.1 21 (by decide))
              · omega
            · rcases q with ⟨-, t400b⟩ | q
              · rcases hA with ⟨q, -⟩ | ⟨-, hA1, hA2, hA3⟩
                · omega
                · rw [if_pos c31] at g3
                  refine ⟨s3, head 0 s3 e3, f13, Or.inr ⟨2, P t2, gXb_of hT2 (gEs_em1 hE2) f3 g3, _, mB1.trans (mb2.trans hA1), m3, fm13, ⟨400, by omega, hA3⟩, Or.inr ⟨rfl, ⟨st, c + (Y2 ++ pd2.map gOpi).length, w3, by omega, ho, ay3.1, by rw [hlX2]; omega⟩, Or.inl hA2⟩⟩⟩
              · exact absurd c31 q
          · rcases hx3 with ⟨q, -⟩ | ⟨-, e3, g3⟩
            · exact absurd q c31
            · rw [if_neg c31] at g3
              have hend := A_end hE2 (by have h27 := p2.1 (by omega); have h25 := p2.2 (by omega); omega) (Or.inl c31)
              refine ⟨s3, head 0 s3 e3, f13, Or.inr ⟨1, P t2, gXb_of hT2 (gEs_em1 hE2) f3 g3, _, mB1.trans (mb2.trans hend), m2, fm12, ⟨t2, by omega, hH2.2.2.2.1⟩, Or.inr ⟨rfl, ⟨pd2 ++ 6 :: st, c + Y2.length, hW2, by omega, ho2, h392, by omega⟩, Or.inr ⟨rfl, t2, k + 1, s2, hT2, hH2, rfl, h122, by omega, by omega⟩⟩⟩⟩
        · have e3 := x_take_bad g2.1 (nI 31)
          exact ⟨s2, head 0 s2 e3, f12, Or.inr ⟨f, p, g2, r, mB1.trans hr1, hr2.pre fm1⟩⟩
      · rcases q with q | q
        · omega
        · exact absurd c30 q
    · -- no room, or the last token
      have mB1 : mB m = some (.inl m1) := (mB_open l1).trans (mB_badstart g1)
      have bx : gBx K P V W N 2 (P t) m (.inl m1) := ⟨m1, fm1, ⟨t2, ht2, q11⟩, Or.inl ⟨Or.inl rfl, g1⟩⟩
      by_cases hk5 : k < 6
      · have t400 : t = 400 := by omega
        obtain ⟨s1, f1, hx⟩ := x_take hT hH (show 30 < 34 by omega)
        rcases hx with ⟨-, q, -⟩ | ⟨-, e1, gg⟩
        · omega
        · rw [if_pos c30] at gg
          have g1b := gXb_of hT hEm f1 gg
          obtain ⟨s2, e2, f2, g2⟩ := hrecb hk5 s1 2 (P t) g1b
          refine ⟨s2, wO_iff.mp ?_, (f1.wk (by decide) (by decide)).tr (f2.wk (by decide) (by decide)), Or.inr ⟨2, P t, g2, _, mB1, bx⟩⟩
          unfold xf_6_unit
          refine wO_eq hkd (wO_pos (by rw [c30]; rfl) (wO_pos (show nI k < (6 : Int32) from nI_lt (b := 6) hk5 (by omega)) (wO_eq e1 ?_)))
          rw [nI_1]
          exact wO_eq e2 (wO_eq (x_take_bad g2.1 31) (wO_some rfl))
      · obtain ⟨s1, e1, f1, g1c⟩ := x_fail (K := K) (P := P) (V := V) (W := W) (f := 2) hH (by omega) (by omega)
        refine ⟨s1, wO_iff.mp ?_, f1.wk (by decide) (by decide), Or.inr ⟨2, P t, gXb_of hT hEm f1 g1c, _, mB1, bx⟩⟩
        unfold xf_6_unit
        exact wO_eq hkd (wO_pos (by rw [c30]; rfl) (wO_neg (show ¬ nI k < (6 : Int32) from nI_nlt (b := 6) (by omega) (by omega)) (wO_eq e1 (wO_some rfl))))
  · -- a number, a var, or none
    obtain ⟨m2, em, fm, hm⟩ := m_unit hT hH h39 (by omega)
    have l13 := l13_no hT hH c30
    rcases hm with ⟨hkind, ay, i12, i43, i42, hgo⟩ | ⟨hno, gm, i11⟩
    · have hkk : (if K t = 22 then 22 else K t) = K t := by
        by_cases q : K t = 22
        · rw [if_pos q, q]
        · rw [if_neg q]
      obtain ⟨s1, f1, hx⟩ := x_take hT hH k1
      have cls : ∀ (b : Int32) (s3 : xs_S), xf_6_take s (nI (K t)) = some (b, s1) → xf_3_emit_20 s1 (gCst (gTi K V t)) = some s3 → xf_6_unit rec s (nI k) = some s3 := fun b s3 e1 e3 => wO_iff.mp (by
        unfold xf_6_unit xf_6_unit_j47
        refine wO_eq hkd (wO_neg (fun e => c30 ((nI_eq (b := 30) (by omega) (by omega)).mp e)) ?_)
        by_cases q22 : K t = 22
        · have ec : gCst (gTi K V t) = (s.2.2.1 5 t).toInt32 := by
            rw [(k7 q22).1]
            unfold gTi gCst
            rw [if_pos q22]
            rfl
          rw [ec] at e3
          rw [q22] at e1 ⊢
          exact wO_neg (by decide) (wO_pos (by decide) (wO_eq (x_value_any (by omega) c2 c3 hH.2.1) (wO_eq e1 (wO_eq e3 (wO_some rfl)))))
        · have hv : 12 ≤ K t ∧ K t ≤ 20 := hkind.resolve_left q22
          have ec : gCst (gTi K V t) = ((10000 : Int32) + nI (K t)) - (12 : Int32) := by
            rw [show (10000 : Int32) + nI (K t) = nI (10000 + K t) from nI_add 10000 (K t), show nI (10000 + K t) - (12 : Int32) = nI (10000 + K t - 12) from pu_sub (b := 12) (by omega)]
            unfold gTi gCst
            rw [if_neg q22]
            show nI (10000 + (K t - 12)) = _
            congr 1
            omega
          rw [ec] at e3
          exact wO_neg (show ¬ nI (K t) < (12 : Int32) from nI_nlt (b := 12) hv.1 (by omega)) (wO_neg (show ¬ (20 : Int32) < nI (K t) from nI_nlt (a := 20) hv.2 (by omega)) (wO_eq e1 (wO_eq e3 (wO_some rfl)))))
      have hik : gItk (gTi K V t) ∧ (gTi K V t).1 < 2 := by
        unfold gTi gItk
        by_cases q22 : K t = 22
        · rw [if_pos q22]
          exact ⟨Or.inl ⟨rfl, (k7 q22).2.2⟩, by show 0 < 2; omega⟩
        · rw [if_neg q22]
          have hv : 12 ≤ K t ∧ K t ≤ 20 := hkind.resolve_left q22
          exact ⟨Or.inr (Or.inl ⟨rfl, by show K t - 12 < 9; omega⟩), by show 1 < 2; omega⟩
      rcases hx with ⟨-, t400, e1, i100, i101⟩ | ⟨q, e1, g1⟩
      · have ax1 : gAx z [] s s1 := gAx.nil ((f1.1 321 (by decide)).trans hz) (f1.2.1 21 (by decide))
        obtain ⟨s3, e3, f3, ax3⟩ := x_emit1 (x := gTi K V t) ax1 (by show z + 0 < 401; omega)
        rw [List.nil_append] at ax3
        rcases hgo with ⟨-, g11, g13⟩ | ⟨q, -⟩
        · refine ⟨s3, cls 1 s3 e1 e3, (f1.wk (by decide) (by decide)).tr (f3.wk (by decide) (by decide)), Or.inl ⟨m2, [gTi K V t], [], t + 1, ⟨Nat.le_refl _, fun o hq => by simp at hq⟩, ⟨fun q => by omega, fun q => by omega⟩, ?_, ?_, by omega, ?_, ?_, ay, fm, mB_unit l13 em g13⟩⟩
          · rw [List.map_nil, List.append_nil]
            refine ⟨hT.mv ((f3.1 21 (by decide)).trans (f1.1 21 (by decide))) ((f3.2.1 3 (by decide)).trans (f1.2.1 3 (by decide))) ((f3.2.1 4 (by decide)).trans (f1.2.1 4 (by decide))) (by rw [f3.2.2.1, f1.2.2.1]) (fm.a 5 (by decide)) (fm.a 6 (by decide)) (fm.a 7 (by decide)) (by rw [fm.2]), ⟨gHl_next hT ht (by omega) (by omega) t400, (f3.1 100 (by decide)).trans i100, (f3.1 101 (by decide)).trans i101, g11, g13⟩, ax3.1, by show z + 1 ≤ t + 1; omega, i12.trans h12, hk6, ay.1, ⟨i43.trans hW.1, by rw [i42]; exact hW.2⟩, by show c + 1 + st.length ≤ 420 + (t + 1); omega, ho⟩
          · show t + 1 ≤ t + 1
            omega
          · refine ⟨hik.1, ?_⟩
            rw [if_pos hik.2]
            exact ⟨by omega, rfl⟩
          · exact ax3
        · omega
      · rcases q with ⟨-, t400⟩ | q
        · rw [if_pos rfl] at g1
          have g1b := gXb_of hT hEm f1 g1
          obtain ⟨s3, e3, f3, g3⟩ := x_emit_any (v := gCst (gTi K V t)) g1b.2.1
          rcases hgo with ⟨q, -⟩ | ⟨-, g2, g11⟩
          · omega
          · exact ⟨s3, cls 0 s3 e1 e3, (f1.wk (by decide) (by decide)).tr (f3.wk (by decide) (by decide)), Or.inr ⟨2, P t, g1b.mv f3 g3, _, mB_bad l13 em g2, m2, fm, ⟨400, by omega, g11⟩, Or.inl ⟨Or.inl rfl, g2⟩⟩⟩
        · exact absurd rfl q
    · obtain ⟨s1, f1, hx⟩ := x_take hT hH (show 22 < 34 by omega)
      rcases hx with ⟨q, -⟩ | ⟨-, e1, g1⟩
      · exact absurd (Or.inl q) hno
      · rw [if_neg (fun q => hno (Or.inl q))] at g1
        have g1b := gXb_of hT hEm f1 g1
        obtain ⟨s3, e3, f3, g3⟩ := x_emit_any (v := (s.2.2.1 5 t).toInt32) g1b.2.1
        refine ⟨s3, wO_iff.mp ?_, (f1.wk (by decide) (by decide)).tr (f3.wk (by decide) (by decide)), Or.inr ⟨1, P t, g1b.mv f3 g3, _, mB_bad l13 em gm, m2, fm, ⟨t, by omega, i11⟩, Or.inl ⟨Or.inl rfl, gm⟩⟩⟩
        unfold xf_6_unit xf_6_unit_j47
        refine wO_eq hkd (wO_neg (fun e => c30 ((nI_eq (b := 30) (by omega) (by omega)).mp e)) ?_)
        have tail := wO_eq (P := fun y => y = s3) (x_value_any (s := s) (show t < C by omega) c2 c3 hH.2.1) (f := fun x => (xf_6_take x.2 22).bind fun y => (xf_3_emit_20 y.2 x.1.toInt32).bind fun s_11 => some s_11) (wO_eq e1 (wO_eq e3 (wO_some rfl)))
        by_cases q12 : K t < 12
        · exact wO_pos (show nI (K t) < (12 : Int32) from nI_lt (b := 12) q12 (by omega)) (wO_eq (x_value_any (by omega) c2 c3 hH.2.1) (wO_eq e1 (wO_eq e3 (wO_some rfl))))
        · have q20 : 20 < K t := by
            rcases Nat.lt_or_ge 20 (K t) with q | q
            · exact q
            · exact absurd (Or.inr ⟨by omega, q⟩) hno
          exact wO_neg (show ¬ nI (K t) < (12 : Int32) from nI_nlt (b := 12) (by omega) (by omega)) (wO_pos (show (20 : Int32) < nI (K t) from nI_lt (a := 20) q20 (by omega)) (wO_eq (x_value_any (by omega) c2 c3 hH.2.1) (wO_eq e1 (wO_eq e3 (wO_some rfl)))))
