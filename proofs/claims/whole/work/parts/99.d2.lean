/-! rows that fit: going on, the search -/
def xdI : List Nat := [2018, 2022, 2023, 2024, 1928, 1929]
def xdA : List Nat := [15, 16, 118, 119, 127, 128, 129, 130, 124, 125]
theorem gP_in {c w P : Nat} (hw : w < 7) : c * (P * 7) ≤ (7 * c + w) * P ∧ (7 * c + w + 1) * P ≤ (c + 1) * (P * 7) := by
  have e1 : c * (P * 7) = (7 * c) * P := by
    rw [Nat.mul_comm P 7, ← Nat.mul_assoc, Nat.mul_comm c 7]
  have e2 : (c + 1) * (P * 7) = (7 * c + 7) * P := by
    rw [Nat.mul_comm P 7, ← Nat.mul_assoc, Nat.mul_comm (c + 1) 7]
    rfl
  rw [e1, e2]
  exact ⟨Nat.mul_le_mul_right _ (by omega), Nat.mul_le_mul_right _ (by omega)⟩
theorem x_goOn {g : gT} {po : Option (Nat × Nat)} {st0 l v k : Nat} {be bn : Nat → Nat} {so : Nat → Bool} (hl : l ≤ 5) (hv : v ≤ 20) (hk : k ≤ 20) (hst : gSt g.1.2 st0) (hW : ∀ j, j < k → be j ≤ l) : ∀ (f d c u : Nat) (s : xs_S), l < f + d → d ≤ l → (c + 1) * 7 ^ (l - d) ≤ 7 ^ l → XC g po st0 s → s.1 1925 = nI k → s.1 1926 = nI l → s.1 1927 = nI v → gTl k be bn so (s.2.1 121) (s.2.1 122) (s.2.1 123) → (∀ n, c * 7 ^ (l - d) ≤ n → n < (c + 1) * 7 ^ (l - d) → gPt (gNx g po 0) st0 l n d = some u ∧ (∀ i, 1 ≤ i → i ≤ d → s.2.1 124 i = nI (gSo (gNx g po 0) st0 l n i)) ∧ ∀ j, j < k → be j ≤ d → gBad be bn so (gSo (gNx g po 0) st0 l n) l j = false) → gSm (gFt (gNx g po 0) st0 be bn so k l) (fun i n => gQi (gFt (gNx g po 0) st0 be bn so k l) (gSo (gNx g po 0) st0 l) v i n && decide (i ≤ l)) s (c * 7 ^ (l - d)) → wO (xf_9_goOn f s (nI (gph u)) (nI d) (nI c)) (fun t => xsF xdI xdA s t ∧ XC g po st0 t ∧ (∀ j, ¬ s.2.1 118 j = -1 → ¬ t.2.1 118 j = -1) ∧ (∀ i, i ≤ d → t.2.1 124 i = s.2.1 124 i) ∧ gSm (gFt (gNx g po 0) st0 be bn so k l) (fun i n => gQi (gFt (gNx g po 0) st0 be bn so k l) (gSo (gNx g po 0) st0 l) v i n && decide (i ≤ l)) t ((c + 1) * 7 ^ (l - d))) := by
  intro f
  induction f with
  | zero =>
    intro d c u s h1 h2
    exact absurd h1 (by omega)
  | succ f ih =>
    intro d c u s h1 h2 hcl hx h25 h26 h27 ht hP hS
    have hn6 := hx.1.1.2.1
    have hok : ∀ st w u, gSt g.1.2 st → w < 7 → gNx g po 0 st w = some u → gSt g.1.2 u := fun st w u h1 _ h3 => gNx_ok hn6 h1.1 h3
    have hp5 := g7p l (by omega)
    have hPpos : 0 < 7 ^ (l - d) := Nat.pow_pos (by omega)
    have hin : c * 7 ^ (l - d) < (c + 1) * 7 ^ (l - d) := Nat.mul_lt_mul_of_pos_right (by omega) hPpos
    have hus : gSt g.1.2 u := gPt_ok hok hst d u (hP _ (Nat.le_refl _) hin).1
    have hcsm : c < 16807 := by
      have : c + 1 ≤ (c + 1) * 7 ^ (l - d) := Nat.le_mul_of_pos_right _ hPpos
      omega
    show wO (xg_9_goOn (xf_9_goOn f) s (nI (gph u)) (nI d) (nI c)) _
    unfold xg_9_goOn
    rw [h26]
    by_cases hdl : d < l
    · refine wO_pos (nI_lt hdl (by omega)) (wO_bd (x_opens3 hx hus) ?_)
      rintro s2 ⟨f2, c2, o2, m2, f2'⟩
      have er : 7 ^ (l - d) = 7 ^ (l - (d + 1)) * 7 := by
        rw [show l - d = l - (d + 1) + 1 by omega, Nat.pow_succ]
      rw [er] at hP hS hcl ⊢
      have hP7 : 0 < 7 ^ (l - (d + 1)) := Nat.pow_pos (by omega)
      have hdiv : ∀ n a, a * 7 ^ (l - (d + 1)) ≤ n → n < (a + 1) * 7 ^ (l - (d + 1)) → gDg l n d = a % 7 := fun n a ha hb => by
        unfold gDg
        rw [show l - 1 - d = l - (d + 1) by omega, Nat.div_eq_of_lt_le ha hb]
      have g2 : gSm (gFt (gNx g po 0) st0 be bn so k l) (fun i n => gQi (gFt (gNx g po 0) st0 be bn so k l) (gSo (gNx g po 0) st0 l) v i n && decide (i ≤ l)) s2 (c * (7 ^ (l - (d + 1)) * 7)) := hS.mv (f2'.1 1928 (by decide)) (f2'.1 1929 (by decide)) (f2'.2.1 125 (by decide))
      generalize hPP : 7 ^ (l - (d + 1)) = P at *
      refine wO_bd (Q := fun t => xsF xdI xdA s2 t ∧ XC g po st0 t ∧ (∀ j, ¬ s2.2.1 118 j = -1 → ¬ t.2.1 118 j = -1) ∧ (∀ i, i ≤ d → t.2.1 124 i = s2.2.1 124 i) ∧ gSm (gFt (gNx g po 0) st0 be bn so k l) (fun i n => gQi (gFt (gNx g po 0) st0 be bn so k l) (gSo (gNx g po 0) st0 l) v i n && decide (i ≤ l)) t ((c + 1) * (P * 7))) ?_ ?_
      · refine wO_count (fun (w : Nat) (q : Int32 × xs_S) => q.1 = nI w ∧ xsF xdI xdA s2 q.2 ∧ XC g po st0 q.2 ∧ (∀ j, ¬ s2.2.1 118 j = -1 → ¬ q.2.2.1 118 j = -1) ∧ (∀ i, i ≤ d → q.2.2.1 124 i = s2.2.1 124 i) ∧ gSm (gFt (gNx g po 0) st0 be bn so k l) (fun i n => gQi (gFt (gNx g po 0) st0 be bn so k l) (gSo (gNx g po 0) st0 l) v i n && decide (i ≤ l)) q.2 ((7 * c + w) * P)) 7 ?_ ?_ _ ⟨rfl, xsF.rf, c2, fun _ h => h, fun _ _ => rfl, ?_⟩
        · rintro w ⟨w4, t⟩ hw ⟨e1, f3, c3, m3, r3, g3⟩
          have e1 : w4 = nI w := e1
          have f3 : xsF xdI xdA s2 t := f3
          have c3 : XC g po st0 t := c3
          have m3 : ∀ j, ¬ s2.2.1 118 j = -1 → ¬ t.2.1 118 j = -1 := m3
          have r3 : ∀ i, i ≤ d → t.2.1 124 i = s2.2.1 124 i := r3
          have g3 : gSm (gFt (gNx g po 0) st0 be bn so k l) (fun i n => gQi (gFt (gNx g po 0) st0 be bn so k l) (gSo (gNx g po 0) st0 l) v i n && decide (i ≤ l)) t ((7 * c + w) * P) := g3
          subst e1
          obtain ⟨in1, in2⟩ := gP_in (c := c) (P := P) hw
          have o3 : gOp g po (t.2.1 118) (t.2.1 119) u := by
            rcases c3.1.2.2 u hus with e | e
            · exact absurd e (m3 _ (gOp_n1 hn6 o2))
            · exact e
          have hstep : ∀ n, (7 * c + w) * P ≤ n → n < (7 * c + w + 1) * P → gPt (gNx g po 0) st0 l n (d + 1) = gNx g po 0 u w := fun n a b => by
            rw [gPt_s, (hP n (by omega) (by omega)).1, hdiv n (7 * c + w) a b, show (7 * c + w) % 7 = w by omega]
            rfl
          have hle : (7 * c + w) * P ≤ (7 * c + w + 1) * P := Nat.mul_le_mul_right _ (by omega)
          have skip : (∀ n, (7 * c + w) * P ≤ n → n < (7 * c + w + 1) * P → gFt (gNx g po 0) st0 be bn so k l n = false) → ∀ t2 : xs_S, gSm (gFt (gNx g po 0) st0 be bn so k l) (fun i n => gQi (gFt (gNx g po 0) st0 be bn so k l) (gSo (gNx g po 0) st0 l) v i n && decide (i ≤ l)) t2 ((7 * c + w) * P) → gSm (gFt (gNx g po 0) st0 be bn so k l) (fun i n => gQi (gFt (gNx g po 0) st0 be bn so k l) (gSo (gNx g po 0) st0 l) v i n && decide (i ≤ l)) t2 ((7 * c + (w + 1)) * P) := fun hno t2 hg => by
            refine hg.skip (fun i n hf => ?_) hle hno
            show (gQi _ _ v i n && decide (i ≤ l)) = false
            unfold gQi
            rw [hf]
            rfl
          unfold xg_9_goOn_l14 xg_9_goOn_j54
          refine wO_neg (show ¬ (7 : Int32) ≤ nI w from nI_ge (b := 7) hw (by omega)) (wO_eq (x_after (wo := 0) hn6 hus o3 hw (by omega)) ?_)
          cases hv2 : gNx g po 0 u w with
          | none =>
            refine wO_pos rfl (wO_some ⟨nI_1 w, f3, c3, m3, r3, skip (fun n a b => ?_) t g3⟩)
            exact gFt_no (show d + 1 ≤ l by omega) ((hstep n a b).trans hv2)
          | some v2 =>
            have hvs := hok u w v2 hus hw hv2
            have hvl := hvs.1
            refine wO_neg (show ¬ nI (gph v2) = (-1 : Int32) from pu_n1 (by have := gph_lt hvl; omega)) (wO_eq (x_slope hvl) ?_)
            rw [nI_1 d]
            have t25 : t.1 1925 = nI k := (f3.1 1925 (by decide)).trans ((f2.1 1925 (by decide)).trans h25)
            have t26 : t.1 1926 = nI l := (f3.1 1926 (by decide)).trans ((f2.1 1926 (by decide)).trans h26)
            have t27 : t.1 1927 = nI v := (f3.1 1927 (by decide)).trans ((f2.1 1927 (by decide)).trans h27)
            have tt : gTl k be bn so (t.2.1 121) (t.2.1 122) (t.2.1 123) := by
              rw [f3.2.1 121 (by decide), f3.2.1 122 (by decide), f3.2.1 123 (by decide), f2.2.1 121 (by decide), f2.2.1 122 (by decide), f2.2.1 123 (by decide)]
              exact ht
            have hso : ∀ n, (7 * c + w) * P ≤ n → n < (7 * c + w + 1) * P → gSo (gNx g po 0) st0 l n (d + 1) = v2 / 14 := fun n a b => by
              unfold gSo
              rw [hstep n a b, hv2]
              rfl
            refine wO_eq (x_agrees (d := d + 1) (sl := v2 / 14) hk t25 tt (by omega) (by omega)) ?_
            cases hag : gAny (fun j => decide (be j = d + 1) && (decide (bn j ≤ v2 / 14) != so j)) k with
            | true =>
              obtain ⟨j, hj, hbj⟩ := gAny_iff.mp hag
              rw [Bool.and_eq_true, decide_eq_true_eq] at hbj
              refine wO_pos rfl (wO_some ⟨nI_1 w, f3, c3, m3, r3, skip (fun n a b => ?_) t g3⟩)
              refine gFt_bad hj ?_
              unfold gBad
              rw [hbj.1, hso n a b, hbj.2, Bool.or_true]
            | false =>
              have hag := gAny_no.mp hag
              have e7 : nI c * (7 : Int32) + nI w = nI (7 * c + w) := by
                rw [show nI c * (7 : Int32) = nI (c * 7) from pu_mul c 7, nI_add, Nat.mul_comm]
              refine wO_neg pu_10 (wO_eq (x_slope hvl) (wO_in (k := d + 1) rfl (by omega) (by omega) ?_))
              rw [nI_clamp (by omega), e7]
              generalize ht2 : xs_sA t 124 (upd (t.2.1 124) (d + 1) (nI (v2 / 14))) = t2
              have f4 : xsF [] [124] t t2 := by rw [← ht2]; exact xsF.sA (by decide)
              have r24 : t2.2.1 124 = upd (t.2.1 124) (d + 1) (nI (v2 / 14)) := by rw [← ht2]; rfl
              have c4 : XC g po st0 t2 := c3.fr f4 (by decide) (by decide)
              have rec1 := ih (d + 1) (7 * c + w) v2 t2 (by omega) (by omega) (by rw [hPP]; omega) c4 ((f4.1 1925 (by decide)).trans t25) ((f4.1 1926 (by decide)).trans t26) ((f4.1 1927 (by decide)).trans t27) (by rw [f4.2.1 121 (by decide), f4.2.1 122 (by decide), f4.2.1 123 (by decide)]; exact tt) (by
                rw [hPP]
                intro n a b
                obtain ⟨p1, p2, p3⟩ := hP n (by omega) (by omega)
                refine ⟨(hstep n a b).trans hv2, fun i i1 i2 => ?_, fun j j1 j2 => ?_⟩
                · rw [r24]
                  by_cases he : i = d + 1
                  · subst he
                    rw [upd_eq, hso n a b]
                  · rw [upd_ne he, r3 i (by omega), f2'.2.1 124 (by decide)]
                    exact p2 i i1 (by omega)
                · by_cases he : be j = d + 1
                  · have := hag j j1
                    rw [decide_eq_true he, Bool.true_and] at this
                    unfold gBad
                    rw [he, decide_eq_false (by omega), Bool.false_or, hso n a b]
                    exact this
                  · exact p3 j j1 (by omega)) (by
                rw [hPP]
                exact g3.mv (f4.1 1928 (by decide)) (f4.1 1929 (by decide)) (f4.2.1 125 (by decide)))
              rw [hPP] at rec1
              refine wO_bd rec1 ?_
              rintro t3 ⟨f5, c5, m5, r5, g5⟩
              refine wO_some ⟨nI_1 w, f3.tr ((f4.wk (by decide) (by decide)).tr f5), c5, fun j hj => m5 j (by rw [f4.2.1 118 (by decide)]; exact m3 j hj), fun i hi => ?_, g5⟩
              show t3.2.1 124 i = _
              rw [r5 i (by omega), r24, upd_ne (by omega)]
              exact r3 i hi
        · rintro ⟨w4, t⟩ ⟨e1, f3, c3, m3, r3, g3⟩
          have e1 : w4 = nI 7 := e1
          subst e1
          unfold xg_9_goOn_l14
          refine wO_pos (Int32.le_refl _) (wO_some ⟨f3, c3, m3, r3, ?_⟩)
          have e : (c + 1) * (P * 7) = (7 * c + 7) * P := by
            rw [Nat.mul_comm P 7, ← Nat.mul_assoc, Nat.mul_comm (c + 1) 7]
            rfl
          rw [e]
          exact g3
        · have e : (7 * c + 0) * P = c * (P * 7) := by
            rw [Nat.mul_comm P 7, ← Nat.mul_assoc, Nat.mul_comm c 7]
            rfl
          rw [e]
          exact g2
      · rintro t ⟨f3, c3, m3, r3, g3⟩
        refine wO_some ⟨(f2.wk (by decide) (by decide)).tr f3, c3, fun j hj => m3 j (m2 j hj), fun i hi => (r3 i hi).trans (by rw [f2'.2.1 124 (by decide)]), g3⟩
    · have hd : d = l := by omega
      subst hd
      rw [Nat.sub_self, Nat.pow_zero, Nat.mul_one] at hP hS hcl
      rw [Nat.sub_self, Nat.pow_zero, Nat.mul_one]
      rw [Nat.mul_one] at hP
      obtain ⟨p1, p2, p3⟩ := hP c (Nat.le_refl _) (by omega)
      have hf : gFt (gNx g po 0) st0 be bn so k d c = true := gFt_yes p1 (fun j hj => p3 j hj (hW j hj))
      refine wO_neg (nI_nlt (Nat.le_refl d) (by omega)) (wO_bd (x_takeIn (sl := gSo (gNx g po 0) st0 d) hl hv hcsm h26 h27 hf (fun i i1 i2 => ⟨p2 i i1 i2, gSo_le hok hst⟩) hS) ?_)
      rintro t ⟨f3, g3⟩
      exact wO_some ⟨f3.wk (by decide) (by decide), hx.fr f3 (by decide) (by decide), fun j hj => by rw [f3.2.1 118 (by decide)]; exact hj, fun i _ => by rw [f3.2.1 124 (by decide)], g3⟩
theorem x_fill125 {s : xs_S} {v : Int32} : wO (xf_7_fill_53178_125 s v) (fun t => xsF [] [125] s t ∧ ∀ j, j < 6 → t.2.1 125 j = v) := by
  unfold xf_7_fill_53178_125
  refine wO_bd (Q := fun t => xsF [] [125] s t ∧ ∀ j, j < 6 → t.2.1 125 j = v) ?_ (fun t ht => wO_some ht)
  refine wO_count (fun (i : Nat) (q : Int32 × xs_S) => q.1 = nI i ∧ xsF [] [125] s q.2 ∧ ∀ j, j < i → q.2.2.1 125 j = v) 6 ?_ ?_ _ ⟨rfl, xsF.rf, fun j hj => absurd hj (by omega)⟩
  · rintro i ⟨w, u⟩ hi ⟨e, hF, hu⟩
    have e : w = nI i := e
    subst e
    unfold xf_7_fill_53178_125_l5
    refine wO_neg (show ¬ nI 6 ≤ nI i from nI_ge (b := 6) hi (by omega)) ?_
    refine wO_in (k := i) rfl (by omega) (by omega) ?_
    rw [nI_clamp (by omega)]
    refine wO_some ⟨nI_1 i, hF.tr (xsF.sA (by decide)), fun j hj => ?_⟩
    show upd (u.2.1 125) i v j = v
    by_cases he : j = i
    · subst he; exact upd_eq
    · rw [upd_ne he]; exact hu j (by omega)
  · rintro ⟨w, u⟩ ⟨e, hF, hu⟩
    have e : w = nI 6 := e
    subst e
    unfold xf_7_fill_53178_125_l5
    exact wO_pos (Int32.le_refl _) (wO_some ⟨hF, hu⟩)
def xeI : List Nat := [2018, 2022, 2023, 2024, 1925, 1926, 1927, 1928, 1929]
theorem x_search {g : gT} {po : Option (Nat × Nat)} {st l v k z : Nat} {be bn : Nat → Nat} {so : Nat → Bool} {s : xs_S} (hx : XC g po st s) (hl1 : 1 ≤ l) (hl : l ≤ 5) (hv : v ≤ 20) (hz : z ≤ 20) (hk : k ≤ z) (h24 : s.1 1924 = nI z) (ht : gTl k be bn so (s.2.1 121) (s.2.1 122) (s.2.1 123)) : wO (xf_9_search s (nI (gph st)) (nI k) (nI l) (nI v)) (fun t => xsF xeI xdA s t ∧ XC g po st t ∧ gSm (gFt (gNx g po 0) st be bn so k l) (fun i n => gQi (gFt (gNx g po 0) st be bn so k l) (gSo (gNx g po 0) st l) v i n && decide (i ≤ l)) t (7 ^ l)) := by
  have hst := hx.2.2.2
  unfold xf_9_search
  rw [h24, pu_min (a := k) (b := z) (by omega) (by omega), show min k z = k by omega, show mm_min (nI l) (5 : Int32) = nI (min l 5) from pu_min (b := 5) (by omega) (by omega), show min l 5 = l by omega]
  generalize hs0 : xs_sI (xs_sI (xs_sI (xs_sI (xs_sI s 1925 (nI k)) 1926 (nI l)) 1927 (nI v)) 1928 0) 1929 (-1) = s0
  have f0 : xsF [1925, 1926, 1927, 1928, 1929] [] s s0 := by
    rw [← hs0]
    exact (xsF.sI (by decide)).tr ((xsF.sI (by decide)).tr ((xsF.sI (by decide)).tr ((xsF.sI (by decide)).tr (xsF.sI (by decide)))))
  have i25 : s0.1 1925 = nI k := by rw [← hs0]; rfl
  have i26 : s0.1 1926 = nI l := by rw [← hs0]; rfl
  have i27 : s0.1 1927 = nI v := by rw [← hs0]; rfl
  have i28 : s0.1 1928 = 0 := by rw [← hs0]; rfl
  refine wO_bd x_fill125 ?_
  rintro s1 ⟨f1, r1⟩
  have ft : xsF [1925, 1926, 1927, 1928, 1929] [125] s s1 := (f0.wk (by decide) (by decide)).tr (f1.wk (by decide) (by decide))
  have j25 := (f1.1 1925 (by decide)).trans i25
  have j26 := (f1.1 1926 (by decide)).trans i26
  have j27 := (f1.1 1927 (by decide)).trans i27
  have j28 := (f1.1 1928 (by decide)).trans i28
  have c1 : XC g po st s1 := hx.fr ft (by decide) (by decide)
  have t1 : gTl k be bn so (s1.2.1 121) (s1.2.1 122) (s1.2.1 123) := by
    rw [ft.2.1 121 (by decide), ft.2.1 122 (by decide), ft.2.1 123 (by decide)]
    exact ht
  have g1 : gSm (gFt (gNx g po 0) st be bn so k l) (fun i n => gQi (gFt (gNx g po 0) st be bn so k l) (gSo (gNx g po 0) st l) v i n && decide (i ≤ l)) s1 0 := ⟨j28, Or.inl rfl, fun i i1 i2 => r1 i (by omega)⟩
  refine wO_eq (x_within (by omega) j25 j26 hl t1) ?_
  cases hw : gAny (fun j => decide (l < be j)) k with
  | true =>
    obtain ⟨j, hj, hbj⟩ := gAny_iff.mp hw
    refine wO_pos rfl (wO_some ⟨ft.wk (by decide) (by decide), c1, g1.skip (fun i n hf => ?_) (Nat.zero_le _) (fun n _ _ => ?_)⟩)
    · show (gQi _ _ v i n && decide (i ≤ l)) = false
      unfold gQi
      rw [hf]
      rfl
    · refine gFt_bad hj ?_
      unfold gBad
      rw [hbj]
      rfl
  | false =>
    have hw := gAny_no.mp hw
    have go := x_goOn (g := g) (po := po) (st0 := st) (l := l) (v := v) (k := k) (be := be) (bn := bn) (so := so) hl hv (by omega) hst (fun j hj => Nat.le_of_not_lt (of_decide_eq_false (hw j hj))) 7 0 0 st s1 (by omega) (by omega) (by rw [Nat.zero_add, Nat.one_mul]; exact Nat.le_refl _) c1 j25 j26 j27 t1 (fun n _ _ => ⟨rfl, fun i i1 i2 => absurd i1 (by omega), fun j hj hb => absurd hb (by have := (t1 j hj).2.1; omega)⟩) (by rw [Nat.zero_mul]; exact g1)
    rw [Nat.zero_add, Nat.one_mul, Nat.sub_zero] at go
    refine wO_neg pu_10 (wO_bd go ?_)
    rintro t ⟨f3, c3, -, -, g3⟩
    exact wO_some ⟨(ft.wk (by decide) (by decide)).tr (f3.wk (by decide) (by decide)), c3, g3⟩
