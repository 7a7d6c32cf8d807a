/-! reading: the tests of a law -/
def gCP : List gB3 → Nat → List Int32
  | [], _ => []
  | b :: L, a => gBk b a ++ gCP L (a + gBl b)
def gBcs : List gB3 → Nat
  | [] => 0
  | b :: L => gBc b + gBcs L
theorem gBk_len (b : gB3) (a : Nat) : (gBk b a).length = gBl b := by
  unfold gBk gBl
  simp only [List.length_append, List.length_map, List.length_cons, List.length_nil]
  omega
theorem gCC_eq {F : List gIt} : ∀ (L : List gB3) (a : Nat), gCC L F a = gCP L a ++ (F.map gCst ++ [nI 20005]) := by
  intro L
  induction L with
  | nil => exact fun a => rfl
  | cons b L ih =>
    intro a
    have e : a + gBl b = a + b.1.length + b.2.1.length + b.2.2.length + 3 := by
      unfold gBl
      omega
    show b.1.map gCst ++ (b.2.1.map gCst ++ ([nI 20004, nI (a + b.1.length + b.2.1.length + b.2.2.length + 3)] ++ (b.2.2.map gCst ++ ([nI 20005] ++ gCC L F (a + b.1.length + b.2.1.length + b.2.2.length + 3))))) = (gBk b a ++ gCP L (a + gBl b)) ++ (F.map gCst ++ [nI 20005])
    rw [← e, ih (a + gBl b)]
    unfold gBk
    simp only [List.append_assoc, List.cons_append, List.nil_append]
def gBs2 (a e : Nat) : List gB3 → Nat → ms_S → Prop
  | [], _, _ => True
  | x :: L, b, s => gBr2 a e true x.1 x.2.1 x.2.2 b s ∧ gBs2 a e L (b + 1) s
theorem gBs2.mv {a e e2 : Nat} {s n : ms_S} (he : e ≤ e2) : ∀ {L : List gB3} {b : Nat}, gBs2 a e L b s → (∀ j, j ∈ [34, 35, 36, 37, 38] → ∀ i, b ≤ i → i < b + L.length → n.2.1 j i = s.2.1 j i) → (∀ j, a ≤ j → j < e → n.2.1 40 j = s.2.1 40 j ∧ n.2.1 41 j = s.2.1 41 j) → gBs2 a e2 L b n
  | [], _, _, _, _ => trivial
  | x :: L, b, h, hr, hc => ⟨h.1.mv he (fun j hj => hr j hj b (Nat.le_refl _) (by rw [List.length_cons]; omega)) hc, gBs2.mv he h.2 (fun j hj i h1 h2 => hr j hj i (by omega) (by rw [List.length_cons]; omega)) hc⟩
/-- what a failing law may have written -/
def gFsd (sd : Nat) (m n : ms_S) : Prop := msF gKl m n ∧ (∀ j, j ∈ [34, 35, 36, 37, 38] → ∀ i, ¬ (130 * sd ≤ i ∧ i < 130 * sd + 130) → n.2.1 j i = m.2.1 j i) ∧ gCq sd m n
theorem gFsd.tr {sd : Nat} {a b c : ms_S} (h : gFsd sd a b) (k : gFsd sd b c) : gFsd sd a c := ⟨h.1.tr k.1, fun j hj i hi => (k.2.1 j hj i hi).trans (h.2.1 j hj i hi), h.2.2.tr k.2.2⟩
theorem gFsq.sd {sd B : Nat} {a b : ms_S} (h : gFsq sd B a b) (h1 : 130 * sd ≤ B) (h2 : B < 130 * sd + 130) : gFsd sd a b := ⟨h.1, fun j hj i hi => h.2.1 j hj i (fun e => hi (by omega)), h.2.2⟩
/-- what stands below is as it was -/
def gHc (c B : Nat) (m n : ms_S) : Prop := (∀ j, j ∈ [34, 35, 36, 37, 38] → ∀ i, i < B → n.2.1 j i = m.2.1 j i) ∧ ∀ j, j < c → n.2.1 40 j = m.2.1 40 j ∧ n.2.1 41 j = m.2.1 41 j
theorem gHc.tr {c B c2 B2 : Nat} {a b d : ms_S} (h : gHc c B a b) (k : gHc c2 B2 b d) (hc : c ≤ c2) (hB : B ≤ B2) : gHc c B a d := ⟨fun j hj i hi => (k.1 j hj i (by omega)).trans (h.1 j hj i hi), fun j hj => ⟨(k.2 j (by omega)).1.trans (h.2 j hj).1, (k.2 j (by omega)).2.trans (h.2 j hj).2⟩⟩
theorem gHc.rf {c B : Nat} {m : ms_S} : gHc c B m m := ⟨fun _ _ _ _ => rfl, fun _ _ => ⟨rfl, rfl⟩⟩
def gLw0 (L : List gB3) : Prop := ∀ b, b ∈ L → gWfr 20 b.1 0 1 ∧ gWfr 20 b.2.1 0 1 ∧ gWfr 20 b.2.2 0 1
theorem gLw0.wf {F : List gIt} (hF : gWfr 20 F 0 1) : ∀ {L : List gB3}, gLw0 L → gLwf 20 L F
  | [], _ => hF
  | b :: L, h => ⟨(h b (List.mem_cons_self ..)).1, (h b (List.mem_cons_self ..)).2.1, (h b (List.mem_cons_self ..)).2.2, gLw0.wf hF (fun x hx => h x (List.mem_cons_of_mem _ hx))⟩
theorem gK9 {k : Nat} (hk : k < 34) (e : nI k = 9) : k = 9 := by
  have : ∀ k, k < 34 → nI k = 9 → k = 9 := by decide
  exact this k hk e
theorem x_l31_bad {P : Nat → Nat} {N f p : Nat} {v1 v2 w : Int32} {s : xs_S} (h : gFx P N f p s) : mo_loop (xf_6_tellLaw_l31 v1 v2) (w, s) = some s := by
  refine mo_loop_inr ?_
  unfold xf_6_tellLaw_l31
  dsimp only
  by_cases c : (4 : Int32) < w
  · rw [if_pos c]
  · rw [if_neg c, x_kind_bad h]
    rfl
theorem m_l8_bad {f p : Nat} {v1 v2 w : Int32} {m : ms_S} (h : gFm2 f p m) : mo_loop (mf_tellLaw_l8 v1 v2) (w, m) = some (.inr m) := by
  refine mo_loop_inr ?_
  unfold mf_tellLaw_l8
  dsimp only
  rw [if_neg (by rw [h.2.2.1]; exact nI_ne0 h.1 (by have := h.2.1; omega))]
/-- both after the tests -/
def gIfs (K P V : Nat → Nat) (W : Nat → Int64) (N sd u t z c B : Nat) (s : xs_S) (m : ms_S) (s2 : xs_S) (m2 : ms_S) : Prop := ∃ (L : List gB3) (t2 : Nat), t ≤ t2 ∧ gLpp K P V W N sd t2 (z + (gCP L z).length) (c + gBcs L) (B + L.length) s2 m2 ∧ z + (gCP L z).length ≤ t2 ∧ 4 * (B + L.length) + u ≤ 520 * sd + t2 ∧ gArw z (gCP L z) s s2 ∧ gBs2 (420 * sd) (c + gBcs L) L B m2 ∧ gHc c B m m2 ∧ gLw0 L
theorem e_ifs {K P V : Nat → Nat} {W : Nat → Int64} {N sd u : Nat} {v1 v2 x1 x2 : Int32} : ∀ (n w : Nat), n + w = 4 → ∀ (s : xs_S) (m : ms_S) (t z c B : Nat), gLpp K P V W N sd t z c B s m → z ≤ t → 4 * B + u ≤ 520 * sd + t → 130 * sd ≤ B → ∃ s2 r m2, mo_loop (xf_6_tellLaw_l31 v1 v2) (nI w, s) = some s2 ∧ mo_loop (mf_tellLaw_l8 x1 x2) (nI w, m) = some r ∧ xsF xKei [21] s s2 ∧ gFsd sd m m2 ∧ ((r = .inr m2 ∧ gIfs K P V W N sd u t z c B s m s2 m2) ∨ ∃ f p, gXb P N f p s2 ∧ ((r = .inl m2 ∧ gFm2 f p m2) ∨ (∃ B2, r = .inr m2 ∧ B2 ≤ 130 * sd + 105 ∧ 130 * sd ≤ B2 ∧ gMb f p B2 m2))) := by
  intro n
  induction n with
  | zero =>
    intro w hw s m t z c B h hz hB hB0
    have hw : w = 4 := by omega
    subst hw
    have hk := x_kind h.1 h.2.1
    have hi := m_is (k := 9) h.1 h.2.1 (by omega)
    have h13 := h.2.1.2.2.2.2
    by_cases c9 : K t = 9
    · obtain ⟨s1, e1, f1, g1⟩ := x_fail (P := P) (K := K) (V := V) (W := W) (f := 2) h.2.1 (by omega) (by omega)
      obtain ⟨m1, d1, d2, d3, -⟩ := m_fail (f := 2) h.1 h.2.1 (by omega) (by omega)
      have gx : gXb P N 2 (P t) s1 := gXb_of h.1 (h.em hz) f1 g1
      obtain ⟨s2, a1, a2, a3⟩ := xq1_bad (v1 := v1) (v2 := v2) (w := nI 4) gx
      refine ⟨s2, .inl m1, m1, ?_, ?_, (f1.wk (by decide) (by decide)).tr (a2.wk (by decide) (by decide)), ⟨d2.wk (by decide), fun j hj i _ => ?_, gCq.of d2 (by decide) (by decide)⟩, Or.inr ⟨2, P t, a3, Or.inl ⟨rfl, d3⟩⟩⟩
      · refine (mo_loop_inl (s2 := (nI 4 + 1, s2)) ?_).trans (x_l31_bad a3.1)
        unfold xf_6_tellLaw_l31
        dsimp only
        rw [if_neg (show ¬ (4 : Int32) < nI 4 by decide), hk]
        show (if nI (K t) = 9 then _ else _) = _
        rw [if_pos (by rw [c9]; rfl), if_pos (show nI 4 = (4 : Int32) from rfl)]
        show (xf_6_fail s (nI 2)).bind _ = _
        rw [e1]
        exact a1
      · refine mo_loop_inr ?_
        unfold mf_tellLaw_l8
        dsimp only
        rw [if_pos h13, show (29 : Int32) = nI (gMk2 9) from rfl, hi, if_pos c9]
        show (if (1 : Int32) = 0 then some (Sum.inr (Sum.inr m)) else if nI 4 = 4 then (mf_fail m 2).bind fun s_6 => mf_tellLaw_j21 s_6 x1 x2 (nI 4) else mf_tellLaw_j21 m x1 x2 (nI 4)) = _
        rw [if_neg (show ¬ (1 : Int32) = 0 by decide), if_pos (show nI 4 = (4 : Int32) from rfl)]
        show (mf_fail m (nI 2)).bind _ = _
        rw [d1]
        show mf_tellLaw_j21 m1 x1 x2 (nI 4) = _
        unfold mf_tellLaw_j21
        rw [if_neg]
        rw [d3.2.2.1]
        decide
      · have q : ∀ j, j ∈ [34, 35, 36, 37, 38] → ¬ j ∈ [11, 13, 14] := by decide
        rw [d2.a j (q j hj)]
    · refine ⟨s, .inr m, m, ?_, ?_, xsF.rf, ⟨msF.rf, fun _ _ _ _ => rfl, fun _ _ => ⟨rfl, rfl⟩⟩, Or.inl ⟨rfl, [], t, Nat.le_refl _, h, hz, hB, ⟨h.2.2.1, fun i w hw => by simp [gCP] at hw, fun j _ => rfl⟩, trivial, gHc.rf, fun b hb => by cases hb⟩⟩
      · refine mo_loop_inr ?_
        unfold xf_6_tellLaw_l31
        dsimp only
        rw [if_neg (show ¬ (4 : Int32) < nI 4 by decide), hk]
        show (if nI (K t) = 9 then _ else _) = _
        rw [if_neg (fun e => c9 (gK9 (h.1.2.2.2.2 t h.2.1.1).1 e))]
      · refine mo_loop_inr ?_
        unfold mf_tellLaw_l8
        dsimp only
        rw [if_pos h13, show (29 : Int32) = nI (gMk2 9) from rfl, hi, if_neg c9]
        rfl
  | succ n ih =>
    intro w hw s m t z c B h hz hB hB0
    have hk := x_kind h.1 h.2.1
    have hi := m_is (k := 9) h.1 h.2.1 (by omega)
    have h13 := h.2.1.2.2.2.2
    have ht4 := h.t4
    have w4 : ¬ (4 : Int32) < nI w := by
      rw [show (4 : Int32) = nI 4 from rfl]
      exact nI_nlt (by omega) (by omega)
    have w5 : ¬ nI w = (4 : Int32) := fun e => by
      have q : ∀ w, w < 4 → ¬ nI w = (4 : Int32) := by decide
      exact q w (by omega) e
    by_cases c9 : K t = 9
    · obtain ⟨s1, m1, e1, e2, f1, g1, o⟩ := e_if (v1 := v1) (v2 := v2) (w := nI w) (x1 := x1) (x2 := x2) (y := nI w) h hz (by omega) c9
      have X1 : mo_loop (xf_6_tellLaw_l31 v1 v2) (nI w, s) = mo_loop (xf_6_tellLaw_l31 v1 v2) (nI (w + 1), s1) := by
        refine mo_loop_inl ?_
        unfold xf_6_tellLaw_l31
        dsimp only
        rw [if_neg w4, hk]
        show (if nI (K t) = 9 then _ else _) = _
        rw [if_pos (by rw [c9]; rfl), if_neg w5, e1, nI_1]
      have M1 : mo_loop (mf_tellLaw_l8 x1 x2) (nI w, m) = mo_loop (mf_tellLaw_l8 x1 x2) (nI (w + 1), m1) := by
        refine mo_loop_inl ?_
        unfold mf_tellLaw_l8
        dsimp only
        rw [if_pos h13, show (29 : Int32) = nI (gMk2 9) from rfl, hi, if_pos c9]
        show (if (1 : Int32) = 0 then some (Sum.inr (Sum.inr m)) else if nI w = 4 then (mf_fail m 2).bind fun s_6 => mf_tellLaw_j21 s_6 x1 x2 (nI w) else mf_tellLaw_j21 m x1 x2 (nI w)) = _
        rw [if_neg (show ¬ (1 : Int32) = 0 by decide), if_neg w5, e2, nI_1]
      have gsd := g1.sd hB0 (by omega)
      rcases o with ⟨b, t1, h1, o1, o2, u1, u2, u3, A, Br, hc⟩ | ⟨f, p, gx, gm⟩
      · obtain ⟨s2, r, m2, a1, a2, a3, a4, a5⟩ := ih (w + 1) (by omega) s1 m1 t1 (z + gBl b) (c + gBc b) (B + 1) h1 (by omega) (by omega) (by omega)
        refine ⟨s2, r, m2, X1.trans a1, M1.trans a2, f1.tr a3, gsd.tr a4, ?_⟩
        rcases a5 with ⟨hr, L, t2, l1, l2, l3, l4, l5, l6, l7, l8⟩ | ⟨f, p, gx, hb⟩
        · have eZ : z + (gCP (b :: L) z).length = z + gBl b + (gCP L (z + gBl b)).length := by
            show z + (gBk b z ++ gCP L (z + gBl b)).length = _
            rw [List.length_append, gBk_len, Nat.add_assoc]
          have eC : c + gBcs (b :: L) = c + gBc b + gBcs L := by
            show c + (gBc b + gBcs L) = _
            omega
          have eB : B + (b :: L).length = B + 1 + L.length := by rw [List.length_cons]; omega
          refine Or.inl ⟨hr, b :: L, t2, by omega, by rw [eZ, eC, eB]; exact l2, by rw [eZ]; exact l3, by rw [eB]; exact l4, ?_, ⟨?_, by rw [eC]; exact l6⟩, ?_, ?_⟩
          · exact A.tr (l5.len (by rw [gBk_len]))
          · rw [eC]
            exact Br.mv (by omega) (fun j hj => l7.1 j hj B (by omega)) (fun j _ hj => l7.2 j hj)
          · exact gHc.tr (c2 := c + gBc b) (B2 := B + 1) ⟨fun j hj i hi => g1.2.1 j hj i (by omega), hc⟩ l7 (by omega) (by omega)
          · intro x hx
            rcases List.mem_cons.mp hx with rfl | hx
            · exact ⟨u1, u2, u3⟩
            · exact l8 x hx
        · exact Or.inr ⟨f, p, gx, hb⟩
      · exact ⟨s1, .inr m1, m1, X1.trans (x_l31_bad gx.1), M1.trans (m_l8_bad gm.1), f1, gsd, Or.inr ⟨f, p, gx, Or.inr ⟨B + 1, rfl, by omega, by omega, gm⟩⟩⟩
    · refine ⟨s, .inr m, m, ?_, ?_, xsF.rf, ⟨msF.rf, fun _ _ _ _ => rfl, fun _ _ => ⟨rfl, rfl⟩⟩, Or.inl ⟨rfl, [], t, Nat.le_refl _, h, hz, hB, ⟨h.2.2.1, fun i w hw => by simp [gCP] at hw, fun j _ => rfl⟩, trivial, gHc.rf, fun b hb => by cases hb⟩⟩
      · refine mo_loop_inr ?_
        unfold xf_6_tellLaw_l31
        dsimp only
        rw [if_neg w4, hk]
        show (if nI (K t) = 9 then _ else _) = _
        rw [if_neg (fun e => c9 (gK9 (h.1.2.2.2.2 t h.2.1.1).1 e))]
      · refine mo_loop_inr ?_
        unfold mf_tellLaw_l8
        dsimp only
        rw [if_pos h13, show (29 : Int32) = nI (gMk2 9) from rfl, hi, if_neg c9]
        rfl
