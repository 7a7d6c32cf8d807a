/-! reading: one statement, then all of them -/
theorem gSay.nm {sd ns nw : Nat} {s : xs_S} {m : ms_S} (h : gSay sd ns nw s m) : gNm ns nw s m := h.1
theorem e_one {K P V : Nat → Nat} {W : Nat → Int64} {N sd t z c B ns nw w : Nat} {LW : Nat → Option gLd} {s : xs_S} {m : ms_S} (h : gRd K P V W N sd t z c B ns nw LW s m) (hw : w ≤ 400) (h32 : ¬ K t = 32) : ∃ s2 m2, xf_6_readInto_17_u_l23 (nI w, s) = some (.inl (nI (w + 1), s2)) ∧ mf_tellOne m = some m2 ∧ xsH xKr xKa [7, 8] s s2 ∧ msH mKr mKr [21] m m2 ∧ gSq sd m m2 ∧ ((∃ t2 z2 c2 B2 ns2 nw2, ∃ LW2 : Nat → Option gLd, t < t2 ∧ gRd K P V W N sd t2 z2 c2 B2 ns2 nw2 LW2 s2 m2) ∨ ∃ f p, gXb P N f p s2 ∧ gFm2 f p m2) := by
  obtain ⟨lp, a1, a2, a3, h19, a5, a6, hN, hS⟩ := id h
  obtain ⟨hT, hH, l3, l4, l5, l6, l7, l8, hsd⟩ := id lp
  obtain ⟨hM, h23, h25, tg, fo, pr, ⟨tv, ti1, ti2, ti3⟩, sv, se1, se2, se3⟩ := id hS
  have hN4 := hT.1
  have ht := hH.1
  have hE : gEm1 s := ⟨z, by omega, l3⟩
  have hKt := (hT.2.2.2.2 t ht).1
  have XM : ∀ (s2 : xs_S) (m2 : ms_S), xOne (nI (K t)) (nI w) s = some (.inl (nI (w + 1), s2)) → mOne (nI (gMk2 (K t))) m = some m2 → xf_6_readInto_17_u_l23 (nI w, s) = some (.inl (nI (w + 1), s2)) ∧ mf_tellOne m = some m2 := fun s2 m2 q1 q2 => ⟨wO_iff.mp (x_pre hT hH hw h32 (wO_iff.mpr q1)), wO_iff.mp (m_pre hT hH (wO_iff.mpr q2))⟩
  by_cases c9 : 9 ≤ K t
  · obtain ⟨s2, m2, q1, q2, q3, q4, q5⟩ := e_none (w := w) hT hH hE c9
    exact ⟨s2, m2, (XM _ _ q1 q2).1, (XM _ _ q1 q2).2, q3.h (by decide) (by decide), q4.h (by decide) (by decide), q4.sq (by decide), Or.inr q5⟩
  by_cases k0 : K t = 0
  · obtain ⟨s2, m2, q1, q2, F, G, Q, o⟩ := e_tspk hT hH hN hM hE h19 hsd k0 h23
    have X := XM s2 m2 (by
      rw [k0]
      refine wO_iff.mp ?_
      unfold xOne
      exact wO_pos rfl (wO_eq q1 (wO_iff.mpr x_j65))) (by
      rw [k0]
      refine wO_iff.mp ?_
      unfold mOne
      exact wO_pos rfl (wO_iff.mpr q2))
    refine ⟨s2, m2, X.1, X.2, F.wk (by decide) (by decide) (by decide), G.wk (by decide) (by decide) (by decide), Q, ?_⟩
    rcases o with ⟨t2, v, b1, b2, b3, b4, b5, b6, b7, b8, b9⟩ | o
    · refine Or.inl ⟨t2, z, c, B, ns + 1, nw, LW, b1, h.go F G (by decide) (by decide) (by decide) (by decide) (by decide) (by decide) b1 b2 b3 ⟨b4, b6, ?_, fun i hi => ?_, fun i hi => ?_, ?_, ⟨tv, ?_, ?_, fun e => ti3 (b9 e).1⟩, sv, ?_, ?_, fun e => se3 (b9 e).1⟩⟩
      · rw [G.2.1 25 (by decide)]; exact h25
      · rw [b7, b8]
        by_cases e : i = ns
        · subst e
          exact ⟨v, upd_eq, upd_eq, fun e => (b9 e).2⟩
        · obtain ⟨u, u1, u2, u3⟩ := tg i (by omega)
          exact ⟨u, by rw [upd_ne e]; exact u1, by rw [upd_ne (by omega)]; exact u2, fun e => u3 (b9 e).1⟩
      · obtain ⟨u, u1, u2, u3⟩ := fo i hi
        exact ⟨u, by rw [F.2.1 19 (by decide)]; exact u1, by rw [G.2.1 26 (by decide)]; exact u2, fun e => u3 (b9 e).1⟩
      · exact pr.mv (by omega) (F.1 277 (by decide)) (F.1 278 (by decide)) (G.2.1 27 (by decide)) (G.2.1 28 (by decide)) (fun e => (b9 e).1)
      · exact (F.1 279 (by decide)).trans ti1
      · rw [G.2.1 29 (by decide)]; exact ti2
      · exact (F.1 280 (by decide)).trans se1
      · rw [G.2.1 30 (by decide)]; exact se2
    · exact Or.inr o
  by_cases k1 : K t = 1
  · obtain ⟨s2, m2, q1, q2, F, G, Q, o⟩ := e_twrd hT hH hN hM hE h19 hsd k1 h25
    have X := XM s2 m2 (by
      rw [k1]
      refine wO_iff.mp ?_
      unfold xOne
      exact wO_neg (by decide) (wO_pos rfl (wO_eq q1 (wO_iff.mpr x_j65)))) (by
      rw [k1]
      refine wO_iff.mp ?_
      unfold mOne
      exact wO_neg (by decide) (wO_pos rfl (wO_iff.mpr q2)))
    refine ⟨s2, m2, X.1, X.2, F.wk (by decide) (by decide) (by decide), G.wk (by decide) (by decide) (by decide), Q, ?_⟩
    rcases o with ⟨t2, v, b1, b2, b3, b4, b5, b6, b7, b8, b9⟩ | o
    · refine Or.inl ⟨t2, z, c, B, ns, nw + 1, LW, b1, h.go F G (by decide) (by decide) (by decide) (by decide) (by decide) (by decide) b1 b2 b3 ⟨b4, ?_, b6, fun i hi => ?_, fun i hi => ?_, ?_, ⟨tv, ?_, ?_, fun e => ti3 (b9 e).1⟩, sv, ?_, ?_, fun e => se3 (b9 e).1⟩⟩
      · rw [G.2.1 23 (by decide)]; exact h23
      · obtain ⟨u, u1, u2, u3⟩ := tg i hi
        exact ⟨u, by rw [F.2.1 18 (by decide)]; exact u1, by rw [G.2.1 24 (by decide)]; exact u2, fun e => u3 (b9 e).1⟩
      · rw [b7, b8]
        by_cases e : i = nw
        · subst e
          exact ⟨v, upd_eq, upd_eq, fun e => (b9 e).2⟩
        · obtain ⟨u, u1, u2, u3⟩ := fo i (by omega)
          exact ⟨u, by rw [upd_ne e]; exact u1, by rw [upd_ne (by omega)]; exact u2, fun e => u3 (b9 e).1⟩
      · exact pr.mv (by omega) (F.1 277 (by decide)) (F.1 278 (by decide)) (G.2.1 27 (by decide)) (G.2.1 28 (by decide)) (fun e => (b9 e).1)
      · exact (F.1 279 (by decide)).trans ti1
      · rw [G.2.1 29 (by decide)]; exact ti2
      · exact (F.1 280 (by decide)).trans se1
      · rw [G.2.1 30 (by decide)]; exact se2
    · exact Or.inr o
  by_cases k2 : K t = 2
  · obtain ⟨s2, m2, q1, q2, F0, G0, Q, o⟩ := e_tpar hT hH hN hM hE h19 hsd k2
    have F : xsH xKp [] [] s s2 := F0.h (fun _ h => h) (fun _ h => h)
    have G : msH mKp mKp [] m m2 := G0.h (fun _ h => h) (fun _ h => h)
    have X := XM s2 m2 (by
      rw [k2]
      refine wO_iff.mp ?_
      unfold xOne
      exact wO_neg (by decide) (wO_neg (by decide) (wO_pos rfl (wO_eq q1 (wO_iff.mpr x_j65))))) (by
      rw [k2]
      refine wO_iff.mp ?_
      unfold mOne
      exact wO_neg (by decide) (wO_neg (by decide) (wO_pos rfl (wO_iff.mpr q2))))
    refine ⟨s2, m2, X.1, X.2, F.wk (by decide) (by decide) (by decide), G.wk (by decide) (by decide) (by decide), Q, ?_⟩
    rcases o with ⟨t2, o1, o2, b1, b2, b3, b4, b5, b6, b7, b9⟩ | o
    · refine Or.inl ⟨t2, z, c, B, ns, nw, LW, b1, h.go F G (by decide) (by decide) (by decide) (by decide) (by decide) (by decide) b1 b2 b3 ⟨?_, ?_, ?_, fun i hi => ?_, fun i hi => ?_, Or.inr ⟨o1, o2, b4, b5, b6, b7, fun e => (b9 e).2⟩, ⟨tv, ?_, ?_, fun e => ti3 (b9 e).1⟩, sv, ?_, ?_, fun e => se3 (b9 e).1⟩⟩
      · exact hM.mv (F.1 275 (by decide)) (F.1 276 (by decide)) F0.2.2.1 (G.1 20 (by decide)) (G.2.1 22 (by decide)) G0.2
      · rw [G.2.1 23 (by decide)]; exact h23
      · rw [G.2.1 25 (by decide)]; exact h25
      · obtain ⟨u, u1, u2, u3⟩ := tg i hi
        exact ⟨u, by rw [F.2.1 18 (by decide)]; exact u1, by rw [G.2.1 24 (by decide)]; exact u2, fun e => u3 (b9 e).1⟩
      · obtain ⟨u, u1, u2, u3⟩ := fo i hi
        exact ⟨u, by rw [F.2.1 19 (by decide)]; exact u1, by rw [G.2.1 26 (by decide)]; exact u2, fun e => u3 (b9 e).1⟩
      · exact (F.1 279 (by decide)).trans ti1
      · rw [G.2.1 29 (by decide)]; exact ti2
      · exact (F.1 280 (by decide)).trans se1
      · rw [G.2.1 30 (by decide)]; exact se2
    · exact Or.inr o
  by_cases k7 : K t = 7
  · obtain ⟨s2, m2, r, x, q1, q2, F0, G0, r1, r2, o⟩ := e_num (j := 29) (lo := 1) (hi := 19) hT hH hN hE h19 hsd (by omega) k7 (Or.inl rfl) (by omega) (by omega)
    have r2 : m2.2.1 30 = m.2.1 30 := r2
    have z15 : q15 m m2 := q15_num _ q2
    have F : xsH [100, 101, 103, 104, 279] [] [] s (xs_sI s2 279 r) := (F0.h (by decide) (by decide)).tr ((xsF.sI (Ki := [279]) (Ka := []) (by decide)).h (by decide) (by decide))
    have G : msH [11, 13, 14, 15, 16, 29, 30] [11, 13, 14, 15, 16, 29, 30] [] m m2 := G0.h (fun _ h => h) (fun _ h => h)
    have Q : gSq sd m m2 := by
      refine (show gSq sd m (ms_sA m 29 (upd (m.2.1 29) sd x)) from gSq.s1 (j := 29) (by decide) (fun k hk => mm_up_ne hk) (fun i hi => by
        show upd (m.2.1 29) sd x i = _
        exact upd_ne hi)).tr (gSq.fr (fun j hj => ?_))
      by_cases e : j = 29
      · subst e
        exact r1
      · rw [show (ms_sA m 29 (upd (m.2.1 29) sd x)).2.1 j = m.2.1 j from mm_up_ne e]
        by_cases e2 : j = 30
        · subst e2
          exact r2
        refine G.2.1 j (fun q => ?_)
        simp only [List.mem_cons, List.not_mem_nil, or_false] at q hj
        omega
    have X := XM (xs_sI s2 279 r) m2 (by
      rw [k7]
      refine wO_iff.mp ?_
      unfold xOne
      exact wO_neg (by decide) (wO_neg (by decide) (wO_neg (by decide) (wO_neg (by decide) (wO_neg (by decide) (wO_neg (by decide) (wO_neg (by decide) (wO_pos rfl (wO_eq q1 (wO_iff.mpr x_j65)))))))))) (by
      rw [k7]
      refine wO_iff.mp ?_
      unfold mOne
      exact wO_neg (by decide) (wO_neg (by decide) (wO_neg (by decide) (wO_neg (by decide) (wO_neg (by decide) (wO_neg (by decide) (wO_neg (by decide) (wO_pos rfl (wO_iff.mpr q2)))))))))
    refine ⟨xs_sI s2 279 r, m2, X.1, X.2, F.wk (by decide) (by decide) (by decide), G.wk (by decide) (by decide) (by decide), Q, ?_⟩
    rcases o with ⟨v, t2, b1, b2, b3, b4, b5, b6⟩ | ⟨f, p, b1, b2⟩
    · refine Or.inl ⟨t2, z, c, B, ns, nw, LW, b3, h.go F G (by decide) (by decide) (by decide) (by decide) (by decide) (by decide) b3 b4 (b5.mv (Nat.le_refl _) rfl rfl rfl rfl) ⟨?_, ?_, ?_, fun i hi => ?_, fun i hi => ?_, ?_, ⟨v, b1, ?_, b6⟩, sv, ?_, ?_, fun e => se3 (z15 e)⟩⟩
      · exact hM.mv (F.1 275 (by decide)) (F.1 276 (by decide)) F0.2.2.1 (G.1 20 (by decide)) (G.2.1 22 (by decide)) G0.2
      · rw [G.2.1 23 (by decide)]; exact h23
      · rw [G.2.1 25 (by decide)]; exact h25
      · obtain ⟨u, u1, u2, u3⟩ := tg i hi
        exact ⟨u, by rw [F.2.1 18 (by decide)]; exact u1, by rw [G.2.1 24 (by decide)]; exact u2, fun e => u3 (z15 e)⟩
      · obtain ⟨u, u1, u2, u3⟩ := fo i hi
        exact ⟨u, by rw [F.2.1 19 (by decide)]; exact u1, by rw [G.2.1 26 (by decide)]; exact u2, fun e => u3 (z15 e)⟩
      · exact pr.mv (Nat.le_refl _) (F.1 277 (by decide)) (F.1 278 (by decide)) (G.2.1 27 (by decide)) (G.2.1 28 (by decide)) z15
      · rw [r1, upd_eq]; exact b2
      · exact (F.1 280 (by decide)).trans se1
      · rw [r2]; exact se2
    · exact Or.inr ⟨f, p, b1.mh rfl rfl rfl rfl, b2⟩
  by_cases k8 : K t = 8
  · obtain ⟨s2, m2, r, x, q1, q2, F0, G0, r1, r2, o⟩ := e_num (j := 30) (lo := 0) (hi := 9999) hT hH hN hE h19 hsd (by omega) k8 (Or.inr rfl) (by omega) (by omega)
    have r2 : m2.2.1 29 = m.2.1 29 := r2
    have z15 : q15 m m2 := q15_num _ q2
    have F : xsH [100, 101, 103, 104, 280] [] [] s (xs_sI s2 280 r) := (F0.h (by decide) (by decide)).tr ((xsF.sI (Ki := [280]) (Ka := []) (by decide)).h (by decide) (by decide))
    have G : msH [11, 13, 14, 15, 16, 29, 30] [11, 13, 14, 15, 16, 29, 30] [] m m2 := G0.h (fun _ h => h) (fun _ h => h)
    have Q : gSq sd m m2 := by
      refine (show gSq sd m (ms_sA m 30 (upd (m.2.1 30) sd x)) from gSq.s1 (j := 30) (by decide) (fun k hk => mm_up_ne hk) (fun i hi => by
        show upd (m.2.1 30) sd x i = _
        exact upd_ne hi)).tr (gSq.fr (fun j hj => ?_))
      by_cases e : j = 30
      · subst e
        exact r1
      · rw [show (ms_sA m 30 (upd (m.2.1 30) sd x)).2.1 j = m.2.1 j from mm_up_ne e]
        by_cases e2 : j = 29
        · subst e2
          exact r2
        refine G.2.1 j (fun q => ?_)
        simp only [List.mem_cons, List.not_mem_nil, or_false] at q hj
        omega
    have X := XM (xs_sI s2 280 r) m2 (by
      rw [k8]
      refine wO_iff.mp ?_
      unfold xOne
      exact wO_neg (by decide) (wO_neg (by decide) (wO_neg (by decide) (wO_neg (by decide) (wO_neg (by decide) (wO_neg (by decide) (wO_neg (by decide) (wO_neg (by decide) (wO_pos rfl (wO_eq q1 (wO_iff.mpr x_j65))))))))))) (by
      rw [k8]
      refine wO_iff.mp ?_
      unfold mOne
      exact wO_neg (by decide) (wO_neg (by decide) (wO_neg (by decide) (wO_neg (by decide) (wO_neg (by decide) (wO_neg (by decide) (wO_neg (by decide) (wO_neg (by decide) (wO_pos rfl (wO_iff.mpr q2))))))))))
    refine ⟨xs_sI s2 280 r, m2, X.1, X.2, F.wk (by decide) (by decide) (by decide), G.wk (by decide) (by decide) (by decide), Q, ?_⟩
    rcases o with ⟨v, t2, b1, b2, b3, b4, b5, b6⟩ | ⟨f, p, b1, b2⟩
    · refine Or.inl ⟨t2, z, c, B, ns, nw, LW, b3, h.go F G (by decide) (by decide) (by decide) (by decide) (by decide) (by decide) b3 b4 (b5.mv (Nat.le_refl _) rfl rfl rfl rfl) ⟨?_, ?_, ?_, fun i hi => ?_, fun i hi => ?_, ?_, ⟨tv, ?_, ?_, fun e => ti3 (z15 e)⟩, v, b1, ?_, fun e => (b6 e).2⟩⟩
      · exact hM.mv (F.1 275 (by decide)) (F.1 276 (by decide)) F0.2.2.1 (G.1 20 (by decide)) (G.2.1 22 (by decide)) G0.2
      · rw [G.2.1 23 (by decide)]; exact h23
      · rw [G.2.1 25 (by decide)]; exact h25
      · obtain ⟨u, u1, u2, u3⟩ := tg i hi
        exact ⟨u, by rw [F.2.1 18 (by decide)]; exact u1, by rw [G.2.1 24 (by decide)]; exact u2, fun e => u3 (z15 e)⟩
      · obtain ⟨u, u1, u2, u3⟩ := fo i hi
        exact ⟨u, by rw [F.2.1 19 (by decide)]; exact u1, by rw [G.2.1 26 (by decide)]; exact u2, fun e => u3 (z15 e)⟩
      · exact pr.mv (Nat.le_refl _) (F.1 277 (by decide)) (F.1 278 (by decide)) (G.2.1 27 (by decide)) (G.2.1 28 (by decide)) z15
      · exact (F.1 279 (by decide)).trans ti1
      · rw [r2]; exact ti2
      · rw [r1, upd_eq]; exact b2
    · exact Or.inr ⟨f, p, b1.mh rfl rfl rfl rfl, b2⟩
  -- a law
  obtain ⟨k, kl, kk⟩ : ∃ k, k < 4 ∧ K t = 3 + k := ⟨K t - 3, by omega, by omega⟩
  obtain ⟨s2, m2, q1, q2, F0, G0, o⟩ := e_law lp a1 a2 a3 h19 kl kk a5 a6
  have F : xsH xKei [21, 22] [] s s2 := F0.h (fun _ h => h) (fun _ h => h)
  have G : msH (31 :: 32 :: gKl) (31 :: 32 :: gKl) [] m m2 := G0.1.h (fun _ h => h) (fun _ h => h)
  have z15 : q15 m m2 := fun e => (G.1 15 (by decide)).symm.trans e
  have r5 := (hT.2.2.2.2 t ht).2.2.1
  have h11 := hH.2.2.2.1
  have j63 : xf_6_readInto_17_u_j63 s (nI w) = some (.inl (nI (w + 1), s2)) := by
    refine wO_iff.mp ?_
    unfold xf_6_readInto_17_u_j63
    exact wO_eq q1 (wO_iff.mpr x_j65)
  have j185 : mf_tellOne_j185 m = some m2 := by
    have tab : ∀ k, k < 4 → ¬ nI (gMk2 (3 + k)) - (23 : Int32) < 0 ∧ nI (gMk2 (3 + k)) ≤ (26 : Int32) ∧ nI (gMk2 (3 + k)) - (23 : Int32) = nI k := by decide
    obtain ⟨t1, t2, t3⟩ := tab k kl
    refine wO_iff.mp ?_
    unfold mf_tellOne_j185
    rw [kk] at r5
    refine wO_agv (k := t) h11 (by omega) (by omega) r5 (wO_neg t1 (wO_agv (k := t) h11 (by omega) (by omega) r5 (wO_pos t2 ?_)))
    rw [t3]
    exact wO_iff.mpr q2
  have X := XM s2 m2 (by
    rw [kk]
    refine wO_iff.mp ?_
    have n0 : ∀ k, k < 4 → ¬ nI (3 + k) = (0 : Int32) ∧ ¬ nI (3 + k) = (1 : Int32) ∧ ¬ nI (3 + k) = (2 : Int32) := by decide
    obtain ⟨t0, t1, t2⟩ := n0 k kl
    unfold xOne
    refine wO_neg t0 (wO_neg t1 (wO_neg t2 ?_))
    have kc : k = 0 ∨ k = 1 ∨ k = 2 ∨ k = 3 := by omega
    rcases kc with e | e | e | e
    · subst e
      exact wO_pos rfl (wO_iff.mpr j63)
    · subst e
      exact wO_neg (by decide) (wO_pos rfl (wO_iff.mpr j63))
    · subst e
      exact wO_neg (by decide) (wO_neg (by decide) (wO_pos rfl (wO_iff.mpr j63)))
    · subst e
      exact wO_neg (by decide) (wO_neg (by decide) (wO_neg (by decide) (wO_pos rfl (wO_iff.mpr j63))))) (by
    rw [kk]
    refine wO_iff.mp ?_
    have n0 : ∀ k, k < 4 → ¬ nI (gMk2 (3 + k)) = (20 : Int32) ∧ ¬ nI (gMk2 (3 + k)) = (21 : Int32) ∧ ¬ nI (gMk2 (3 + k)) = (22 : Int32) := by decide
    obtain ⟨t0, t1, t2⟩ := n0 k kl
    unfold mOne
    refine wO_neg t0 (wO_neg t1 (wO_neg t2 ?_))
    have kc : k = 0 ∨ k = 1 ∨ k = 2 ∨ k = 3 := by omega
    rcases kc with e | e | e | e
    · subst e
      exact wO_pos rfl (wO_iff.mpr j185)
    · subst e
      exact wO_neg (by decide) (wO_pos rfl (wO_iff.mpr j185))
    · subst e
      exact wO_neg (by decide) (wO_neg (by decide) (wO_pos rfl (wO_iff.mpr j185)))
    · subst e
      exact wO_neg (by decide) (wO_neg (by decide) (wO_neg (by decide) (wO_pos rfl (wO_iff.mpr j185)))))
  refine ⟨s2, m2, X.1, X.2, F.wk (by decide) (by decide) (by decide), G.wk (by decide) (by decide) (by decide), G0.sq, ?_⟩
  rcases o with ⟨t2, z2, c2, B2, LW2, b1, b2, b3, b4, b5, b6, b7⟩ | ⟨f, p, b1, b2⟩
  · refine Or.inl ⟨t2, z2, c2, B2, ns, nw, LW2, b1, b2, b3, b4, b5, (G.1 19 (by decide)).trans h19, b6, b7, ?_, ?_, ?_, ?_, fun i hi => ?_, fun i hi => ?_, ?_, ⟨tv, ?_, ?_, fun e => ti3 (z15 e)⟩, sv, ?_, ?_, fun e => se3 (z15 e)⟩
    · have hl : P t < P t2 := hT.2.2.2.1 t t2 b1 b2.2.1.1
      exact hN.mv (Nat.le_of_lt hl) (F.1 103 (by decide)) (F.1 104 (by decide)) (G.1 15 (by decide)) (G.1 16 (by decide))
    · exact hM.mv (F.1 275 (by decide)) (F.1 276 (by decide)) F0.2.2.1 (G.1 20 (by decide)) (G.2.1 22 (by decide)) G0.1.2
    · rw [G.2.1 23 (by decide)]; exact h23
    · rw [G.2.1 25 (by decide)]; exact h25
    · obtain ⟨u, u1, u2, u3⟩ := tg i hi
      exact ⟨u, by rw [F.2.1 18 (by decide)]; exact u1, by rw [G.2.1 24 (by decide)]; exact u2, fun e => u3 (z15 e)⟩
    · obtain ⟨u, u1, u2, u3⟩ := fo i hi
      exact ⟨u, by rw [F.2.1 19 (by decide)]; exact u1, by rw [G.2.1 26 (by decide)]; exact u2, fun e => u3 (z15 e)⟩
    · exact pr.mv (Nat.le_refl _) (F.1 277 (by decide)) (F.1 278 (by decide)) (G.2.1 27 (by decide)) (G.2.1 28 (by decide)) z15
    · exact (F.1 279 (by decide)).trans ti1
    · rw [G.2.1 29 (by decide)]; exact ti2
    · exact (F.1 280 (by decide)).trans se1
    · rw [G.2.1 30 (by decide)]; exact se2
  · exact Or.inr ⟨f, p, b1, b2⟩
/-- all statements -/
theorem e_all {K P V : Nat → Nat} {W : Nat → Int64} {N sd : Nat} : ∀ n t w z c B ns nw : Nat, ∀ LW : Nat → Option gLd, ∀ (s : xs_S) (m : ms_S), n + t = 401 → w ≤ t → gRd K P V W N sd t z c B ns nw LW s m → ∃ s2 m2, mo_loop xf_6_readInto_17_u_l23 (nI w, s) = some s2 ∧ mo_loop mf_read_l62 m = some m2 ∧ xsH xKr xKa [7, 8] s s2 ∧ msH mKr mKr [21] m m2 ∧ gSq sd m m2 ∧ ((∃ t2 z2 c2 B2 ns2 nw2, ∃ LW2 : Nat → Option gLd, gRd K P V W N sd t2 z2 c2 B2 ns2 nw2 LW2 s2 m2) ∨ ∃ f p, gXb P N f p s2 ∧ gFm2 f p m2) := by
  intro n
  induction n using Nat.strongRecOn with
  | ind n ih =>
    intro t w z c B ns nw LW s m hn hw h
    obtain ⟨hT, hH, -⟩ := id h.1
    have hN4 := hT.1
    have ht := hH.1
    have his := m_is (k := 32) hT hH (by omega)
    have hkd := x_kind hT hH
    by_cases c32 : K t = 32
    · rw [if_pos c32] at his
      refine ⟨s, m, mo_loop_inr (wO_iff.mp ?_), mo_loop_inr (wO_iff.mp ?_), xsH.rf, msH.rf, gSq.fr (fun _ _ => rfl), Or.inl ⟨t, z, c, B, ns, nw, LW, h⟩⟩
      · unfold xf_6_readInto_17_u_l23
        exact wO_neg (show ¬ nI 400 < nI w from nI_nlt (by omega) (by omega)) (wO_pos hH.2.2.1 (wO_eq hkd (wO_pos (by rw [c32]; rfl) (wO_some rfl))))
      · unfold mf_read_l62
        exact wO_pos hH.2.2.2.2 (wO_eq his (wO_neg pu_10 (wO_some rfl)))
    · rw [if_neg c32] at his
      obtain ⟨s2, m2, x1, x2, F, G, Q, o⟩ := e_one (w := w) h (by omega) c32
      have st : mf_read_l62 m = some (.inl m2) := by
        refine wO_iff.mp ?_
        unfold mf_read_l62
        exact wO_pos hH.2.2.2.2 (wO_eq his (wO_pos rfl (wO_eq x2 (wO_some rfl))))
      rw [mo_loop_inl x1, mo_loop_inl st]
      rcases o with ⟨t2, z2, c2, B2, ns2, nw2, LW2, b1, b2⟩ | ⟨f, p, b1, b2⟩
      · have ht2 := b2.1.2.1.1
        obtain ⟨s3, m3, y1, y2, y3, y4, y5, y6⟩ := ih (401 - t2) (by omega) t2 (w + 1) z2 c2 B2 ns2 nw2 LW2 s2 m2 (by omega) (by omega) b2
        exact ⟨s3, m3, y1, y2, F.tr y3, G.tr y4, Q.tr y5, y6⟩
      · refine ⟨s2, m2, mo_loop_inr (wO_iff.mp ?_), mo_loop_inr (wO_iff.mp ?_), F, G, Q, Or.inr ⟨f, p, b1, b2⟩⟩
        · unfold xf_6_readInto_17_u_l23
          by_cases c4 : (400 : Int32) < nI (w + 1)
          · exact wO_pos c4 (wO_some rfl)
          · exact wO_neg c4 (wO_neg (by rw [b1.1.2.2.1]; exact nI_ne0 b1.1.1 (by have := b1.1.2.1; omega)) (wO_some rfl))
        · unfold mf_read_l62
          exact wO_neg (gF2 b2) (wO_some rfl)
