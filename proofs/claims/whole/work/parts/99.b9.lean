/-! feed -/
def gBX (a w : Int32) : Int32 := vp_nar .byte (((a).toUInt32 >>> ((w).toUInt32 &&& Int32.toUInt32 31)).toInt32).toInt8.toInt32
def gBM (a w : Int32) : Int32 := vp_nar .byte ((a >>> (w &&& 31))).toInt8.toInt32
theorem gB_sh (x : BitVec 32) (k : Nat) (hk : k ≤ 24) : (x >>> k).signExtend 8 = (x.sshiftRight k).signExtend 8 := by
  apply BitVec.eq_of_getLsbD_eq
  intro i hi
  rw [BitVec.getLsbD_signExtend, BitVec.getLsbD_signExtend, if_pos (show i < 32 by omega), if_pos (show i < 32 by omega), BitVec.getLsbD_ushiftRight, BitVec.getLsbD_sshiftRight]
  rw [if_pos (show k + i < 32 by omega)]
  simp [show ¬ 32 ≤ i by omega]
theorem gB_n1 : ∀ k, k < 32 → (((nI k).toUInt32 &&& Int32.toUInt32 31).toBitVec % 32).toNat = k := by decide
theorem gB_n2 : ∀ k, k < 32 → ((nI k &&& 31).toBitVec.smod 32).toNat = k := by decide
theorem gB_eq (a : Int32) (k : Nat) (hk : k = 0 ∨ k = 8 ∨ k = 16 ∨ k = 24) : gBX a (nI k) = gBM a (nI k) := by
  unfold gBX gBM
  congr 2
  apply Int8.toBitVec.inj
  show ((a.toUInt32 >>> ((nI k).toUInt32 &&& Int32.toUInt32 31)).toBitVec).signExtend 8 = ((a >>> (nI k &&& 31)).toBitVec).signExtend 8
  rw [UInt32.toBitVec_shiftRight, Int32.toBitVec_shiftRight, BitVec.ushiftRight_eq', BitVec.sshiftRight_eq', gB_n1 k (by omega), gB_n2 k (by omega)]
  exact gB_sh _ _ (by omega)
theorem gSb8_of (y : Int8) : ∃ b, b < 256 ∧ y.toInt32 = gSb8 b := by
  have h1 := y.le_toInt
  have h2 := y.toInt_le
  have h3 : y.toInt32.toInt = y.toInt := Int8.toInt_toInt32 y
  have m1 : Int8.minValue.toInt = -128 := by decide
  have m2 : Int8.maxValue.toInt = 127 := by decide
  unfold gSb8
  by_cases h0 : 0 ≤ y.toInt
  · refine ⟨y.toInt.toNat, by omega, ?_⟩
    rw [if_pos (by omega)]
    apply Int32.toInt.inj
    rw [h3, nI_toInt (by omega)]
    omega
  · refine ⟨(y.toInt + 256).toNat, by omega, ?_⟩
    rw [if_neg (by omega)]
    apply Int32.toInt.inj
    rw [h3, Int32.toInt_sub, nI_toInt (by omega), show (256 : Int32).toInt = 256 by decide, Int.bmod_eq_of_le (by omega) (by omega)]
    omega
theorem gBM_by (a w : Int32) : ∃ b, b < 256 ∧ gBM a w = gSb8 b := gSb8_of _
/-- four bytes come behind the tape -/
theorem x_app1 {s : xs_S} {z : Nat} {a w : Int32} (h : s.1 17 = nI z) (hz : z < 2000) (hw : ¬ w < 0) : wO (xf_8_append_l2 a (w, s)) (fun r => r = .inl (w + (-8 : Int32), xs_sA (xs_sI s 17 (nI (z + 1))) 2 (upd (s.2.1 2) z (gBX a w)))) := by
  unfold xf_8_append_l2
  refine wO_neg hw ?_
  rw [h]
  refine wO_neg (show ¬ (2000 : Int32) ≤ nI z from nI_ge (b := 2000) hz (by omega)) (wO_in (k := z) rfl hz (by omega) ?_)
  rw [nI_clamp (by omega), nI_1]
  exact wO_some rfl
theorem m_app1 {s : ms_S} {z : Nat} {a w : Int32} (h : s.1 2 = nI z) (hz : z < 2000) (hw : ¬ w < 0) : wO (mf_lays_l2 a (w, s)) (fun r => r = .inl (w + (-8 : Int32), ms_sA (ms_sI s 2 (nI (z + 1))) 1 (upd (s.2.1 1) z (gBM a w)))) := by
  unfold mf_lays_l2
  refine wO_neg hw ?_
  rw [h]
  refine wO_in (k := z) rfl hz (by omega) ?_
  rw [nI_clamp (by omega), nI_1]
  exact wO_some rfl
def RBz (z : Nat) (s : xs_S) (m : ms_S) : Prop := s.1 17 = nI z ∧ m.1 2 = nI z ∧ ∀ i, i < z → ∃ b, b < 256 ∧ s.2.1 2 i = gSb8 b ∧ m.2.1 1 i = gSb8 b
theorem RBz_1 {z : Nat} {s : xs_S} {m : ms_S} {a : Int32} {k : Nat} (h : RBz z s m) (hk : k = 0 ∨ k = 8 ∨ k = 16 ∨ k = 24) : RBz (z + 1) (xs_sA (xs_sI s 17 (nI (z + 1))) 2 (upd (s.2.1 2) z (gBX a (nI k)))) (ms_sA (ms_sI m 2 (nI (z + 1))) 1 (upd (m.2.1 1) z (gBM a (nI k)))) := by
  refine ⟨rfl, rfl, fun i hi => ?_⟩
  show ∃ b, b < 256 ∧ upd (s.2.1 2) z (gBX a (nI k)) i = gSb8 b ∧ upd (m.2.1 1) z (gBM a (nI k)) i = gSb8 b
  by_cases he : i = z
  · subst he
    rw [upd_eq, upd_eq, gB_eq a k hk]
    obtain ⟨b, hb, e⟩ := gBM_by a (nI k)
    exact ⟨b, hb, e, e⟩
  · rw [upd_ne he, upd_ne he]
    exact h.2.2 i (by omega)
theorem RBz_4 {z : Nat} {s : xs_S} {m : ms_S} (a : Int32) (h : RBz z s m) (hz : z + 4 ≤ 2000) : ∃ s2 m2, xf_8_append s a = some s2 ∧ mf_lays m a = some m2 ∧ xsF [17] [2] s s2 ∧ msF [1, 2] m m2 ∧ RBz (z + 4) s2 m2 := by
  have fx : ∀ (s : xs_S) (v : Int32) (f : Nat → Int32), xsF [17] [2] s (xs_sA (xs_sI s 17 v) 2 f) := fun s v f => (xsF.sI (by decide)).tr (xsF.sA (by decide))
  have fm : ∀ (m : ms_S) (v : Int32) (f : Nat → Int32), msF [1, 2] m (ms_sA (ms_sI m 2 v) 1 f) := fun m v f => (msF.sI (by decide)).tr (msF.sA (by decide))
  have h1 := RBz_1 (a := a) (k := 24) h (by omega)
  have x1 := x_app1 (a := a) (w := nI 24) h.1 (by omega) (pu_nn (by omega))
  have y1 := m_app1 (a := a) (w := nI 24) h.2.1 (by omega) (pu_nn (by omega))
  have f1 := fx s (nI (z + 1)) (upd (s.2.1 2) z (gBX a (nI 24)))
  have g1 := fm m (nI (z + 1)) (upd (m.2.1 1) z (gBM a (nI 24)))
  rw [show nI 24 + (-8 : Int32) = nI 16 by decide] at x1 y1
  generalize xs_sA (xs_sI s 17 (nI (z + 1))) 2 (upd (s.2.1 2) z (gBX a (nI 24))) = s1 at *
  generalize ms_sA (ms_sI m 2 (nI (z + 1))) 1 (upd (m.2.1 1) z (gBM a (nI 24))) = m1 at *
  have h2 := RBz_1 (a := a) (k := 16) h1 (by omega)
  have x2 := x_app1 (a := a) (w := nI 16) h1.1 (by omega) (pu_nn (by omega))
  have y2 := m_app1 (a := a) (w := nI 16) h1.2.1 (by omega) (pu_nn (by omega))
  have f2 := fx s1 (nI (z + 1 + 1)) (upd (s1.2.1 2) (z + 1) (gBX a (nI 16)))
  have g2 := fm m1 (nI (z + 1 + 1)) (upd (m1.2.1 1) (z + 1) (gBM a (nI 16)))
  rw [show nI 16 + (-8 : Int32) = nI 8 by decide] at x2 y2
  generalize xs_sA (xs_sI s1 17 (nI (z + 1 + 1))) 2 (upd (s1.2.1 2) (z + 1) (gBX a (nI 16))) = s2 at *
  generalize ms_sA (ms_sI m1 2 (nI (z + 1 + 1))) 1 (upd (m1.2.1 1) (z + 1) (gBM a (nI 16))) = m2 at *
  have h3 := RBz_1 (a := a) (k := 8) h2 (by omega)
  have x3 := x_app1 (a := a) (w := nI 8) h2.1 (by omega) (pu_nn (by omega))
  have y3 := m_app1 (a := a) (w := nI 8) h2.2.1 (by omega) (pu_nn (by omega))
  have f3 := fx s2 (nI (z + 1 + 1 + 1)) (upd (s2.2.1 2) (z + 1 + 1) (gBX a (nI 8)))
  have g3 := fm m2 (nI (z + 1 + 1 + 1)) (upd (m2.2.1 1) (z + 1 + 1) (gBM a (nI 8)))
  rw [show nI 8 + (-8 : Int32) = nI 0 by decide] at x3 y3
  generalize xs_sA (xs_sI s2 17 (nI (z + 1 + 1 + 1))) 2 (upd (s2.2.1 2) (z + 1 + 1) (gBX a (nI 8))) = s3 at *
  generalize ms_sA (ms_sI m2 2 (nI (z + 1 + 1 + 1))) 1 (upd (m2.2.1 1) (z + 1 + 1) (gBM a (nI 8))) = m3 at *
  have h4 := RBz_1 (a := a) (k := 0) h3 (by omega)
  have x4 := x_app1 (a := a) (w := nI 0) h3.1 (by omega) (pu_nn (by omega))
  have y4 := m_app1 (a := a) (w := nI 0) h3.2.1 (by omega) (pu_nn (by omega))
  have f4 := fx s3 (nI (z + 1 + 1 + 1 + 1)) (upd (s3.2.1 2) (z + 1 + 1 + 1) (gBX a (nI 0)))
  have g4 := fm m3 (nI (z + 1 + 1 + 1 + 1)) (upd (m3.2.1 1) (z + 1 + 1 + 1) (gBM a (nI 0)))
  have neg : nI 0 + (-8 : Int32) < 0 := by decide
  generalize nI 0 + (-8 : Int32) = wl at x4 y4 neg
  generalize xs_sA (xs_sI s3 17 (nI (z + 1 + 1 + 1 + 1))) 2 (upd (s3.2.1 2) (z + 1 + 1 + 1) (gBX a (nI 0))) = s4 at *
  generalize ms_sA (ms_sI m3 2 (nI (z + 1 + 1 + 1 + 1))) 1 (upd (m3.2.1 1) (z + 1 + 1 + 1) (gBM a (nI 0))) = m4 at *
  refine ⟨s4, m4, wO_iff.mp ?_, wO_iff.mp ?_, f1.tr (f2.tr (f3.tr f4)), g1.tr (g2.tr (g3.tr g4)), h4⟩
  · unfold xf_8_append
    refine wO_bd (Q := fun t => t = s4) ?_ (by rintro _ rfl; exact wO_some rfl)
    refine wO_step (wO_mono x1 (by
      rintro _ rfl
      refine wO_step (wO_mono x2 (by
        rintro _ rfl
        refine wO_step (wO_mono x3 (by
          rintro _ rfl
          refine wO_step (wO_mono x4 (by
            rintro _ rfl
            refine wO_step ?_
            unfold xf_8_append_l2
            exact wO_pos neg (wO_some rfl)))))))))
  · unfold mf_lays
    refine wO_bd (Q := fun t => t = m4) ?_ (by rintro _ rfl; exact wO_some rfl)
    refine wO_step (wO_mono y1 (by
      rintro _ rfl
      refine wO_step (wO_mono y2 (by
        rintro _ rfl
        refine wO_step (wO_mono y3 (by
          rintro _ rfl
          refine wO_step (wO_mono y4 (by
            rintro _ rfl
            refine wO_step ?_
            unfold mf_lays_l2
            exact wO_pos neg (wO_some rfl)))))))))
theorem R_s0 : lw_s0 RR := fun n s m a b c d e h hn => by
  obtain ⟨g, lv, po, st, ti, h1, h2, b1, b2, b3, b4, b5, b6, b7, b8, ⟨z, z1, z2, z3, z4⟩, b10⟩ := id h
  by_cases hz : z + 20 ≤ 2000
  · obtain ⟨s1, m1, e1, k1, f1, g1, r1⟩ := RBz_4 a (show RBz z s m from ⟨z2, z3, z4⟩) (by omega)
    obtain ⟨s2, m2, e2, k2, f2, g2, r2⟩ := RBz_4 b r1 (by omega)
    obtain ⟨s3, m3, e3, k3, f3, g3, r3⟩ := RBz_4 c r2 (by omega)
    obtain ⟨s4, m4, e4, k4, f4, g4, r4⟩ := RBz_4 d r3 (by omega)
    obtain ⟨s5, m5, e5, k5, f5, g5, r5⟩ := RBz_4 e r4 (by omega)
    have fx : xsF [17] [2] s s5 := f1.tr (f2.tr (f3.tr (f4.tr f5)))
    have fm : msF [1, 2] m m5 := g1.tr (g2.tr (g3.tr (g4.tr g5)))
    have xi : ∀ j, ¬ j = 17 → s5.1 j = s.1 j := fun j hj => fx.1 j (fun q => hj (List.mem_singleton.mp q))
    have xa : ∀ j, ¬ j = 2 → s5.2.1 j = s.2.1 j := fun j hj => fx.2.1 j (fun q => hj (List.mem_singleton.mp q))
    refine ⟨nI (z + 4 + 4 + 4 + 4 + 4), s5, m5, wO_iff.mp ?_, wO_iff.mp ?_, g, lv, po, st, ti, h1.fr fx (by decide) (by decide), (h2.fr (xi 151 (by omega)) (xi 401 (by omega)) (xi 402 (by omega)) (xa 138 (by omega)) (xi 1875 (by omega))).up (by omega), ?_⟩
    · unfold xf_11_feed
      rw [z2]
      refine wO_pos (by rw [show nI z + (20 : Int32) = nI (z + 20) from nI_add z 20]; exact nI_le (b := 2000) hz (by omega)) ?_
      exact wO_eq e1 (wO_eq e2 (wO_eq e3 (wO_eq e4 (wO_eq e5 (wO_some (by rw [r5.1]))))))
    · unfold mf_feed
      rw [z3]
      refine wO_pos (by rw [show nI z + (20 : Int32) = nI (z + 20) from nI_add z 20]; exact nI_le (b := 2000) hz (by omega)) ?_
      exact wO_eq k1 (wO_eq k2 (wO_eq k3 (wO_eq k4 (wO_eq k5 (wO_some (by rw [r5.2.1]))))))
    · exact ⟨b1.mv fm (by decide), by rw [fm.a 29 (by decide)]; exact b2, by rw [xi 152 (by omega), fm.a 30 (by decide)]; exact b3, by rw [xi 4 (by omega), fm.i 17 (by decide)]; exact b4, b5.mv (fun k hk => xi _ (by omega)) (xa 26 (by omega)) (fm.a 47 (by decide)), b6.mv (fun j h4 h5 => xi j (by omega)) (fun j h4 h5 => xa j (by omega)) (fm.i 54 (by decide)) (fm.a 55 (by decide)), b7.mv (fun j h4 h5 => xi j (by omega)) (fun j h4 h5 => xa j (by omega)) (fm.a 70 (by decide)) (fm.a 71 (by decide)), b8.mv (xi 1924 (by omega)) (fun j h4 h5 => xa j (by omega)) (fm.i 63 (by decide)) (fun j h4 h5 => by
        rcases (show j = 64 ∨ j = 65 ∨ j = 66 by omega) with rfl | rfl | rfl
        · exact fm.a 64 (by decide)
        · exact fm.a 65 (by decide)
        · exact fm.a 66 (by decide)), ⟨z + 4 + 4 + 4 + 4 + 4, by omega, r5⟩, fun k hk => by rw [fm.2]; exact b10 k hk⟩
  · refine ⟨-1, s, m, wO_iff.mp ?_, wO_iff.mp ?_, R_up h⟩
    · unfold xf_11_feed
      rw [z2]
      exact wO_neg (by rw [show nI z + (20 : Int32) = nI (z + 20) from nI_add z 20]; exact nI_ge (b := z + 20) (a := 2000) (by omega) (by omega)) (wO_some rfl)
    · unfold mf_feed
      rw [z3]
      exact wO_neg (by rw [show nI z + (20 : Int32) = nI (z + 20) from nI_add z 20]; exact nI_ge (b := z + 20) (a := 2000) (by omega) (by omega)) (wO_some rfl)
