/-! reading: all tokens, both sides alike -/
def gT1 (k p v : Nat) (w : Int64) (i : Nat) (s : xs_S) (m : ms_S) : Prop := s.2.1 3 i = nI k ∧ m.2.1 5 i = nI (gMk2 k) ∧ s.2.1 4 i = nI p ∧ m.2.1 6 i = nI p ∧ (k = 22 → (s.2.2.1 5 i).toInt32 = nI v ∧ m.2.1 7 i = nI v ∧ v < 10000) ∧ (k = 21 → s.2.2.1 5 i = w ∧ m.2.2 8 i = w)
def gTsk (K P V : Nat → Nat) (W : Nat → Int64) (n p : Nat) (s : xs_S) (m : ms_S) : Prop := (∀ i j, i < j → j < n → P i < P j) ∧ ∀ i, i < n → K i < 32 ∧ P i < p ∧ gT1 (K i) (P i) (V i) (W i) i s m
def gSbn (n : Nat) (s s2 : xs_S) (m m2 : ms_S) : Prop := ∀ i, i < n → s2.2.1 3 i = s.2.1 3 i ∧ s2.2.1 4 i = s.2.1 4 i ∧ s2.2.2.1 5 i = s.2.2.1 5 i ∧ m2.2.1 5 i = m.2.1 5 i ∧ m2.2.1 6 i = m.2.1 6 i ∧ m2.2.1 7 i = m.2.1 7 i ∧ m2.2.2 8 i = m.2.2 8 i
theorem gT1.mv {k p v i n : Nat} {w : Int64} {s s2 : xs_S} {m m2 : ms_S} (h : gT1 k p v w i s m) (hb : gSbn n s s2 m m2) (hi : i < n) : gT1 k p v w i s2 m2 := by
  obtain ⟨a1, a2, a3, a4, a5, a6, a7⟩ := hb i hi
  unfold gT1
  rw [a1, a2, a3, a4, a5, a6, a7]
  exact h
def gUpn {α : Type} (f : Nat → α) (n : Nat) (a : α) (i : Nat) : α := if i = n then a else f i
theorem gUpn_eq {α : Type} {f : Nat → α} {n : Nat} {a : α} : gUpn f n a n = a := if_pos rfl
theorem gUpn_ne {α : Type} {f : Nat → α} {n i : Nat} {a : α} (h : ¬ i = n) : gUpn f n a i = f i := if_neg h
theorem gTsk_add {K P V : Nat → Nat} {W : Nat → Int64} {n p q k v : Nat} {w : Int64} {s s2 : xs_S} {m m2 : ms_S} (h : gTsk K P V W n p s m) (hb : gSbn n s s2 m m2) (hk : k < 32) (hq : p < q) (h1 : gT1 k p v w n s2 m2) : gTsk (gUpn K n k) (gUpn P n p) (gUpn V n v) (gUpn W n w) (n + 1) q s2 m2 := by
  refine ⟨fun i j hij hj => ?_, fun i hi => ?_⟩
  · rw [gUpn_ne (f := P) (a := p) (show ¬ i = n by omega)]
    by_cases c : j = n
    · subst c
      rw [gUpn_eq]
      exact (h.2 i hij).2.1
    · rw [gUpn_ne c]
      exact h.1 i j hij (by omega)
  · by_cases c : i = n
    · subst c
      rw [gUpn_eq, gUpn_eq, gUpn_eq, gUpn_eq]
      exact ⟨hk, hq, h1⟩
    · rw [gUpn_ne c, gUpn_ne c, gUpn_ne c, gUpn_ne c]
      obtain ⟨a1, a2, a3⟩ := h.2 i (by omega)
      exact ⟨a1, by omega, a3.mv hb (by omega)⟩
theorem gTok_of {K P V : Nat → Nat} {W : Nat → Int64} {n p k v C : Nat} {w : Int64} {s s2 : xs_S} {m m2 : ms_S} (h : gTsk K P V W n p s m) (hb : gSbn n s s2 m m2) (hn : n ≤ 400) (hk : k < 34) (hk2 : n < 400 → k = 32 ∨ k = 33) (hp : p ≤ 2000) (h1 : gT1 k p v w n s2 m2) (hC : n < C) (hC2 : C ≤ 402) (h21 : s2.1 21 = nI C) : gTok (gUpn K n k) (gUpn P n p) (gUpn V n v) (gUpn W n w) n s2 m2 := by
  refine ⟨hn, ⟨C, hC, hC2, h21⟩, fun c => by rw [gUpn_eq]; exact hk2 c, fun i j hij hj => ?_, fun i hi => ?_⟩
  · rw [gUpn_ne (f := P) (a := p) (show ¬ i = n by omega)]
    by_cases c : j = n
    · subst c
      rw [gUpn_eq]
      exact (h.2 i hij).2.1
    · rw [gUpn_ne c]
      exact h.1 i j hij (by omega)
  · by_cases c : i = n
    · subst c
      rw [gUpn_eq, gUpn_eq, gUpn_eq, gUpn_eq]
      obtain ⟨b1, b2, b3, b4, b5, b6⟩ := h1
      exact ⟨hk, b1, b2, hp, b3, b4, b5, b6⟩
    · rw [gUpn_ne c, gUpn_ne c, gUpn_ne c, gUpn_ne c]
      obtain ⟨a1, a2, a3⟩ := h.2 i (by omega)
      obtain ⟨b1, b2, b3, b4, b5, b6⟩ := a3.mv hb (by omega)
      exact ⟨by omega, b1, b2, by omega, b3, b4, b5, b6⟩
theorem e_scan {B : Nat → Nat} {z : Nat} : ∀ r p n : Nat, ∀ (s : xs_S) (m : ms_S) (K P V : Nat → Nat) (W : Nat → Int64), r + p = z → gBy B z s → gBz B z m → RY m → (p < z → gIb (B p) = false) → n ≤ 400 → s.1 21 = nI n → m.1 10 = nI n → gTsk K P V W n p s m → ∃ (s2 : xs_S) (m2 : ms_S) (K2 P2 V2 : Nat → Nat) (W2 : Nat → Int64) (N : Nat), xSt (nI p) (nI n) s = some s2 ∧ mCt (nI p) m = some m2 ∧ xsH [21] [3, 4] [5] s s2 ∧ msH [10] [5, 6, 7] [8] m m2 ∧ gTok K2 P2 V2 W2 N s2 m2 := by
  intro r
  induction r using Nat.strongRecOn with
  | ind r ih =>
    intro p n s m K P V W hr hs hm hY hnb hn h21 h10 hT
    have hz := hs.1
    by_cases cz : p = z
    · -- the end
      subst cz
      have mt := mCt_end hm h10 hn
      have xt : xSt (nI p) (nI n) s = some (xPt s n (nI 32) (nI p) 0) := by
        unfold xSt
        rw [mo_loop_inr (x := .inr (nI p, s)) (wO_iff.mp (by
          unfold xf_8_scan_l9
          exact wO_neg (show ¬ nI 400 < nI n from nI_nlt (by omega) (by omega)) (wO_pos (by rw [hs.2.1]; exact nI_le (Nat.le_refl _) (by omega)) (wO_some rfl))))]
        show xf_8_scan_j43 s (nI p) = _
        refine wO_iff.mp ?_
        unfold xf_8_scan_j43
        refine wO_neg (by rw [hs.2.1]; exact nI_nlt (Nat.le_refl _) (by omega)) ?_
        rw [hs.2.1]
        exact wO_eq (x_put h21 (by omega)) (wO_some rfl)
      refine ⟨_, _, _, _, _, _, n, xt, mt, xPt_h, mTk_h, gTok_of (k := 32) (v := 0) (w := 0) (C := n + 1) hT (fun i hi => ⟨upd_ne (by omega), upd_ne (by omega), uL_ne (by omega), upd_ne (by omega), upd_ne (by omega), upd_ne (by omega), uL_ne (by omega)⟩) hn (by omega) (fun _ => Or.inl rfl) hz ⟨upd_eq, upd_eq, upd_eq, upd_eq, fun c => by omega, fun c => by omega⟩ (by omega) (by omega) rfl⟩
    · have hp : p < z := by omega
      obtain ⟨e, e1, e2, e3⟩ := gEnd_ex (B := B) hp
      obtain ⟨kk, hk⟩ := gTkn_ex e3
      obtain ⟨l1, l2⟩ := gTkn_lt (hs.2.2 p hp).1 hk
      obtain ⟨vi, vw, st, u1, u2⟩ := m_cutk hm hY e1 e2 (hnb hp) h10 hn hk
      obtain ⟨v, v1, v2, v3⟩ := x_valueOf hs e1 e2
      generalize hS : xPt s n (nI kk) (nI p) v = s7
      generalize hM : mTk m n (nI (gMk2 kk)) (nI p) vi vw = m7
      have fS : xsH [21] [3, 4] [5] s s7 := by rw [← hS]; exact xPt_h
      have fM : msH [10] [5, 6, 7] [8] m m7 := by rw [← hM]; exact mTk_h
      have sb : gSbn n s s7 m m7 := by
        rw [← hS, ← hM]
        exact fun i hi => ⟨upd_ne (by omega), upd_ne (by omega), uL_ne (by omega), upd_ne (by omega), upd_ne (by omega), upd_ne (by omega), uL_ne (by omega)⟩
      have t1 : gT1 kk p (gVdt B p (e - p)) vw n s7 m7 := by
        rw [← hS, ← hM]
        refine ⟨upd_eq, upd_eq, upd_eq, upd_eq, fun c => ?_, fun c => ?_⟩
        · have hd : gId (B p) = true ∧ gSk (fun i => gId (B i)) z p e ∧ e - p ≤ 4 := by
            rcases hk with ⟨-, -, ⟨-, q⟩ | ⟨-, q⟩⟩ | ⟨k1, k2, ⟨q1, q⟩ | ⟨-, q⟩⟩ | ⟨-, -, -, q⟩
            · have := q.1; omega
            · omega
            · exact ⟨k1, k2, q1⟩
            · omega
            · have := gSg_lt _ (hs.2.2 p hp).1
              omega
          obtain ⟨d1, d2, d3⟩ := hd
          refine ⟨?_, ?_, ?_⟩
          · show (vp_updL (s.2.2.1 5) n v n).toInt32 = _
            rw [uL_eq, v3 d2.2.2.1, show min (e - p) 8 = e - p by omega, Int64.toInt32_ofNat']
            rfl
          · show upd (m.2.1 7) n vi n = _
            rw [upd_eq]
            exact u1 c d1
          · have b1 := gVdt_lt (B := B) (p := p) (e - p) (fun i hi => by have := gId_b (d2.2.2.1 (p + i) (by omega) (by omega)); omega)
            have b2 : 10 ^ (e - p) ≤ 10 ^ 4 := Nat.pow_le_pow_right (by omega) d3
            omega
        · have hl : gSk (fun i => gIl (B i)) z p e ∧ e - p ≤ 8 := by
            rcases hk with ⟨k1, k2, ⟨q1, q⟩ | ⟨-, q⟩⟩ | ⟨k1, k2, ⟨-, q⟩ | ⟨-, q⟩⟩ | ⟨-, -, -, q⟩
            · exact ⟨k2, q1⟩
            · omega
            · omega
            · omega
            · have := gSg_lt _ (hs.2.2 p hp).1
              omega
          refine ⟨?_, uL_eq⟩
          show vp_updL (s.2.2.1 5) n v n = _
          rw [uL_eq, v2 hl.1.2.2.1, u2 (by omega), show min (e - p) 8 = e - p by have := hl.2; omega]
      have s21 : s7.1 21 = nI (n + 1) := by rw [← hS]; rfl
      have m10 : m7.1 10 = nI (n + 1) := by rw [← hM]; rfl
      have mstep : mCt (nI p) m = mCt (nI e) m7 := by
        unfold mCt
        rw [mo_loop_inl st, hM]
      have hs7 : gBy B z s7 := hs.mv (fS.1 17 (by decide)) (fS.2.1 2 (by decide))
      have hm7 : gBz B z m7 := hm.mv (fM.1 4 (by decide)) (fM.2.1 3 (by decide))
      have hY7 : RY m7 := by rw [← hM]; exact hY
      obtain ⟨q, hq⟩ := gSk_ex (q := fun i => gIb (B i)) (z := z) (z - e) e (by omega)
      have pre : ∀ Q, wO (if nI kk = (33 : Int32) then some (.inr (.inl s7)) else ((xf_8_afterBlanks s7 (nI e)).bind fun (v_10, s_10) => some (.inl (v_10, (nI n + (1 : Int32)), s_10)))) Q → wO (xf_8_scan_l9 (nI p, nI n, s)) Q := by
        intro Q hQ
        unfold xf_8_scan_l9
        refine wO_neg (show ¬ nI 400 < nI n from nI_nlt (by omega) (by omega)) (wO_neg (by rw [hs.2.1]; exact nI_ge hp (by omega)) (wO_eq (x_endOf hs hp e3) (wO_eq (x_kindOf hs e1 e2 hk) (wO_eq v1 (wO_eq (x := s7) (by rw [x_put h21 (by omega), hS]) hQ)))))
      by_cases c33 : kk = 33
      · -- no token
        obtain ⟨m2, y1, y2, y3⟩ := m_rest (z - e) e (n + 1) m7 (by omega) hm7 hY7 m10 (by omega)
        refine ⟨s7, m2, _, _, _, _, n, ?_, mstep.trans y1, fS, fM.tr y2, gTok_of (k := 33) (v := gVdt B p (e - p)) (w := vw) (C := n + 1) hT (fun i hi => ?_) hn (by omega) (fun _ => Or.inr rfl) (by omega) ?_ (by omega) (by omega) s21⟩
        · unfold xSt
          rw [mo_loop_inr (x := .inl s7) (wO_iff.mp (pre _ (wO_pos (by rw [c33]; rfl) (wO_some rfl))))]
          rfl
        · obtain ⟨a1, a2, a3, a4, a5, a6, a7⟩ := sb i hi
          obtain ⟨b1, b2, b3, b4⟩ := y3 i (by omega)
          exact ⟨a1, a2, a3, b1.trans a4, b2.trans a5, b3.trans a6, b4.trans a7⟩
        · obtain ⟨b1, b2, b3, b4⟩ := y3 n (by omega)
          rw [← c33]
          obtain ⟨a1, a2, a3, a4, a5, a6⟩ := t1
          exact ⟨a1, b1.trans a2, a3, b2.trans a4, fun c => by omega, fun c => by omega⟩
      · have xst : xf_8_scan_l9 (nI p, nI n, s) = some (.inl (nI q, nI (n + 1), s7)) := by
          refine wO_iff.mp (pre _ (wO_neg (fun c => c33 ((nI_eq (b := 33) (by omega) (by omega)).mp c)) (wO_eq (x_blanks hs7 hq) (wO_some ?_))))
          rw [nI_1]
        have xstep : xSt (nI p) (nI n) s = xSt (nI q) (nI (n + 1)) s7 := by
          unfold xSt
          rw [mo_loop_inl xst]
        by_cases c4 : n = 400
        · -- the last that is looked at
          subst c4
          have hx : xSt (nI q) (nI 401) s7 = xf_8_scan_j43 s7 (nI q) := by
            unfold xSt
            rw [mo_loop_inr (x := .inr (nI q, s7)) (wO_iff.mp (by
              unfold xf_8_scan_l9
              exact wO_pos (by decide) (wO_some rfl)))]
            rfl
          have mfull := mCt_full (p := nI e) (m := m7) m10
          obtain ⟨C, c1, c2, s8, z1, z2, z3, z4⟩ : ∃ C, 400 < C ∧ C ≤ 402 ∧ ∃ s8, xf_8_scan_j43 s7 (nI q) = some s8 ∧ xsH [21] [3, 4] [5] s7 s8 ∧ s8.1 21 = nI C ∧ gSbn 401 s7 s8 m7 m7 := by
            by_cases cq : q < z
            · refine ⟨401, by omega, by omega, s7, wO_iff.mp ?_, xsH.rf, s21, fun i _ => ⟨rfl, rfl, rfl, rfl, rfl, rfl, rfl⟩⟩
              unfold xf_8_scan_j43
              exact wO_pos (by rw [hs7.2.1]; exact nI_lt cq (by omega)) (wO_some rfl)
            · refine ⟨402, by omega, by omega, xPt s7 401 (nI 32) (nI z) 0, wO_iff.mp ?_, xPt_h, rfl, fun i hi => ⟨upd_ne (by omega), upd_ne (by omega), uL_ne (by omega), rfl, rfl, rfl, rfl⟩⟩
              unfold xf_8_scan_j43
              refine wO_neg (by rw [hs7.2.1]; exact nI_nlt (by omega) (by have := hq.2.1; omega)) ?_
              rw [hs7.2.1]
              exact wO_eq (x_put s21 (by omega)) (wO_some rfl)
          refine ⟨s8, m7, _, _, _, _, 400, xstep.trans (hx.trans z1), mstep.trans mfull, fS.tr z2, fM, gTok_of (k := kk) (v := gVdt B p (e - p)) (w := vw) (C := C) hT (fun i hi => ?_) (by omega) l1 (fun c => by omega) (by omega) (t1.mv z4 (by omega)) c1 c2 z3⟩
          obtain ⟨a1, a2, a3, a4, a5, a6, a7⟩ := sb i hi
          obtain ⟨b1, b2, b3, -⟩ := z4 i (by omega)
          exact ⟨b1.trans a1, b2.trans a2, b3.trans a3, a4, a5, a6, a7⟩
        · -- on
          have msk : mCt (nI e) m7 = mCt (nI q) m7 := by
            unfold mCt
            rw [m_blanks hm7 m10 (by omega) (q - e) e (by have := hq.1; omega) hq]
          have q1 := hq.1
          have q2 := hq.2.1
          obtain ⟨s2, m2, K2, P2, V2, W2, N, y1, y2, y3, y4, y5⟩ := ih (z - q) (by omega) q (n + 1) s7 m7 _ _ _ _ (by omega) hs7 hm7 hY7 hq.2.2.2 (by omega) s21 m10 (gTsk_add (k := kk) (v := gVdt B p (e - p)) (w := vw) (q := q) hT sb (by omega) (by omega) t1)
          exact ⟨s2, m2, K2, P2, V2, W2, N, xstep.trans y1, (mstep.trans msk).trans y2, fS.tr y3, fM.tr y4, y5⟩
/-- the class's scan against the reference's cut -/
theorem e_tokens {B : Nat → Nat} {z : Nat} {s : xs_S} {m : ms_S} (hs : gBy B z s) (hm : gBz B z m) (hY : RY m) : ∃ (s2 : xs_S) (m2 : ms_S) (K P V : Nat → Nat) (W : Nat → Int64) (N : Nat), xf_8_scan s = some s2 ∧ mf_cut m = some m2 ∧ xsH [21] [3, 4] [5] s s2 ∧ msH [10] [5, 6, 7] [8] m m2 ∧ gTok K P V W N s2 m2 := by
  obtain ⟨q, hq⟩ := gSk_ex (q := fun i => gIb (B i)) (z := z) z 0 (by omega)
  have hs0 : gBy B z (xs_sI s 21 0) := hs.mv rfl rfl
  have hm0 : gBz B z (ms_sI m 10 0) := hm.mv rfl rfl
  obtain ⟨s2, m2, K2, P2, V2, W2, N, y1, y2, y3, y4, y5⟩ := e_scan (z - q) q 0 (xs_sI s 21 0) (ms_sI m 10 0) (fun _ => 0) (fun _ => 0) (fun _ => 0) (fun _ => 0) (by have := hq.2.1; omega) hs0 hm0 hY hq.2.2.2 (by omega) rfl rfl ⟨fun i j _ hj => by omega, fun i hi => by omega⟩
  refine ⟨s2, m2, K2, P2, V2, W2, N, ?_, ?_, ((xsF.sI (Ki := [21]) (Ka := []) (by decide)).h (by decide) (by decide)).tr y3, (show msH [10] [5, 6, 7] [8] m (ms_sI m 10 0) from ⟨fun j hj => mm_up_ne (fun e => hj (by rw [e]; decide)), fun _ _ => rfl, fun _ _ => rfl⟩).tr y4, y5⟩
  · unfold xf_8_scan
    rw [show xf_8_afterBlanks (xs_sI s 21 0) 0 = some (nI q, xs_sI s 21 0) from x_blanks hs0 hq]
    exact y1
  · have e : mCt 0 (ms_sI m 10 0) = mCt (nI q) (ms_sI m 10 0) := by
      unfold mCt
      rw [show mo_loop mf_cut_l5 ((0 : Int32), ms_sI m 10 0) = mo_loop mf_cut_l5 (nI q, ms_sI m 10 0) from m_blanks hm0 (n := 0) rfl (by omega) q 0 (by omega) hq]
    have y2 := e.trans y2
    unfold mf_cut
    exact y2
