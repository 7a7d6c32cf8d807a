/-! reading: one token, all tokens -/
noncomputable def mTk (m : ms_S) (n : Nat) (k p v : Int32) (w : Int64) : ms_S := ms_sL (ms_sA (ms_sA (ms_sA (ms_sI m 10 (nI (n + 1))) 5 (upd (m.2.1 5) n k)) 6 (upd (m.2.1 6) n p)) 7 (upd (m.2.1 7) n v)) 8 (vp_updL (m.2.2 8) n w)
noncomputable def xPt (s : xs_S) (n : Nat) (k p : Int32) (v : Int64) : xs_S := xs_sL (xs_sA (xs_sA (xs_sI s 21 (nI (n + 1))) 3 (upd (s.2.1 3) n k)) 4 (upd (s.2.1 4) n p)) 5 (vp_updL (s.2.2.1 5) n v)
theorem m_token {m : ms_S} {n : Nat} {k p v : Int32} {w : Int64} (h : m.1 10 = nI n) (hn : n < 403) : mf_token m k p v w = some (mTk m n k p v w) := by
  refine wO_iff.mp ?_
  unfold mf_token
  rw [h]
  refine wO_in (k := n) rfl hn (by omega) (wO_in (k := n) rfl hn (by omega) (wO_in (k := n) rfl hn (by omega) (wO_in (k := n) rfl hn (by omega) (wO_some ?_))))
  rw [nI_clamp (by omega), nI_1]
  rfl
theorem x_put {s : xs_S} {n : Nat} {k p : Int32} {v : Int64} (h : s.1 21 = nI n) (hn : n < 402) : xf_8_put s k p v = some (xPt s n k p v) := by
  refine wO_iff.mp ?_
  unfold xf_8_put
  rw [h]
  refine wO_neg (show ¬ nI 402 ≤ nI n from nI_ge (by omega) (by omega)) (wO_in (k := n) rfl hn (by omega) (wO_in (k := n) rfl hn (by omega) (wO_in (k := n) rfl hn (by omega) (wO_some ?_))))
  rw [nI_clamp (by omega), nI_1]
  rfl
theorem mTk_h {m : ms_S} {n : Nat} {k p v : Int32} {w : Int64} : msH [10] [5, 6, 7] [8] m (mTk m n k p v w) := by
  refine ⟨fun j hj => mm_up_ne (fun e => hj (by rw [e]; decide)), fun j hj => ?_, fun j hj => mm_up_ne (fun e => hj (by rw [e]; decide))⟩
  show mm_up (mm_up (mm_up m.2.1 5 _) 6 _) 7 _ j = m.2.1 j
  rw [mm_up_ne (fun e => hj (by rw [e]; decide)), mm_up_ne (fun e => hj (by rw [e]; decide)), mm_up_ne (fun e => hj (by rw [e]; decide))]
theorem xPt_h {s : xs_S} {n : Nat} {k p : Int32} {v : Int64} : xsH [21] [3, 4] [5] s (xPt s n k p v) := by
  refine ⟨fun j hj => mm_up_ne (fun e => hj (by rw [e]; decide)), fun j hj => ?_, fun j hj => mm_up_ne (fun e => hj (by rw [e]; decide)), rfl⟩
  show mm_up (mm_up s.2.1 3 _) 4 _ j = s.2.1 j
  rw [mm_up_ne (fun e => hj (by rw [e]; decide)), mm_up_ne (fun e => hj (by rw [e]; decide))]
theorem gIb_n : ∀ b, b < 256 → gIb b = false → ¬ nI b = (9 : Int32) ∧ ¬ nI b = (10 : Int32) ∧ ¬ nI b = (13 : Int32) ∧ ¬ nI b = (32 : Int32) := by decide +kernel
theorem gIb_y : ∀ b, b < 256 → gIb b = true → nI b = (9 : Int32) ∨ nI b = (10 : Int32) ∨ nI b = (13 : Int32) ∨ nI b = (32 : Int32) := by decide +kernel
theorem gVdt_lt {B : Nat → Nat} {p : Nat} : ∀ n, (∀ i, i < n → B (p + i) - 48 ≤ 9) → gVdt B p n < 10 ^ n
  | 0, _ => (show 0 < 1 by omega)
  | n + 1, h => by
    have := gVdt_lt n (fun i hi => h i (by omega))
    have := h n (by omega)
    show 10 * gVdt B p n + (B (p + n) - 48) < 10 ^ (n + 1)
    rw [Nat.pow_succ]
    omega
theorem gSk_1 {q : Nat → Bool} {z p e : Nat} (h : q p = true) (k : gSk q z (p + 1) e) : gSk q z p e := ⟨by have := k.1; omega, k.2.1, fun i h1 h2 => by
  by_cases c : i = p
  · rw [c]; exact h
  · exact k.2.2.1 i (by omega) h2, k.2.2.2⟩
/-- the token at p: kind, numbers; the class's -/
def gTkn (B : Nat → Nat) (z p e kk : Nat) : Prop := (gIl (B p) = true ∧ gSk (fun i => gIl (B i)) z p e ∧ ((e - p ≤ 8 ∧ gWh B p (e - p) kk) ∨ (8 < e - p ∧ kk = 33))) ∨ (gId (B p) = true ∧ gSk (fun i => gId (B i)) z p e ∧ ((e - p ≤ 4 ∧ kk = 22) ∨ (4 < e - p ∧ kk = 33))) ∨ (gIl (B p) = false ∧ gId (B p) = false ∧ e = p + 1 ∧ kk = gSg (B p))
theorem gTkn_ex {B : Nat → Nat} {z p e : Nat} (h : gEnd B z p e) : ∃ kk, gTkn B z p e kk := by
  rcases h with ⟨k1, k2⟩ | ⟨k1, k2⟩ | ⟨k1, k2, k3⟩
  · have sk := gSk_1 (q := fun i => gIl (B i)) k1 k2
    by_cases c : e - p ≤ 8
    · obtain ⟨kk, hk⟩ := gWh_ex (B := B) (p := p) (n := e - p) c (fun i hi => sk.2.2.1 (p + i) (by omega) (by omega))
      exact ⟨kk, Or.inl ⟨k1, sk, Or.inl ⟨c, hk⟩⟩⟩
    · exact ⟨33, Or.inl ⟨k1, sk, Or.inr ⟨by omega, rfl⟩⟩⟩
  · have sk := gSk_1 (q := fun i => gId (B i)) k1 k2
    by_cases c : e - p ≤ 4
    · exact ⟨22, Or.inr (Or.inl ⟨k1, sk, Or.inl ⟨c, rfl⟩⟩)⟩
    · exact ⟨33, Or.inr (Or.inl ⟨k1, sk, Or.inr ⟨by omega, rfl⟩⟩)⟩
  · exact ⟨_, Or.inr (Or.inr ⟨k1, k2, k3, rfl⟩)⟩
theorem gTkn_lt {B : Nat → Nat} {z p e kk : Nat} (hb : B p < 256) (h : gTkn B z p e kk) : kk < 34 ∧ ¬ kk = 32 := by
  rcases h with ⟨-, -, ⟨-, q⟩ | ⟨-, q⟩⟩ | ⟨-, -, ⟨-, q⟩ | ⟨-, q⟩⟩ | ⟨-, -, -, q⟩
  · have := q.1; omega
  · omega
  · omega
  · omega
  · have := gSg_lt _ hb
    omega
theorem x_kindOf {B : Nat → Nat} {z p e kk : Nat} {s : xs_S} (h : gBy B z s) (hp : p < e) (he : e ≤ z) (k : gTkn B z p e kk) : xf_8_kindOf s (nI p) (nI e) = some (nI kk, s) := by
  have hz := h.1
  obtain ⟨b1, b2⟩ := h.2.2 p (by omega)
  have es : nI e - nI p = nI (e - p) := pu_sub (by omega)
  refine wO_iff.mp ?_
  unfold xf_8_kindOf
  refine wO_agv (k := p) rfl (by omega) (by omega) b2 (wO_eq (x_lett _ b1) ?_)
  rcases k with ⟨k1, k2, k3⟩ | ⟨k1, k2, k3⟩ | ⟨k1, k2, k3, k4⟩
  · rw [k1, es]
    refine wO_neg (by decide) ?_
    rcases k3 with ⟨c, q⟩ | ⟨c, q⟩
    · exact wO_pos (show nI (e - p) ≤ nI 8 from nI_le c (by omega)) (wO_eq (x_kindL h hp he c k2.2.2.1 q) (wO_some rfl))
    · exact wO_neg (show ¬ nI (e - p) ≤ nI 8 from nI_ge c (by omega)) (wO_some (by rw [q]; rfl))
  · rw [(gSb8_d _ b1 k1).2.2.2, es]
    refine wO_pos rfl (wO_agv (k := p) rfl (by omega) (by omega) b2 (wO_eq (x_digi _ b1) ?_))
    rw [k1]
    refine wO_neg (by decide) ?_
    rcases k3 with ⟨c, q⟩ | ⟨c, q⟩
    · exact wO_pos (show nI (e - p) ≤ nI 4 from nI_le c (by omega)) (wO_some (by rw [q]; rfl))
    · exact wO_neg (show ¬ nI (e - p) ≤ nI 4 from nI_ge c (by omega)) (wO_some (by rw [q]; rfl))
  · rw [k1]
    refine wO_pos rfl (wO_agv (k := p) rfl (by omega) (by omega) b2 (wO_eq (x_digi _ b1) ?_))
    rw [k2]
    refine wO_pos rfl (wO_agv (k := p) rfl (by omega) (by omega) b2 ?_)
    have t := gSg_x _ b1
    rw [← k4] at t
    by_cases c : (0 : Int32) ≤ (xs_ix (((gSb8 (B p) &&& (255 : Int32))).toUInt32 % 65536).toInt32)
    · rw [if_pos c] at t
      exact wO_pos c (wO_some (by rw [t]))
    · rw [if_neg c] at t
      exact wO_neg c (wO_some (by rw [← t]))
/-- the reference's step at a token -/
theorem m_cutk {B : Nat → Nat} {z p e kk n : Nat} {m : ms_S} (h : gBz B z m) (hY : RY m) (hp : p < e) (he : e ≤ z) (hb : gIb (B p) = false) (h10 : m.1 10 = nI n) (hn : n ≤ 400) (k : gTkn B z p e kk) : ∃ vi vw, mf_cut_l5 (nI p, m) = some (.inl (nI e, mTk m n (nI (gMk2 kk)) (nI p) vi vw)) ∧ (kk = 22 → gId (B p) = true → vi = nI (gVdt B p (e - p))) ∧ (kk ≤ 21 → vw = Int64.ofNat (gVlt B p (e - p))) := by
  have hz := h.1
  obtain ⟨b1, b2⟩ := h.2.2 p (by omega)
  obtain ⟨n1, n2, n3, n4⟩ := gIb_n _ b1 hb
  have e1 : nI p + nI (e - p) = nI e := by rw [nI_add]; congr 1; omega
  have pre : ∀ Q, wO ((mf_isLetter (nI (B p))).bind fun v_8 => (if v_8 = (0 : Int32) then ((mf_isDigit (nI (B p))).bind fun v_10 => (if v_10 = (0 : Int32) then ((mf_byteAt m ((nI p + (1 : Int32)))).bind fun (v_12, s_12) => ((mf_sign s_12 (nI p) (nI (B p)) (v_12)).bind fun (v_13, s_13) => (mf_cut_j164 (s_13) ((nI p + v_13))))) else ((mo_loop (mf_cut_l112 (nI p)) ((0 : Int32), (0 : Int32), m)).bind fun (e3_19, e4_19, s_19) => (if e3_19 ≤ (4 : Int32) then (mf_cut_j143 (s_19) (nI p) (e3_19) (e4_19) ((2 : Int32))) else (mf_cut_j143 (s_19) (nI p) (e3_19) (e4_19) ((3 : Int32))))))) else ((mo_loop (mf_cut_l46 (nI p)) ((0 : Int32), (0 : Int64), m)).bind fun (e3_28, e4_28, s_28) => (if e3_28 ≤ (8 : Int32) then (mf_cut_j72 (s_28) (nI p) (e3_28) (e4_28) ((1 : Int32))) else (mf_cut_j72 (s_28) (nI p) (e3_28) (e4_28) ((3 : Int32))))))) Q → wO (mf_cut_l5 (nI p, m)) Q := by
    intro Q hQ
    unfold mf_cut_l5
    exact wO_neg (by rw [h10]; exact (show ¬ nI 400 < nI n from nI_nlt (by omega) (by omega))) (wO_eq (m_byte h (by omega)) (wO_pos (by rw [h.2.1]; exact nI_lt (by omega) (by omega)) (wO_neg n1 (wO_neg n2 (wO_neg n3 (wO_neg n4 hQ))))))
  have g33 : (3 : Int32) = nI (gMk2 33) := by decide
  rcases k with ⟨k1, k2, k3⟩ | ⟨k1, k2, k3⟩ | ⟨k1, k2, k3, k4⟩
  · have ll := m_letters h hp k2
    have hl : ∀ i, i < e - p → gIl (B (p + i)) = true := fun i hi => k2.2.2.1 (p + i) (by omega) (by omega)
    have j94 : ∀ v, wO (mf_cut_j94 m (nI p) (nI (e - p)) (Int64.ofNat (gVlt B p (min (e - p) 8))) v) (fun r => r = .inl (nI e, mTk m n v (nI p) 0 (Int64.ofNat (gVlt B p (min (e - p) 8))))) := by
      intro v
      unfold mf_cut_j94 mf_cut_j164
      exact wO_eq (m_token h10 (by omega)) (wO_some (by rw [e1]))
    rcases k3 with ⟨c, q⟩ | ⟨c, q⟩
    · refine ⟨0, Int64.ofNat (gVlt B p (min (e - p) 8)), wO_iff.mp (pre _ (wO_eq (m_lett _ b1) ?_)), fun q => ?_, fun _ => ?_⟩
      rotate_left
      · intro w
        rw [(gSb8_d _ b1 w).2.2.2] at k1
        cases k1
      · rw [show min (e - p) 8 = e - p by omega]
      rw [k1]
      refine wO_neg (by decide) (wO_eq ll (wO_pos (show nI (e - p) ≤ nI 8 from nI_le c (by omega)) ?_))
      unfold mf_cut_j72
      refine wO_neg (show ¬ nI 8 < nI (e - p) from nI_nlt c (by omega)) ?_
      have kl := m_kindL (a := nI p) (b := nI (e - p)) hY c hl q
      rw [show min (e - p) 8 = e - p by omega] at j94 ⊢
      exact wO_eq kl (j94 _)
    · refine ⟨0, Int64.ofNat (gVlt B p (min (e - p) 8)), wO_iff.mp (pre _ (wO_eq (m_lett _ b1) ?_)), fun w => by omega, fun w => by omega⟩
      rw [k1, q, ← g33]
      refine wO_neg (by decide) (wO_eq ll (wO_neg (show ¬ nI (e - p) ≤ nI 8 from nI_ge c (by omega)) ?_))
      unfold mf_cut_j72
      exact wO_pos (show nI 8 < nI (e - p) from nI_lt c (by omega)) (j94 _)
  · have ll := m_digits h hp k2
    have j143 : ∀ v, wO (mf_cut_j143 m (nI p) (nI (e - p)) (nI (gVdt B p (min (e - p) 4))) v) (fun r => r = .inl (nI e, mTk m n v (nI p) (nI (gVdt B p (min (e - p) 4))) 0)) := by
      intro v
      unfold mf_cut_j143 mf_cut_j164
      exact wO_eq (m_token h10 (by omega)) (wO_some (by rw [e1]))
    refine ⟨nI (gVdt B p (min (e - p) 4)), 0, wO_iff.mp (pre _ (wO_eq (m_lett _ b1) ?_)), fun q _ => ?_, fun w => ?_⟩
    · rw [(gSb8_d _ b1 k1).2.2.2]
      refine wO_pos rfl (wO_eq (m_digi _ b1) ?_)
      rw [k1]
      refine wO_neg (by decide) (wO_eq ll ?_)
      rcases k3 with ⟨c, q⟩ | ⟨c, q⟩
      · rw [q]
        exact wO_pos (show nI (e - p) ≤ nI 4 from nI_le c (by omega)) (j143 _)
      · rw [q]
        exact wO_neg (show ¬ nI (e - p) ≤ nI 4 from nI_ge c (by omega)) (j143 _)
    · rcases k3 with ⟨c, q⟩ | ⟨c, q⟩
      · rw [show min (e - p) 4 = e - p by omega]
      · omega
    · rcases k3 with ⟨c, q⟩ | ⟨c, q⟩
      · omega
      · omega
  · have hs := gSg_lt _ b1
    refine ⟨0, 0, wO_iff.mp (pre _ (wO_eq (m_lett _ b1) ?_)), fun q w => (by rw [k2] at w; cases w), fun w => by omega⟩
    rw [k1]
    refine wO_pos rfl (wO_eq (m_digi _ b1) ?_)
    rw [k2]
    have by1 : ∃ v, mf_byteAt m (nI p + (1 : Int32)) = some (v, m) := by
      rw [nI_1]
      by_cases c : p + 1 < z
      · exact ⟨_, m_byte h c⟩
      · exact ⟨_, m_byte0 h (by omega) (by omega)⟩
    obtain ⟨v, hv⟩ := by1
    refine wO_pos rfl (wO_eq hv (wO_eq (m_sign b1 (m_token h10 (by omega))) ?_))
    unfold mf_cut_j164
    refine wO_some ?_
    rw [k4, k3, nI_1]
/-- the reference goes over blanks -/
theorem m_blanks {B : Nat → Nat} {z n q : Nat} {m : ms_S} (h : gBz B z m) (h10 : m.1 10 = nI n) (hn : n ≤ 400) : ∀ r p, r + p = q → gSk (fun i => gIb (B i)) z p q → mo_loop mf_cut_l5 (nI p, m) = mo_loop mf_cut_l5 (nI q, m) := by
  have hz := h.1
  intro r
  induction r with
  | zero =>
    intro p hp _
    rw [show p = q by omega]
  | succ r ih =>
    intro p hp k
    obtain ⟨k1, k2, k3, k4⟩ := k
    obtain ⟨b1, b2⟩ := h.2.2 p (by omega)
    have st : mf_cut_l5 (nI p, m) = some (.inl (nI (p + 1), m)) := by
      have j37 : wO (mf_cut_j37 m (nI p)) (fun r => r = .inl (nI (p + 1), m)) := by
        unfold mf_cut_j37 mf_cut_j164
        rw [nI_1]
        exact wO_some rfl
      refine wO_iff.mp ?_
      unfold mf_cut_l5
      refine wO_neg (by rw [h10]; exact (show ¬ nI 400 < nI n from nI_nlt (by omega) (by omega))) (wO_eq (m_byte h (by omega)) (wO_pos (by rw [h.2.1]; exact nI_lt (by omega) (by omega)) ?_))
      have hb := gIb_y _ b1 (k3 p (Nat.le_refl _) (by omega))
      by_cases c1 : nI (B p) = (9 : Int32)
      · exact wO_pos c1 j37
      refine wO_neg c1 ?_
      by_cases c2 : nI (B p) = (10 : Int32)
      · exact wO_pos c2 j37
      refine wO_neg c2 ?_
      by_cases c3 : nI (B p) = (13 : Int32)
      · exact wO_pos c3 j37
      refine wO_neg c3 (wO_pos ?_ j37)
      rcases hb with q | q | q | q
      · exact absurd q c1
      · exact absurd q c2
      · exact absurd q c3
      · exact q
    rw [mo_loop_inl st]
    exact ih (p + 1) (by omega) ⟨by omega, k2, fun i h1 h2 => k3 i (by omega) h2, k4⟩
noncomputable def mCt (p : Int32) (m : ms_S) : Option ms_S := (mo_loop mf_cut_l5 (p, m)).bind fun x_36 => match x_36 with
  | (.inl s_36) => ((mf_token s_36 ((0 : Int32)) ((s_36.1 4)) ((0 : Int32)) ((0 : Int64))).bind fun s_37 => some s_37)
  | (.inr s_36) => some s_36
noncomputable def xSt (p n : Int32) (s : xs_S) : Option xs_S := (mo_loop xf_8_scan_l9 (p, n, s)).bind fun x_11 => match x_11 with
  | (.inl s_11) => some s_11
  | (.inr (e1_11, s_11)) => (xf_8_scan_j43 (s_11) (e1_11))
theorem mCt_full {p : Int32} {m : ms_S} (h10 : m.1 10 = nI 401) : mCt p m = some m := by
  unfold mCt
  rw [mo_loop_inr (x := .inr m) (wO_iff.mp (by
    unfold mf_cut_l5
    exact wO_pos (by rw [h10]; decide) (wO_some rfl)))]
  rfl
theorem mCt_end {B : Nat → Nat} {z n : Nat} {m : ms_S} (h : gBz B z m) (h10 : m.1 10 = nI n) (hn : n ≤ 400) : mCt (nI z) m = some (mTk m n 0 (nI z) 0 0) := by
  have hz := h.1
  unfold mCt
  rw [mo_loop_inr (x := .inl m) (wO_iff.mp (by
    unfold mf_cut_l5
    exact wO_neg (by rw [h10]; exact (show ¬ nI 400 < nI n from nI_nlt (by omega) (by omega))) (wO_eq (m_byte0 h (Nat.le_refl _) (by omega)) (wO_neg (by rw [h.2.1]; exact nI_nlt (Nat.le_refl _) (by omega)) (wO_some rfl)))))]
  show (mf_token m 0 (m.1 4) 0 0).bind _ = _
  rw [h.2.1, m_token h10 (by omega)]
  rfl
/-- whatever comes, the reference's cut ends, and what it has cut stays -/
theorem m_rest {B : Nat → Nat} {z : Nat} : ∀ r p n, ∀ m : ms_S, r + p = z → gBz B z m → RY m → m.1 10 = nI n → n ≤ 401 → ∃ m2, mCt (nI p) m = some m2 ∧ msH [10] [5, 6, 7] [8] m m2 ∧ ∀ i, i < n → m2.2.1 5 i = m.2.1 5 i ∧ m2.2.1 6 i = m.2.1 6 i ∧ m2.2.1 7 i = m.2.1 7 i ∧ m2.2.2 8 i = m.2.2 8 i := by
  intro r
  induction r using Nat.strongRecOn with
  | ind r ih =>
    intro p n m hr h hY h10 hn
    have up : ∀ k q v w, msH [10] [5, 6, 7] [8] m (mTk m n k q v w) ∧ ∀ i, i < n → (mTk m n k q v w).2.1 5 i = m.2.1 5 i ∧ (mTk m n k q v w).2.1 6 i = m.2.1 6 i ∧ (mTk m n k q v w).2.1 7 i = m.2.1 7 i ∧ (mTk m n k q v w).2.2 8 i = m.2.2 8 i := fun k q v w => ⟨mTk_h, fun i hi => ⟨upd_ne (by omega), upd_ne (by omega), upd_ne (by omega), uL_ne (by omega)⟩⟩
    by_cases c1 : n = 401
    · subst c1
      exact ⟨m, mCt_full h10, msH.rf, fun i _ => ⟨rfl, rfl, rfl, rfl⟩⟩
    obtain ⟨q, hq⟩ := gSk_ex (q := fun i => gIb (B i)) (z := z) (z - p) p (by omega)
    have hsk : mCt (nI p) m = mCt (nI q) m := by
      unfold mCt
      rw [m_blanks h h10 (by omega) (q - p) p (by have := hq.1; omega) hq]
    rw [hsk]
    obtain ⟨q1, q2, q3, q4⟩ := hq
    by_cases c2 : q = z
    · subst c2
      exact ⟨_, mCt_end h h10 (by omega), (up _ _ _ _).1, (up _ _ _ _).2⟩
    obtain ⟨e, e1, e2, e3⟩ := gEnd_ex (B := B) (show q < z by omega)
    obtain ⟨kk, hk⟩ := gTkn_ex e3
    obtain ⟨vi, vw, st, -, -⟩ := m_cutk h hY e1 e2 (q4 (by omega)) h10 (by omega) hk
    have hstep : mCt (nI q) m = mCt (nI e) (mTk m n (nI (gMk2 kk)) (nI q) vi vw) := by
      unfold mCt
      rw [mo_loop_inl st]
    rw [hstep]
    obtain ⟨u1, u2⟩ := up (nI (gMk2 kk)) (nI q) vi vw
    have hY2 : RY (mTk m n (nI (gMk2 kk)) (nI q) vi vw) := hY
    obtain ⟨m2, y1, y2, y3⟩ := ih (z - e) (by omega) e (n + 1) _ (by omega) (h.mv (u1.1 4 (by decide)) (u1.2.1 3 (by decide))) hY2 rfl (by omega)
    refine ⟨m2, y1, u1.tr y2, fun i hi => ?_⟩
    obtain ⟨a1, a2, a3, a4⟩ := y3 i (by omega)
    obtain ⟨b1, b2, b3, b4⟩ := u2 i hi
    exact ⟨a1.trans b1, a2.trans b2, a3.trans b3, a4.trans b4⟩
