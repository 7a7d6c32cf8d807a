/-! reading: one statement -/
noncomputable def xOne (v_7 w2 : Int32) (s_7 : xs_S) : Option ((Int32 × xs_S) ⊕ xs_S) :=
(if v_7 = (0 : Int32) then
((xf_6_tellSpeaker s_7 ).bind fun s_9 =>
(xf_6_readInto_17_u_j65 (s_9) (w2)))
else
(if v_7 = (1 : Int32) then
((xf_6_tellWord s_7 ).bind fun s_10 =>
(xf_6_readInto_17_u_j65 (s_10) (w2)))
else
(if v_7 = (2 : Int32) then
((xf_6_tellPair s_7 ).bind fun s_11 =>
(xf_6_readInto_17_u_j65 (s_11) (w2)))
else
(if v_7 = (3 : Int32) then
(xf_6_readInto_17_u_j63 (s_7) (w2))
else
(if v_7 = (4 : Int32) then
(xf_6_readInto_17_u_j63 (s_7) (w2))
else
(if v_7 = (5 : Int32) then
(xf_6_readInto_17_u_j63 (s_7) (w2))
else
(if v_7 = (6 : Int32) then
(xf_6_readInto_17_u_j63 (s_7) (w2))
else
(if v_7 = (7 : Int32) then
((xf_6_tellNumber s_7 ((7 : Int32)) ((1 : Int32)) ((19 : Int32))).bind fun (v_12, s_12) =>
(xf_6_readInto_17_u_j65 ((xs_sI s_12 279 (v_12))) (w2)))
else
(if v_7 = (8 : Int32) then
((xf_6_tellNumber s_7 ((8 : Int32)) ((0 : Int32)) ((9999 : Int32))).bind fun (v_13, s_13) =>
(xf_6_readInto_17_u_j65 ((xs_sI s_13 280 (v_13))) (w2)))
else
(xf_6_readInto_17_u_j63 (s_7) (w2)))))))))))
noncomputable def mOne (x_1 : Int32) (s : ms_S) : Option ms_S :=
(if x_1 = (20 : Int32) then
((mo_ag 2 (s.2.1 23) (s.1 19)).bind fun x_3 =>
((mf_roomFor s (x_3) ((5 : Int32))).bind fun s_4 =>
(if (s_4.1 13) ≤ (0 : Int32) then
((mf_named s_4 ).bind fun (v_6, s_6) =>
((mo_ag 2 (s_6.2.1 23) (s_6.1 19)).bind fun x_7 =>
((mf_bounded s_6 ((0 : Int32)) ((9 : Int32))).bind fun (v_8, s_8) =>
(bif mo_in (((5 : Int32) * (s_6.1 19)) + x_7) 10 then ((mo_ag 2 (s_8.2.1 23) (s_8.1 19)).bind fun x_10 =>
((mf_endsName (ms_sA s_8 24 (upd (s_8.2.1 24) ((((5 : Int32) * (s_6.1 19)) + x_7)).toNatClampNeg (v_8))) (v_6) (x_10)).bind fun s_11 =>
(if (s_11.1 13) = (0 : Int32) then
((mo_ag 2 (s_11.2.1 23) (s_11.1 19)).bind fun x_13 =>
(bif mo_in (s_11.1 19) 2 then some (ms_sA s_11 23 (upd (s_11.2.1 23) ((s_11.1 19)).toNatClampNeg ((x_13 + (1 : Int32))))) else none))
else
some s_11))) else none))))
else
some s_4)))
else
(if x_1 = (21 : Int32) then
((mo_ag 2 (s.2.1 25) (s.1 19)).bind fun x_15 =>
((mf_roomFor s (x_15) ((6 : Int32))).bind fun s_16 =>
(if (s_16.1 13) ≤ (0 : Int32) then
((mf_named s_16 ).bind fun (v_18, s_18) =>
((mo_ag 2 (s_18.2.1 25) (s_18.1 19)).bind fun x_19 =>
((mf_bounded s_18 ((0 : Int32)) ((9 : Int32))).bind fun (v_20, s_20) =>
(bif mo_in (((6 : Int32) * (s_18.1 19)) + x_19) 12 then ((mf_endsName (ms_sA s_20 26 (upd (s_20.2.1 26) ((((6 : Int32) * (s_18.1 19)) + x_19)).toNatClampNeg (v_20))) (v_18) ((10 : Int32))).bind fun s_22 =>
(if (s_22.1 13) = (0 : Int32) then
((mo_ag 2 (s_22.2.1 25) (s_22.1 19)).bind fun x_24 =>
(bif mo_in (s_22.1 19) 2 then some (ms_sA s_22 25 (upd (s_22.2.1 25) ((s_22.1 19)).toNatClampNeg ((x_24 + (1 : Int32))))) else none))
else
some s_22)) else none))))
else
some s_16)))
else
(if x_1 = (22 : Int32) then
((mf_goesOn s ).bind fun s_26 =>
((mf_known s_26 ).bind fun (v_27, s_27) =>
(bif mo_in (s_26.1 19) 2 then ((mf_known (ms_sA s_27 27 (upd (s_27.2.1 27) ((s_26.1 19)).toNatClampNeg (v_27))) ).bind fun (v_29, s_29) =>
(bif mo_in (s_27.1 19) 2 then (if (s_29.1 13) = (0 : Int32) then
((mo_ag 2 (s_29.2.1 27) (s_29.1 19)).bind fun x_32 =>
(if x_32 < (0 : Int32) then
(mf_tellOne_j151 ((ms_sA s_29 28 (upd (s_29.2.1 28) ((s_27.1 19)).toNatClampNeg (v_29)))))
else
((mo_ag 2 (s_29.2.1 27) (s_29.1 19)).bind fun x_35 =>
((mo_ag 2 (upd (s_29.2.1 28) ((s_27.1 19)).toNatClampNeg (v_29)) (s_29.1 19)).bind fun x_36 =>
(if x_35 = x_36 then
((mf_wrong (ms_sA s_29 28 (upd (s_29.2.1 28) ((s_27.1 19)).toNatClampNeg (v_29))) ((3 : Int32)) ((s_27.1 11))).bind fun s_38 =>
(mf_tellOne_j151 (s_38)))
else
(mf_tellOne_j151 ((ms_sA s_29 28 (upd (s_29.2.1 28) ((s_27.1 19)).toNatClampNeg (v_29))))))))))
else
(mf_tellOne_j151 ((ms_sA s_29 28 (upd (s_29.2.1 28) ((s_27.1 19)).toNatClampNeg (v_29)))))) else none)) else none)))
else
(if x_1 = (23 : Int32) then
(mf_tellOne_j185 (s))
else
(if x_1 = (24 : Int32) then
(mf_tellOne_j185 (s))
else
(if x_1 = (25 : Int32) then
(mf_tellOne_j185 (s))
else
(if x_1 = (26 : Int32) then
(mf_tellOne_j185 (s))
else
(if x_1 = (27 : Int32) then
((mf_goesOn s ).bind fun s_47 =>
((mf_bounded s_47 ((1 : Int32)) ((19 : Int32))).bind fun (v_48, s_48) =>
(bif mo_in (s_47.1 19) 2 then ((mf_must (ms_sA s_48 29 (upd (s_48.2.1 29) ((s_47.1 19)).toNatClampNeg (v_48))) ((4 : Int32))).bind fun s_50 =>
some s_50) else none)))
else
(if x_1 = (28 : Int32) then
((mf_goesOn s ).bind fun s_51 =>
((mf_bounded s_51 ((0 : Int32)) ((9999 : Int32))).bind fun (v_52, s_52) =>
(bif mo_in (s_51.1 19) 2 then ((mf_must (ms_sA s_52 30 (upd (s_52.2.1 30) ((s_51.1 19)).toNatClampNeg (v_52))) ((4 : Int32))).bind fun s_54 =>
some s_54) else none)))
else
(mf_tellOne_j185 (s)))))))))))
def gPr (ns sd : Nat) (s : xs_S) (m : ms_S) : Prop := (s.1 277 = -1 ∧ s.1 278 = -1 ∧ m.2.1 27 sd = -2 ∧ m.2.1 28 sd = -2) ∨ ∃ o1 o2, s.1 277 = gOi o1 ∧ s.1 278 = gOi o2 ∧ m.2.1 27 sd = gOi o1 ∧ m.2.1 28 sd = gOi o2 ∧ (m.1 15 = 0 → ∃ a b, o1 = some a ∧ o2 = some b ∧ a < ns ∧ b < ns ∧ ¬ a = b)
/-- what was told so far, the same on both sides -/
def gSay (sd ns nw : Nat) (s : xs_S) (m : ms_S) : Prop := gNm ns nw s m ∧ m.2.1 23 sd = nI ns ∧ m.2.1 25 sd = nI nw ∧ (∀ i, i < ns → ∃ v, s.2.1 18 i = nI v ∧ m.2.1 24 (5 * sd + i) = nI v ∧ (m.1 15 = 0 → v ≤ 9)) ∧ (∀ i, i < nw → ∃ v, s.2.1 19 i = nI v ∧ m.2.1 26 (6 * sd + i) = nI v ∧ (m.1 15 = 0 → v ≤ 9)) ∧ gPr ns sd s m ∧ (∃ v, s.1 279 = nI v ∧ m.2.1 29 sd = nI v ∧ (m.1 15 = 0 → 1 ≤ v ∧ v ≤ 19)) ∧ ∃ v, s.1 280 = nI v ∧ m.2.1 30 sd = nI v ∧ (m.1 15 = 0 → v ≤ 9999)
def gRd (K P V : Nat → Nat) (W : Nat → Int64) (N sd t z c B ns nw : Nat) (LW : Nat → Option gLd) (s : xs_S) (m : ms_S) : Prop := gLpp K P V W N sd t z c B s m ∧ z ≤ t ∧ 4 * B ≤ 520 * sd + t ∧ 130 * sd ≤ B ∧ m.1 19 = nI sd ∧ (∀ i, i < 4 → gXLk z i (LW i) (s.2.1 22) (s.2.1 21)) ∧ (∀ i, i < 4 → gMLb sd c B i (LW i) m) ∧ gNo P t s m ∧ gSay sd ns nw s m
theorem gPr.mv {ns ns2 sd : Nat} {s s2 : xs_S} {m m2 : ms_S} (h : gPr ns sd s m) (hn : ns ≤ ns2) (h1 : s2.1 277 = s.1 277) (h2 : s2.1 278 = s.1 278) (h3 : m2.2.1 27 = m.2.1 27) (h4 : m2.2.1 28 = m.2.1 28) (hq : q15 m m2) : gPr ns2 sd s2 m2 := by
  unfold gPr
  rw [h1, h2, h3, h4]
  rcases h with h | ⟨o1, o2, a1, a2, a3, a4, a5⟩
  · exact Or.inl h
  · refine Or.inr ⟨o1, o2, a1, a2, a3, a4, fun e => ?_⟩
    obtain ⟨a, b, b1, b2, b3, b4, b5⟩ := a5 (hq e)
    exact ⟨a, b, b1, b2, by omega, by omega, b5⟩
theorem gRd.go {K P V : Nat → Nat} {W : Nat → Int64} {N sd t t2 z c B ns nw ns2 nw2 : Nat} {LW : Nat → Option gLd} {s s2 : xs_S} {m m2 : ms_S} {Ki Ka Kl Mi Ma Ml : List Nat} (h : gRd K P V W N sd t z c B ns nw LW s m) (F : xsH Ki Ka Kl s s2) (G : msH Mi Ma Ml m m2) (d1 : ∀ j, j ∈ [21, 321] → ¬ j ∈ Ki) (d2 : ∀ j, j ∈ [3, 4, 21, 22] → ¬ j ∈ Ka) (d3 : ¬ 5 ∈ Kl) (d4 : ∀ j, j ∈ [12, 19, 33, 39] → ¬ j ∈ Mi) (d5 : ∀ j, j ∈ [5, 6, 7, 31, 32, 34, 35, 36, 37, 38, 40, 41] → ¬ j ∈ Ma) (d6 : ¬ 8 ∈ Ml) (ht : t < t2) (hH : gHl N t2 s2 m2) (hN : gNo P t2 s2 m2) (hS : gSay sd ns2 nw2 s2 m2) : gRd K P V W N sd t2 z c B ns2 nw2 LW s2 m2 := by
  obtain ⟨⟨l1, l2, l3, l4, l5, l6, l7, l8, l9⟩, a1, a2, a3, a4, a5, a6, a7, a8⟩ := h
  refine ⟨⟨l1.mv (F.1 21 (d1 _ (by decide))) (F.2.1 3 (d2 _ (by decide))) (F.2.1 4 (d2 _ (by decide))) (F.2.2.1 5 d3) (G.2.1 5 (d5 _ (by decide))) (G.2.1 6 (d5 _ (by decide))) (G.2.1 7 (d5 _ (by decide))) (G.2.2 8 d6), hH, (F.1 321 (d1 _ (by decide))).trans l3, (G.1 12 (d4 _ (by decide))).trans l4, (G.1 39 (d4 _ (by decide))).trans l5, l6, by omega, (G.1 33 (d4 _ (by decide))).trans l8, l9⟩, by omega, by omega, a3, (G.1 19 (d4 _ (by decide))).trans a4, fun i hi => ?_, fun i hi => ?_, hN, hS⟩
  · rw [F.2.1 21 (d2 _ (by decide)), F.2.1 22 (d2 _ (by decide))]
    exact a5 i hi
  · refine (a6 i hi).mv (Nat.le_refl _) (Nat.le_refl _) ⟨fun j hj i _ => ?_, fun j _ => ⟨by rw [G.2.1 40 (d5 _ (by decide))], by rw [G.2.1 41 (d5 _ (by decide))]⟩⟩ (by rw [G.2.1 31 (d5 _ (by decide))]) (by rw [G.2.1 32 (d5 _ (by decide))])
    have w : ∀ k, k ∈ [34, 35, 36, 37, 38] → k ∈ [5, 6, 7, 31, 32, 34, 35, 36, 37, 38, 40, 41] := by decide
    rw [G.2.1 j (d5 j (w j hj))]
theorem q15_num {j : Nat} {m : ms_S} {a b : Int32} : qO (mNum j m a b) (q15 m) := by
  unfold mNum
  refine qO_bd q15_goesOn (fun n h => qO_bd q15_bounded (fun r hr => ?_))
  obtain ⟨v, k⟩ := r
  have hr : q15 n k := hr
  refine qO_bif (fun _ => qO_bd q15_must (fun o ho => qO_some (fun e => ?_)))
  have ho : o.1 15 = k.1 15 := ho
  exact h.symm.trans (hr (ho.symm.trans e))
def xKr : List Nat := [100, 101, 103, 104, 275, 276, 277, 278, 279, 280, 321]
def xKa : List Nat := [18, 19, 21, 22]
def mKr : List Nat := [11, 12, 13, 14, 15, 16, 20, 22, 23, 24, 25, 26, 27, 28, 29, 30, 31, 32, 33, 34, 35, 36, 37, 38, 39, 40, 41, 42, 43]
theorem x_pre {K P V : Nat → Nat} {W : Nat → Int64} {N t w : Nat} {s : xs_S} {m : ms_S} {Q : (Int32 × xs_S) ⊕ xs_S → Prop} (hT : gTok K P V W N s m) (hH : gHl N t s m) (hw : w ≤ 400) (h32 : ¬ K t = 32) (k : wO (xOne (nI (K t)) (nI w) s) Q) : wO (xf_6_readInto_17_u_l23 (nI w, s)) Q := by
  have hkd := x_kind hT hH
  have hKt := (hT.2.2.2.2 t hH.1).1
  unfold xf_6_readInto_17_u_l23
  exact wO_neg (show ¬ nI 400 < nI w from nI_nlt (by omega) (by omega)) (wO_pos hH.2.2.1 (wO_eq hkd (wO_neg (fun e => h32 ((nI_eq (b := 32) (by omega) (by omega)).mp e)) (wO_eq hkd k))))
theorem m_pre {K P V : Nat → Nat} {W : Nat → Int64} {N t : Nat} {s : xs_S} {m : ms_S} {Q : ms_S → Prop} (hT : gTok K P V W N s m) (hH : gHl N t s m) (k : wO (mOne (nI (gMk2 (K t))) m) Q) : wO (mf_tellOne m) Q := by
  have hN4 := hT.1
  have ht := hH.1
  unfold mf_tellOne
  exact wO_agv (k := t) hH.2.2.2.1 (by omega) (by omega) (hT.2.2.2.2 t hH.1).2.2.1 k
theorem x_j65 {w : Nat} {s : xs_S} : xf_6_readInto_17_u_j65 s (nI w) = some (.inl (nI (w + 1), s)) := by
  unfold xf_6_readInto_17_u_j65
  rw [nI_1]
/-- one statement that no text has -/
theorem e_none {K P V : Nat → Nat} {W : Nat → Int64} {N t w : Nat} {s : xs_S} {m : ms_S} (hT : gTok K P V W N s m) (hH : gHl N t s m) (hE : gEm1 s) (h9 : 9 ≤ K t) : ∃ s2 m2, xOne (nI (K t)) (nI w) s = some (.inl (nI (w + 1), s2)) ∧ mOne (nI (gMk2 (K t))) m = some m2 ∧ xsF [100, 101] [] s s2 ∧ msF [11, 13, 14] m m2 ∧ ∃ f p, gXb P N f p s2 ∧ gFm2 f p m2 := by
  have hKt := (hT.2.2.2.2 t hH.1).1
  have hN4 := hT.1
  have ht := hH.1
  obtain ⟨s2, x1, x2, x3⟩ := x_fail (K := K) (P := P) (V := V) (W := W) (f := 1) hH (by omega) (by omega)
  obtain ⟨m2, y1, y2, y3, -⟩ := m_fail (f := 1) hT hH (by omega) (by omega)
  refine ⟨s2, m2, wO_iff.mp ?_, wO_iff.mp ?_, x2, y2, 1, P t, gXb_of hT hE x2 x3, y3⟩
  · have ne : ∀ b, b < 9 → ¬ nI (K t) = nI b := fun b hb e => by
      have := (nI_eq (by omega) (by omega)).mp e
      omega
    unfold xOne
    refine wO_neg (ne 0 (by omega)) (wO_neg (ne 1 (by omega)) (wO_neg (ne 2 (by omega)) (wO_neg (ne 3 (by omega)) (wO_neg (ne 4 (by omega)) (wO_neg (ne 5 (by omega)) (wO_neg (ne 6 (by omega)) (wO_neg (ne 7 (by omega)) (wO_neg (ne 8 (by omega)) ?_))))))))
    unfold xf_6_readInto_17_u_j63
    refine wO_eq (x := s2) (wO_iff.mp ?_) (wO_iff.mpr x_j65)
    unfold xf_6_tellLaw
    refine wO_eq (x_kind hT hH) ?_
    have e3 : nI (K t) - (3 : Int32) = nI (K t - 3) := pu_sub (show 3 ≤ K t by omega)
    dsimp only
    rw [e3]
    refine wO_neg (show ¬ nI (K t - 3) < nI 0 from nI_nlt (by omega) (by omega)) (wO_neg (show ¬ nI (K t - 3) < nI 4 from nI_nlt (by omega) (by omega)) ?_)
    unfold xf_6_tellLaw_j10
    exact wO_eq x1 (wO_some rfl)
  · have r5 := (hT.2.2.2.2 t hH.1).2.2.1
    have h11 := hH.2.2.2.1
    have tab : ∀ k, k < 34 → 9 ≤ k → (∀ b, b < 9 → ¬ nI (gMk2 k) = nI (20 + b)) ∧ ((nI (gMk2 k) - (23 : Int32) < 0) ∨ ¬ nI (gMk2 k) ≤ (26 : Int32)) := by decide
    obtain ⟨ne, q⟩ := tab (K t) hKt h9
    unfold mOne
    refine wO_neg (ne 0 (by omega)) (wO_neg (ne 1 (by omega)) (wO_neg (ne 2 (by omega)) (wO_neg (ne 3 (by omega)) (wO_neg (ne 4 (by omega)) (wO_neg (ne 5 (by omega)) (wO_neg (ne 6 (by omega)) (wO_neg (ne 7 (by omega)) (wO_neg (ne 8 (by omega)) ?_))))))))
    have j2 : ∀ v, wO (mf_tellOne_j202 m v) (fun r => r = m2) := by
      intro v
      unfold mf_tellOne_j202
      refine wO_eq y1 ?_
      unfold mf_tellOne_j205
      exact wO_neg (gF1 y3) (wO_some rfl)
    unfold mf_tellOne_j185
    refine wO_agv (k := t) h11 (by omega) (by omega) r5 ?_
    by_cases c : nI (gMk2 (K t)) - (23 : Int32) < 0
    · exact wO_pos c (j2 _)
    · refine wO_neg c (wO_agv (k := t) h11 (by omega) (by omega) r5 (wO_neg ?_ (j2 _)))
      rcases q with q | q
      · exact absurd q c
      · exact q
