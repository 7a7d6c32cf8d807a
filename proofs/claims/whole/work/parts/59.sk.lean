/-! kindOf; the words given from outside hold; the law's context -/
section SKC
variable {p : Program} {l : Launch} {e : Env} {R : Room} {s : State} {m : MethodId} {args : Array Value} {below : List Frame} {meth : Method} {c : Code} {H : Heap} {locs : List Loc} {cells slots : Nat} {Z : State → Prop} {A : Nat → Prop} {cc : ByteArray} {nL : Nat} {ls : Array Slot} {rest : List Value} {pc ix dc mi na : Nat} {as : List Value} {D : va_G} {E : Nat → ClassId} {Xt : mm_Xt} {ad : Nat → Nat} {h : mm_H} {Q : mm_R}
theorem sk_pre (hK : va_K D vwCl (mm_ty E) s) (hXt : Xt A s) (hX : mm_Xok Xt) (hA : ∀ q, s.heap.size ≤ q → A q) (hP : va_P D vwCl (mm_wr E ad h) H) (hD : va_D A (mm_wr E ad h)) (hS : va_S A s.heap H locs) : (∀ q, va_A (mm_wr E ad h) H.size q → A q) ∧ PreS s H (mm_Pc D E Xt ad H.size as h) (as.map (mm_vr ad)) := by
  have hF : ∀ q, va_A (mm_wr E ad h) H.size q → A q := by
    intro q hq
    rcases hq with ⟨k2, e2, hk2⟩ | hq
    · exact hD.2 k2 _ hk2
    · exact hA q (Nat.le_trans hS.1 hq)
  exact ⟨hF, mm_pblind hX, fun U hU hW => ⟨rfl, by rw [hU], by rw [hU]; exact hP, va_K.moved hW.alike hK, hD.weaken (fun _ _ _ _ => trivial), hX.1 A _ s U hXt hF hW (by rw [hU]; exact hS.1) (fun q h1 h2 => by rw [hU]; exact hS.2.1 q h1 h2)⟩⟩
theorem sk_cs (hx : p.tables.exec = Jvm.exec) (hb : c.code = cc) (hml : c.maxLocals = nL) (hown : s.vm.findClass RX8 = some m.cls) (hts : ∀ w ∈ mm_tG, w.before args s = true) (hK : va_K D vwCl (mm_ty E) s) (hXt : Xt A s) (hX : mm_Xok Xt) (hA : ∀ q, s.heap.size ≤ q → A q) (hP : va_P D vwCl (mm_wr E ad h) H) (hD : va_D A (mm_wr E ad h)) (hS : va_S A s.heap H locs) (hls : ls.size = nL)
    (hC : ∃ t1, mm_at mm_T mi = some t1 ∧ t1.2.2.1 ≤ 40 ∧ mm_Met l D E Xt dc t1 (mm_Mk mi).1 (mm_Mk mi).2 as h Q) (hM : mm_Mk mi = (0, 0)) (hk : mm_isK mi 0 na 0 = true) (hlen : as.length = na) (has : as.map (mm_vr ad) = as) (hln : mm_in3 mm_ML 8 ix mi = true) (hroom : dc + 1 ≤ R.frames ∧ 59 + 64 * dc ≤ R.locals) (hfit : cells ≤ R.cells ∧ slots ≤ R.slots) (hcat : (rest.map fun v => v.category).sum ≤ 8) (hd : decode cc pc = .ok (.invokestatic ix, 3))
    (kk : ∀ (v : Option Value) (h2 : mm_H) (H1 : Heap) (locs1 : List Loc), Q v h2 → va_P D vwCl (mm_wr E ad h2) H1 → va_D A (mm_wr E ad h2) → va_S A s.heap H1 locs1 → W p l e R s m args below meth c H1 locs1 cells slots Z (F0 m (pc + 3) ls ((v.map (mm_vr ad)).toList ++ rest))) : W p l e R s m args below meth c H locs cells slots Z (F0 m pc ls (as.reverse ++ rest)) := by
  obtain ⟨hF, hpre⟩ := sk_pre (as := as) hK hXt hX hA hP hD hS
  obtain ⟨t1, ht1, hL1, hMt⟩ := hC
  rw [hM] at hMt
  obtain ⟨k1, k2, k3, k4, k5, k6, k7, k8⟩ := mm_kind hk ht1
  have hroom2 : (mm_rm dc 0 0).frames + 1 ≤ R.frames ∧ 8 + (t1.2.2.1 + 11) + (mm_rm dc 0 0).locals ≤ R.locals := ⟨hroom.1, by have := hroom.2; show 8 + (t1.2.2.1 + 11) + 64 * dc ≤ R.locals; omega⟩
  have hst : (F0 m pc ls (as.reverse ++ rest)).stack = (as.map (mm_vr ad)).reverse ++ rest := by rw [has]
  have hal : (as.map (mm_vr ad)).length = na := by rw [has]; exact hlen
  have hfit2 : cells + 0 ≤ R.cells ∧ slots + 0 ≤ R.slots := hfit
  refine mm_callW (A1 := va_A (mm_wr E ad h) H.size) (va_runS ⟨hx, hb, hml, hown, hts⟩ (hMt ad H.size) ⟨callB_of na hts (mm_good k1) rfl rfl rfl (hts _ k3) (hts _ (k2 ▸ mm_lnk hln)) ⟨k4.1, k4.2, (k5 rfl).2⟩ hroom2, hts _ (k5 rfl).1⟩ hpre rfl hal hls hst (lv_room hcat) hd hfit2) hS (fun q _ h => hF q h) hF (fun v h2 ad2 H1 locs1 hq hag hP1 hD1 hz hk hS1 => ?_)
  have e3 : h2.length = h.length := by have := hag.1; have := hag.2.1; omega
  have e4 : ad2 = ad := hag.2.2.2 e3
  rw [e4] at hP1 hD1 ⊢
  exact kk v h2 H1 locs1 hq hP1 (hD1.weaken (fun _ q _ h => hF q.1 h)) hS1
theorem sk_cv {a1 : Nat} {as1 fs : List Value} (hx : p.tables.exec = Jvm.exec) (hb : c.code = cc) (hml : c.maxLocals = nL) (hown : s.vm.findClass RX8 = some m.cls) (hts : ∀ w ∈ mm_tG, w.before args s = true) (hK : va_K D vwCl (mm_ty E) s) (hXt : Xt A s) (hX : mm_Xok Xt) (hA : ∀ q, s.heap.size ≤ q → A q) (hP : va_P D vwCl (mm_wr E ad h) H) (hD : va_D A (mm_wr E ad h)) (hS : va_S A s.heap H locs) (hls : ls.size = nL)
    (hC : ∃ t1, mm_at mm_T mi = some t1 ∧ t1.2.2.1 ≤ 40 ∧ mm_Met l D E Xt dc t1 (mm_Mk mi).1 (mm_Mk mi).2 (.ref a1 :: as1) h Q) (hM : mm_Mk mi = (0, 0)) (hk : mm_isK mi 1 na 8 = true) (hlen : as1.length = na - 1) (has : as1.map (mm_vr ad) = as1) (ha : mm_at h a1 = some (.inr (8, fs))) (hln : mm_in3 mm_ML 8 ix mi = true) (hroom : dc + 1 ≤ R.frames ∧ 59 + 64 * dc ≤ R.locals) (hfit : cells ≤ R.cells ∧ slots ≤ R.slots) (hcat : (rest.map fun v => v.category).sum ≤ 8) (hd : decode cc pc = .ok (.invokevirtual ix, 3))
    (kk : ∀ (v : Option Value) (h2 : mm_H) (H1 : Heap) (locs1 : List Loc), Q v h2 → va_P D vwCl (mm_wr E ad h2) H1 → va_D A (mm_wr E ad h2) → va_S A s.heap H1 locs1 → W p l e R s m args below meth c H1 locs1 cells slots Z (F0 m (pc + 3) ls ((v.map (mm_vr ad)).toList ++ rest))) : W p l e R s m args below meth c H locs cells slots Z (F0 m pc ls (as1.reverse ++ .ref (ad a1) :: rest)) := by
  obtain ⟨hF, hpre⟩ := sk_pre (as := .ref a1 :: as1) hK hXt hX hA hP hD hS
  obtain ⟨t1, ht1, hL1, hMt⟩ := hC
  rw [hM] at hMt
  obtain ⟨k1, k2, k3, k4, k5, k6, k7, k8⟩ := mm_kind hk ht1
  obtain ⟨k61, k62, k63, k64, k65⟩ := k6 (by decide)
  obtain ⟨CC, TT, NN, ty, g1, g2, g3, g4, g5, g6, g7, g8, g9, g10⟩ := mm_cls 8 k65
  have hcls : t1.1.cls = CC := by
    have h9 := mm_tcls k1
    rw [k64] at h9
    rw [h9]
    exact mm_own_cl k65 g2
  have hpv : PreV s H CC (ad a1) (mm_Pc D E Xt ad H.size (.ref a1 :: as1) h) (as1.map (mm_vr ad)) := ⟨hpre.1, va_recv hK hP g1 (mm_wr_at ha), hpre.2⟩
  have hroom2 : (mm_rm dc 0 0).frames + 1 ≤ R.frames ∧ 8 + (t1.2.2.1 + 11) + (mm_rm dc 0 0).locals ≤ R.locals := ⟨hroom.1, by have := hroom.2; show 8 + (t1.2.2.1 + 11) + 64 * dc ≤ R.locals; omega⟩
  have hst : (F0 m pc ls (as1.reverse ++ .ref (ad a1) :: rest)).stack = (as1.map (mm_vr ad)).reverse ++ .ref (ad a1) :: rest := by rw [has]
  have hal : (as1.map (mm_vr ad)).length = na - 1 := by rw [has]; exact hlen
  have hfit2 : cells + 0 ≤ R.cells ∧ slots + 0 ≤ R.slots := hfit
  refine mm_callW (A1 := va_A (mm_wr E ad h) H.size) (va_runV (C := CC) ⟨hx, hb, hml, hown, hts⟩ (hMt ad H.size) ⟨callB_of (na - 1) hts (mm_good k1) rfl rfl rfl (hts _ k3) (hts _ (k2 ▸ mm_lnk hln)) ⟨k4.1, k4.2, k63⟩ hroom2, hts _ k61, hcls ▸ hts _ (k7 rfl)⟩ hpv rfl hal hls hst (lv_room hcat) hd hfit2) hS (fun q _ h => hF q h) hF (fun v h2 ad2 H1 locs1 hq hag hP1 hD1 hz hk hS1 => ?_)
  have e3 : h2.length = h.length := by have := hag.1; have := hag.2.1; omega
  have e4 : ad2 = ad := hag.2.2.2 e3
  rw [e4] at hP1 hD1 ⊢
  exact kk v h2 H1 locs1 hq hP1 (hD1.weaken (fun _ q _ h => hF q.1 h)) hS1
end SKC
/-- isQuoted alone, as given -/
def xB1 : mm_C := fun mi args h Q => mi = 203 ∧ ∃ (pt ps pg pr : Value) (s : xs_S) (a0 a1 a2 v : Int32) (s2 : xs_S), args = [.ref 1, .int a0, .int a1, .int a2] ∧ h = xs_H pt ps pg pr s ∧ xf_8_isQuoted s a0 a1 a2 = some (v, s2) ∧ Q (some (.int v)) (xs_H pt ps pg pr s2)
theorem sk_b1 (l : Launch) (D : va_G) (E : Nat → ClassId) (adK adV : Nat → Nat) (d mi : Nat) (as : List Value) (h : mm_H) (Q : mm_R) (hB : xB1 mi as h Q) : ∃ t1, mm_at mm_T mi = some t1 ∧ t1.2.2.1 ≤ 40 ∧ mm_Met l D E (sx_Xt adK adV) (d + 3 + 1) t1 (mm_Mk mi).1 (mm_Mk mi).2 as h Q := by
  obtain ⟨rfl, pt, ps, pg, pr, s, a0, a1, a2, v, s2, rfl, rfl, hf, hQ⟩ := hB
  exact ⟨t_iq, rfl, by decide, sx_isQ l D E adK adV d pt ps pg pr s a0 a1 a2 v s2 Q hf hQ⟩
theorem sk_c1 (l : Launch) (D : va_G) (E : Nat → ClassId) (adK adV : Nat → Nat) : ∀ (d mi : Nat) (as : List Value) (h : mm_H) (Q : mm_R), mm_ct xB1 mm_Mk mm_Fk mm_PC d mi as h Q → ∃ t1, mm_at mm_T mi = some t1 ∧ t1.2.2.1 ≤ 40 ∧ mm_Met l D E (sx_Xt adK adV) (d + 3) t1 (mm_Mk mi).1 (mm_Mk mi).2 as h Q := mm_sndD (l := l) (D := D) (E := E) (sx_Xok adK adV) (B := xB1) mm_all_ok 3 (sk_b1 l D E adK adV)
theorem sk_kl : xk_8_kindOfLetters (mm_ct xB1 mm_Mk mm_Fk mm_PC 2) := fun pt ps pg pr s a0 a1 v s2 Q hf hK => Or.inr (xb_8_kindOfLetters (fun pt ps pg pr s a0 a1 a2 v s2 Q hf hK => Or.inl ⟨rfl, pt, ps, pg, pr, s, a0, a1, a2, v, s2, rfl, rfl, hf, hK⟩) s a0 a1 v s2 hf hK)
set_option maxHeartbeats 4000000 in
set_option maxRecDepth 100000 in
theorem sx_kO (l : Launch) (D : va_G) (E : Nat → ClassId) (adK adV : Nat → Nat) (d : Nat) (pt ps pg pr : Value) (s : xs_S) (a0 a1 v : Int32) (s2 : xs_S) (Q : mm_R) (hf : xf_8_kindOf s a0 a1 = some (v, s2)) (hQ : Q (some (.int v)) (xs_H pt ps pg pr s2)) : mm_Met l D E (sx_Xt adK adV) (d + 13) t_ko 0 0 [.ref 1, .int a0, .int a1] (xs_H pt ps pg pr s) Q := by
  intro ad sz
  refine Met.ofW (cc := cX8_kindOf) (maxL := 4) (ret := some .int) (by decide) rfl ?_
  intro p e s0 m args below meth c s₁ Bd hml hv
  obtain ⟨rfl, hsz, hP, hK, hD0, hXt⟩ := hv
  have hx := Bd.exec
  have hb := Bd.bytes
  have hr := Bd.returns
  have hts0 := atoms_spec (ws := mm_ws t_ko) Bd.pre
  have hts : ∀ w ∈ mm_tG, w.before _ s0 = true := fun w hw => hts0 w (List.mem_cons_of_mem _ hw)
  have hown : s0.vm.findClass RX8 = some m.cls := findClass_of_methodNamed Bd.named
  have hlocks := Bd.notSynchronized
  subst hsz
  have hD := hD0.self (sz := s0.heap.size)
  have hA : ∀ q : Nat, s0.heap.size ≤ q → va_A (mm_wr E ad (xs_H pt ps pg pr s)) s0.heap.size q := fun q h => Or.inr h
  generalize va_A (mm_wr E ad (xs_H pt ps pg pr s)) s0.heap.size = A at hD hA hXt ⊢
  have hS : va_S A s0.heap s0.heap [] := va_S.rf
  have hl := lv_entry (([.ref 1, .int a0, .int a1] : List Value).map (mm_vr ad)) (n := 4) (Nat.le_of_ble_eq_true rfl)
  rw [lg_entry_eq]
  generalize (lg_sl (([.ref 1, .int a0, .int a1] : List Value).map (mm_vr ad)) ++ List.replicate (4 - (lg_sl (([.ref 1, .int a0, .int a1] : List Value).map (mm_vr ad))).length) Slot.unset).toArray = ls at hl ⊢
  have hl : lv_has ls 4 [(0, .ref (ad 1)), (1, .int a0), (2, .int a1)] := hl
  obtain ⟨x1, x2, x3, x4, x5, x6, x7, x8, x9, x10⟩ := mm_clp8
  have hXp : sx_P adK adV A s0 := hXt.2.2.1
  have hR0 := hXt.2.2.2.1
  have e139 : ∀ s' : xs_S, mm_agr ad (xs_H pt ps pg pr s).length 0 ad (xs_H pt ps pg pr s').length := fun s' => mm_agr.rf (n := 139)
  have hret : ∀ (v' : Int32) (s' : xs_S) (H : Heap) (locs : List Loc) (ls : Array Slot) (pc : Nat), Q (some (.int v')) (xs_H pt ps pg pr s') → va_P D vwCl (mm_wr E ad (xs_H pt ps pg pr s')) H → va_D A (mm_wr E ad (xs_H pt ps pg pr s')) → va_S A s0.heap H locs → decode cX8_kindOf pc = .ok (.ireturn, 1) → W p l e (mm_rm (d + 13) 0 0) s0 m (([.ref 1, .int a0, .int a1] : List Value).map (mm_vr ad)).toArray below meth c H locs 0 0 (MQ below (mm_Q D E Q ad (xs_H pt ps pg pr s).length 0 A) (([.ref 1, .int a0, .int a1] : List Value).map (mm_vr ad)).toArray s0 0 0 A) (F0 m pc ls [.int v']) := by
    intro v' s' H locs ls pc hQ hP hD hS hd
    exact W.iret hx hb hr (fun t ht hW => ⟨⟨some (.int v'), xs_H pt ps pg pr s', ad, rfl, hQ, e139 s', by rw [ht]; exact hP, va_K.moved hW.alike hK, hD⟩, hS.F ht⟩) hS.2.2 hd
  unfold xf_8_kindOf at hf
  obtain ⟨y1, hy1, hf⟩ := mo_bind hf
  obtain ⟨hi1, rfl⟩ := mo_ag_inv hy1
  obtain ⟨v2, hv2, hf⟩ := mo_bind hf
  refine lv_aload_n hx hb dk_0 rfl (lv_at hl 0 rfl) ?_
  refine va_get (v := .ref (ad 2)) (fs := ([.ref 2, .int (s.1 17), .ref 3, .ref 4, .ref 5, .int (s.1 21)] : List Value).map (mm_vr ad)) hx hb hts x4 hown hK hP 1 (mm_wr_at (e := .inr (8, [.ref 2, .int (s.1 17), .ref 3, .ref 4, .ref 5, .int (s.1 21)])) rfl) x1 0 (by decide) (hts _ w_f_tp) (fun _ h9 => h9) rfl dk_1 ?_
  refine lv_iload_n hx hb dk_4 rfl (lv_at hl 1 rfl) ?_
  refine va_bald hx hb hK hP 2 1 (n := 2000) (f := s.2.1 2) (mm_wr_at (e := .inl (1, 2000, .inl (s.2.1 2))) rfl) rfl hi1 dk_5 ?_
  refine sk_cs (as := [.int (s.2.1 2 a0.toNatClampNeg)]) (rest := []) (h := xs_H pt ps pg pr s) (Q := fun w h2 => w = some (.int v2) ∧ h2 = xs_H pt ps pg pr s) hx hb hml hown hts hK hXt (sx_Xok adK adV) hA hP hD hS hl.1 (sk_c1 l D E adK adV 1 206 _ _ _ (xt_8_isLetter xB1 0 _ _ v2 _ hv2 ⟨rfl, rfl⟩)) (by decide +kernel) (na := 1) (by decide +kernel) rfl rfl (by decide +kernel) ⟨by show 1 + 3 + 1 ≤ d + 13; omega, by show 59 + 64 * (1 + 3) ≤ 64 * (d + 13); omega⟩ ⟨Nat.le_refl 0, Nat.le_refl 0⟩ (Nat.le_of_ble_eq_true rfl) dk_6 (fun w h2 H1 locs1 hq hP hD hS => ?_)
  obtain ⟨rfl, rfl⟩ := hq
  show W p l e (mm_rm (d + 13) 0 0) s0 m (([.ref 1, .int a0, .int a1] : List Value).map (mm_vr ad)).toArray below meth c H1 locs1 0 0 _ (F0 m 9 ls [.int v2])
  generalize H1 = H at hP hS ⊢
  generalize locs1 = locs at hS ⊢
  refine lv_if_eq (tgt := 32) hx hb dk_9 (by decide) (fun c1 => ?_) (fun c1 => ?_)
  · have hf := mo_pos hf c1
    obtain ⟨y4, hy4, hf⟩ := mo_bind hf
    obtain ⟨hi4, rfl⟩ := mo_ag_inv hy4
    obtain ⟨v5, hv5, hf⟩ := mo_bind hf
    refine lv_aload_n hx hb dk_32 rfl (lv_at hl 0 rfl) ?_
    refine va_get (v := .ref (ad 2)) (fs := ([.ref 2, .int (s.1 17), .ref 3, .ref 4, .ref 5, .int (s.1 21)] : List Value).map (mm_vr ad)) hx hb hts x4 hown hK hP 1 (mm_wr_at (e := .inr (8, [.ref 2, .int (s.1 17), .ref 3, .ref 4, .ref 5, .int (s.1 21)])) rfl) x1 0 (by decide) (hts _ w_f_tp) (fun _ h9 => h9) rfl dk_33 ?_
    refine lv_iload_n hx hb dk_36 rfl (lv_at hl 1 rfl) ?_
    refine va_bald hx hb hK hP 2 1 (n := 2000) (f := s.2.1 2) (mm_wr_at (e := .inl (1, 2000, .inl (s.2.1 2))) rfl) rfl hi4 dk_37 ?_
    refine sk_cs (as := [.int (s.2.1 2 a0.toNatClampNeg)]) (rest := []) (h := xs_H pt ps pg pr s) (Q := fun w h2 => w = some (.int v5) ∧ h2 = xs_H pt ps pg pr s) hx hb hml hown hts hK hXt (sx_Xok adK adV) hA hP hD hS hl.1 (sk_c1 l D E adK adV 1 207 _ _ _ (xt_8_isDigit xB1 0 _ _ v5 _ hv5 ⟨rfl, rfl⟩)) (by decide +kernel) (na := 1) (by decide +kernel) rfl rfl (by decide +kernel) ⟨by show 1 + 3 + 1 ≤ d + 13; omega, by show 59 + 64 * (1 + 3) ≤ 64 * (d + 13); omega⟩ ⟨Nat.le_refl 0, Nat.le_refl 0⟩ (Nat.le_of_ble_eq_true rfl) dk_38 (fun w h2 H1 locs1 hq hP hD hS => ?_)
    obtain ⟨rfl, rfl⟩ := hq
    show W p l e (mm_rm (d + 13) 0 0) s0 m (([.ref 1, .int a0, .int a1] : List Value).map (mm_vr ad)).toArray below meth c H1 locs1 0 0 _ (F0 m 41 ls [.int v5])
    generalize H1 = H at hP hS ⊢
    generalize locs1 = locs at hS ⊢
    refine lv_if_eq (tgt := 59) hx hb dk_41 (by decide) (fun c2 => ?_) (fun c2 => ?_)
    · have hf := mo_pos hf c2
      obtain ⟨y7, hy7, hf⟩ := mo_bind hf
      obtain ⟨hi7, rfl⟩ := mo_ag_inv hy7
      obtain ⟨j, hj, ej⟩ := pk_andE (s.2.1 2 a0.toNatClampNeg) (m := 255) 8 (by decide)
      have ec : ((s.2.1 2 a0.toNatClampNeg &&& (255 : Int32)).toUInt32 % 65536).toInt32 = nI j := by
        rw [ej]
        exact (sb_byte j (by omega)).2.1
      rw [ec] at hf
      refine va_ldcS hx hb hown hR0 dk_59 ?_
      refine lv_aload_n hx hb dk_61 rfl (lv_at hl 0 rfl) ?_
      refine va_get (v := .ref (ad 2)) (fs := ([.ref 2, .int (s.1 17), .ref 3, .ref 4, .ref 5, .int (s.1 21)] : List Value).map (mm_vr ad)) hx hb hts x4 hown hK hP 1 (mm_wr_at (e := .inr (8, [.ref 2, .int (s.1 17), .ref 3, .ref 4, .ref 5, .int (s.1 21)])) rfl) x1 0 (by decide) (hts _ w_f_tp) (fun _ h9 => h9) rfl dk_62 ?_
      refine lv_iload_n hx hb dk_65 rfl (lv_at hl 1 rfl) ?_
      refine va_bald hx hb hK hP 2 1 (n := 2000) (f := s.2.1 2) (mm_wr_at (e := .inl (1, 2000, .inl (s.2.1 2))) rfl) rfl hi7 dk_66 ?_
      refine lv_sipush (v := 255) hx hb dk_67 (by decide) ?_
      refine lv_iand hx hb dk_70 ?_
      refine lv_i2c hx hb dk_71 ec ?_
      refine sx_callV (As := [.int (nI j)]) (rest := []) hx hb hml hown hts hXp hA hS hl.1 (sx_i1 l d (n := j) (by omega)) (vk_recv hXp.1 (by decide) hS) w_i1_c w_i1_i w_i1_v w_l_i1 w_iniS ⟨by decide, by decide, w_i1_n⟩ ⟨by show d + 3 + 1 ≤ d + 13; omega, by show 8 + (2 + 11) + 64 * (d + 3) ≤ 64 * (d + 13); omega⟩ ⟨Nat.le_refl 0, Nat.le_refl 0⟩ (Nat.le_of_ble_eq_true rfl) dk_72 (fun H1 locs1 hz hk hS => ?_)
      show W p l e (mm_rm (d + 13) 0 0) s0 m (([.ref 1, .int a0, .int a1] : List Value).map (mm_vr ad)).toArray below meth c H1 locs1 0 0 _ (F0 m 75 ls [.int (xs_ix (nI j))])
      have hP := sx_kp hP hk
      refine lv_istore_n (lv' := [(3, .int (xs_ix (nI j))), (0, .ref (ad 1)), (1, .int a0), (2, .int a1)]) hx hb dk_75 rfl hl (by decide) rfl (fun ls hl => ?_)
      refine lv_iload_n hx hb dk_76 rfl (lv_at hl 0 rfl) ?_
      refine lv_if_ge (tgt := 85) hx hb dk_77 (by decide) (fun c3 => ?_) (fun c3 => ?_)
      · have hf := mo_pos hf c3
        obtain ⟨rfl, rfl⟩ := mo_pair hf
        refine lv_bipush (v := 23) hx hb dk_85 (by decide) ?_
        refine lv_iload_n hx hb dk_87 rfl (lv_at hl 0 rfl) ?_
        refine lv_iadd hx hb dk_88 ?_
        exact hret _ s H1 locs1 ls 89 hQ hP hD hS dk_89
      · have hf := mo_neg hf c3
        obtain ⟨rfl, rfl⟩ := mo_pair hf
        refine lv_bipush (v := 33) hx hb dk_80 (by decide) ?_
        refine lv_goto (tgt := 89) hx hb dk_82 (by decide) ?_
        exact hret _ s H1 locs1 ls 89 hQ hP hD hS dk_89
    · have hf := mo_neg hf c2
      refine lv_iload_n hx hb dk_44 rfl (lv_at hl 2 rfl) ?_
      refine lv_iload_n hx hb dk_45 rfl (lv_at hl 1 rfl) ?_
      refine lv_isub hx hb dk_46 ?_
      refine lv_iconst (v := 4) hx hb dk_47 (by decide) ?_
      refine lv_icmp_le (tgt := 56) hx hb dk_48 (by decide) (fun c3 => ?_) (fun c3 => ?_)
      · have hf := mo_pos hf c3
        obtain ⟨rfl, rfl⟩ := mo_pair hf
        refine lv_bipush (v := 22) hx hb dk_56 (by decide) ?_
        exact hret _ s H locs ls 58 hQ hP hD hS dk_58
      · have hf := mo_neg hf c3
        obtain ⟨rfl, rfl⟩ := mo_pair hf
        refine lv_bipush (v := 33) hx hb dk_51 (by decide) ?_
        refine lv_goto (tgt := 58) hx hb dk_53 (by decide) ?_
        exact hret _ s H locs ls 58 hQ hP hD hS dk_58
  · have hf := mo_neg hf c1
    refine lv_iload_n hx hb dk_12 rfl (lv_at hl 2 rfl) ?_
    refine lv_iload_n hx hb dk_13 rfl (lv_at hl 1 rfl) ?_
    refine lv_isub hx hb dk_14 ?_
    refine lv_bipush (v := 8) hx hb dk_15 (by decide) ?_
    refine lv_icmp_le (tgt := 25) hx hb dk_17 (by decide) (fun c3 => ?_) (fun c3 => ?_)
    · have hf := mo_pos hf c3
      obtain ⟨r12, hr12, hf⟩ := mo_bind hf
      obtain ⟨v12, s12⟩ := r12
      obtain ⟨rfl, rfl⟩ := mo_pair hf
      refine lv_aload_n hx hb dk_25 rfl (lv_at hl 0 rfl) ?_
      refine lv_iload_n hx hb dk_26 rfl (lv_at hl 1 rfl) ?_
      refine lv_iload_n hx hb dk_27 rfl (lv_at hl 2 rfl) ?_
      refine sk_cv (a1 := 1) (as1 := [.int a0, .int a1]) (rest := []) (h := xs_H pt ps pg pr s) (Q := fun w h2 => w = some (.int v12) ∧ h2 = xs_H pt ps pg pr s12) hx hb hml hown hts hK hXt (sx_Xok adK adV) hA hP hD hS hl.1 (sk_c1 l D E adK adV 2 202 _ _ _ (sk_kl pt ps pg pr s a0 a1 v12 s12 _ hr12 ⟨rfl, rfl⟩)) (by decide +kernel) (na := 3) (by decide +kernel) rfl rfl rfl (by decide +kernel) ⟨by show 2 + 3 + 1 ≤ d + 13; omega, by show 59 + 64 * (2 + 3) ≤ 64 * (d + 13); omega⟩ ⟨Nat.le_refl 0, Nat.le_refl 0⟩ (Nat.le_of_ble_eq_true rfl) dk_28 (fun w h2 H1 locs1 hq hP hD hS => ?_)
      obtain ⟨rfl, rfl⟩ := hq
      exact hret v12 s12 H1 locs1 ls 31 hQ hP hD hS dk_31
    · have hf := mo_neg hf c3
      obtain ⟨rfl, rfl⟩ := mo_pair hf
      refine lv_bipush (v := 33) hx hb dk_20 (by decide) ?_
      refine lv_goto (tgt := 31) hx hb dk_22 (by decide) ?_
      exact hret _ s H locs ls 31 hQ hP hD hS dk_31
theorem sk_b (l : Launch) (D : va_G) (E : Nat → ClassId) (adK adV : Nat → Nat) (d mi : Nat) (as : List Value) (h : mm_H) (Q : mm_R) (hB : xB mi as h Q) : ∃ t1, mm_at mm_T mi = some t1 ∧ t1.2.2.1 ≤ 40 ∧ mm_Met l D E (sx_Xt adK adV) (d + 12 + 1) t1 (mm_Mk mi).1 (mm_Mk mi).2 as h Q := by
  rcases hB with hB | hB
  · obtain ⟨rfl, pt, ps, pg, pr, s, a0, a1, v, s2, rfl, rfl, hf, hQ⟩ := hB
    exact ⟨t_ko, rfl, by decide, sx_kO l D E adK adV d pt ps pg pr s a0 a1 v s2 Q hf hQ⟩
  · obtain ⟨rfl, pt, ps, pg, pr, s, a0, a1, a2, v, s2, rfl, rfl, hf, hQ⟩ := hB
    exact ⟨t_iq, rfl, by decide, sx_isQ l D E adK adV (d + 9) pt ps pg pr s a0 a1 a2 v s2 Q hf hQ⟩
theorem sk_ct (l : Launch) (D : va_G) (E : Nat → ClassId) (adK adV : Nat → Nat) : ∀ (d mi : Nat) (as : List Value) (h : mm_H) (Q : mm_R), mm_ct xB mm_Mk mm_Fk mm_PC d mi as h Q → ∃ t1, mm_at mm_T mi = some t1 ∧ t1.2.2.1 ≤ 40 ∧ mm_Met l D E (sx_Xt adK adV) (d + 12) t1 (mm_Mk mi).1 (mm_Mk mi).2 as h Q := mm_sndD (l := l) (D := D) (E := E) (sx_Xok adK adV) (B := xB) mm_all_ok 12 (sk_b l D E adK adV)
