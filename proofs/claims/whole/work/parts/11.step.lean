/-! small facts that the instructions ask for -/
theorem mm_nf {ty : FieldType} {v : Value} {ad : Nat → Nat} (h : mm_okv (mm_kd ty) v) : narrow ty (mm_vr ad v) = mm_vr ad v ∧ fits ty (mm_vr ad v) = true := by
  cases ty <;> cases v <;> first | exact h.elim | exact ⟨rfl, rfl⟩ | skip
  rename_i x
  have h1 : x &&& 1 = x := h
  refine ⟨congrArg Value.int h1, ?_⟩
  have h2 := pk_and x (m := 1) 1 (by decide)
  rw [h1] at h2
  show (x == 0 || x == 1) = true
  rcases (show x.toBitVec.toNat % 2 ^ 1 = 0 ∨ x.toBitVec.toNat % 2 ^ 1 = 1 by omega) with e | e
  · rw [e] at h2
    rw [h2]
    rfl
  · rw [e] at h2
    rw [h2]
    rfl
theorem mm_er_arr {E : Nat → ClassId} {ad : Nat → Nat} (t : Nat) (x : vp_A) : ∃ y : vp_A, mm_er E ad (.inl (t, x)) = .inl (E t, y) ∧ y.1 = x.1 := by
  obtain ⟨n, f | f | f | f | f⟩ := x <;> exact ⟨_, rfl, rfl⟩
theorem mm_Fk_vr (ad : Nat → Nat) {ci : Nat} (h : ci < 13) : (mm_Fk ci).map (mm_vr ad) = mm_Fk ci := by
  rcases (show ci = 0 ∨ ci = 1 ∨ ci = 2 ∨ ci = 3 ∨ ci = 4 ∨ ci = 5 ∨ ci = 6 ∨ ci = 7 ∨ ci = 8 ∨ ci = 9 ∨ ci = 10 ∨ ci = 11 ∨ ci = 12 by omega) with e | e | e | e | e | e | e | e | e | e | e | e | e <;> subst e <;> rfl
theorem mm_sw_inv {x : Int32} {K : Nat → Prop} : ∀ (ts : List Nat) (v : Int32) (d : Nat), mm_sw x K v ts d → (∃ (j t : Nat), ts[j]? = some t ∧ x = v + nI j ∧ K t) ∨ ((∀ j : Nat, j < ts.length → x ≠ v + nI j) ∧ K d)
  | [], v, d, h => Or.inr ⟨fun j hj => absurd hj (Nat.not_lt_zero j), h⟩
  | t :: ts, v, d, h => by
    by_cases hx : x = v
    · exact Or.inl ⟨0, t, rfl, by rw [hx, nI_0]; simp, h.1 hx⟩
    · rcases mm_sw_inv ts (v + 1) d (h.2 hx) with ⟨j, t2, h1, h2, h3⟩ | ⟨h1, h2⟩
      · exact Or.inl ⟨j + 1, t2, by simpa using h1, by rw [h2, nI_succ, Int32.add_comm (nI j) 1, ← Int32.add_assoc], h3⟩
      · refine Or.inr ⟨fun j hj => ?_, h2⟩
        cases j with
        | zero => rw [nI_0]; simpa using hx
        | succ j =>
          have h4 := h1 j (by simpa using hj)
          rw [nI_succ, Int32.add_comm (nI j) 1, ← Int32.add_assoc]
          exact h4
theorem mm_tsw_at {P : List mm_En} {pc : Nat} : ∀ (zs : List Int) (ts : List Nat), mm_tsw P pc zs ts = true → ∀ (j t : Nat), ts[j]? = some t → ∃ z, zs[j]? = some z ∧ mm_pcAt P t ((pc : Int) + z) = true
  | [], [], _, j, t, h => by simp at h
  | [], _ :: _, h, _, _, _ => by simp [mm_tsw] at h
  | _ :: _, [], h, _, _, _ => by simp [mm_tsw] at h
  | z :: zs, t0 :: ts, h, 0, t, ht => by
    simp only [mm_tsw, Bool.and_eq_true] at h
    simp only [List.getElem?_cons_zero, Option.some.injEq] at ht
    exact ⟨z, rfl, by rw [← ht]; exact h.1⟩
  | z :: zs, t0 :: ts, h, j + 1, t, ht => by
    simp only [mm_tsw, Bool.and_eq_true] at h
    simp only [List.getElem?_cons_succ] at ht
    obtain ⟨z2, h1, h2⟩ := mm_tsw_at zs ts h.2 j t ht
    exact ⟨z2, by simpa using h1, h2⟩
theorem mm_ofI {z : Int} (h0 : 0 ≤ z) (h1 : z < 2147483648) : Int32.ofInt z = nI z.toNat := by
  apply Int32.toInt_inj.mp
  rw [nI_toInt (by omega), Int32.toInt_ofInt_of_le (by omega) (by omega)]
  omega
/-- a table of places -/
theorem mm_swW {p : Program} {l : Launch} {e : Env} {s : State} {m : MethodId} {args : Array Value} {below : List Frame} {meth : Method} {c : Code} {D : va_G} {E : Nat → ClassId} {Xt : mm_Xt} {d mc ms n0 : Nat} {ad0 : Nat → Nat} {A : Nat → Prop} {Q : mm_R} {t : mm_Mt} {k : mm_K} {pc len : Nat} {a : Nat} {v : Value} {ts : List Nat} {lc : mm_L} {st : List Value} {h : mm_H} {bc bs : Nat} {ad : Nat → Nat} {H : Heap} {locs : List Loc} {ls : Array Slot} {cells slots : Nat} {df lo hi : Int} {offs : Array Int}
    (hx : p.tables.exec = Jvm.exec) (hb : c.code = t.2.1) (hd : decode t.2.1 pc = .ok (.tableswitch df lo hi offs, len))
    (hok : ((((mm_pcAt t.2.2.2.2.2 a ((pc : Int) + df) = true ∧ v = .int (Int32.ofInt lo)) ∧ 0 ≤ lo) ∧ hi < 100000) ∧ hi + 1 = lo + (ts.length : Int)) ∧ mm_tsw t.2.2.2.2.2 pc offs.toList ts = true)
    (jp : ∀ (j : Nat) (z : Int), mm_pcAt t.2.2.2.2.2 j z = true → ∃ tgt : Nat, z = (tgt : Int) ∧ ∀ (lc : mm_L) (st : List Value) (h : mm_H) (bc bs : Nat) (ad : Nat → Nat) (H : Heap) (locs : List Loc) (ls : Array Slot) (cells slots : Nat), k (t.2.2.2.2.2.drop j) lc st h bc bs → mm_Iw D E A s t.2.2.1 ad0 n0 mc ms lc h bc bs ad H locs ls cells slots → W p l e (mm_rm (d + 1) mc ms) s m args below meth c H locs cells slots (MQ below (mm_Q D E Q ad0 n0 mc A) args s mc ms A) (F0 m tgt ls (st.map (mm_vr ad))))
    (hw : mm_tab v ts a st (fun t2 s2 => k (t.2.2.2.2.2.drop t2) lc s2 h bc bs)) (hI : mm_Iw D E A s t.2.2.1 ad0 n0 mc ms lc h bc bs ad H locs ls cells slots) :
    W p l e (mm_rm (d + 1) mc ms) s m args below meth c H locs cells slots (MQ below (mm_Q D E Q ad0 n0 mc A) args s mc ms A) (F0 m pc ls (st.map (mm_vr ad))) := by
  obtain ⟨⟨⟨⟨⟨o1, o2⟩, o3⟩, o4⟩, o5⟩, o6⟩ := hok
  unfold mm_tab at hw
  split at hw
  · rename_i v1 x r
    have e0 : v1 = nI lo.toNat := by rw [← mm_ofI o3 (by omega)]; exact Value.int.inj o2
    rcases mm_sw_inv _ _ _ hw with ⟨j, t2, h1, h2, h3⟩ | ⟨h1, h2⟩
    · have hj : j < ts.length := (List.getElem?_eq_some_iff.mp h1).1
      have hxi : x.toInt = lo + j := by
        rw [h2, e0, nI_add, nI_toInt (by omega)]
        omega
      obtain ⟨z, hz, hp⟩ := mm_tsw_at _ _ o6 j t2 h1
      obtain ⟨tg, e3, jq⟩ := jp _ _ hp
      exact lv_tableIn hx hb hd (by omega) (by omega) (by rw [show (x.toInt - lo).toNat = j by omega, ← Array.getElem?_toList]; exact hz) e3 (jq _ _ _ _ _ _ _ _ _ _ _ h3 hI)
    · obtain ⟨tg, e3, jq⟩ := jp _ _ o1
      refine lv_tableOut hx hb hd ?_ e3 (jq _ _ _ _ _ _ _ _ _ _ _ h2 hI)
      by_cases hlo : x.toInt < lo
      · exact Or.inl hlo
      · by_cases hhi : hi < x.toInt
        · exact Or.inr hhi
        · exfalso
          refine h1 (x.toInt - lo).toNat (by omega) ?_
          apply Int32.toInt_inj.mp
          rw [e0, nI_add, nI_toInt (by omega)]
          omega
  · exact hw.elim
/-- a cell is made -/
theorem mm_grow {D : va_G} {E : Nat → ClassId} {A : Nat → Prop} {s : State} {L : Nat} {ad0 : Nat → Nat} {n0 mc ms : Nat} {lc : mm_L} {h : mm_H} {bc bs : Nat} {ad : Nat → Nat} {H H1 : Heap} {locs : List Loc} {ls : Array Slot} {cells slots : Nat} {cel e2 : va_E} {q N : Nat}
    (hI : mm_Iw D E A s L ad0 n0 mc ms lc h bc bs ad H locs ls cells slots) (hcl : lc.all (fun q => mm_okr h.length q.2) = true) (hch : h.all (mm_okE h.length) = true) (he : mm_er E (mm_nm ad h.length q) cel = e2)
    (hP1 : va_P D vwCl (mm_wr E ad h ++ [(q, e2)]) H1) (hD1 : va_D A (mm_wr E ad h ++ [(q, e2)])) (hS1 : va_S A s.heap H1 locs) (h1 : 1 ≤ bc) (h2 : N ≤ bs) :
    mm_Iw D E A s L ad0 n0 mc ms lc (h ++ [cel]) (bc - 1) (bs - N) (mm_nm ad h.length q) H1 locs ls (cells + 1) (slots + N) := by
  obtain ⟨hl, hP, hD, hS, hg, hc1, hc2⟩ := hI
  have e9 := mm_wr_push (E := E) (ad := ad) (q := q) (e := cel) hch he
  rw [e9] at hP1 hD1
  refine ⟨by rw [mm_lm_same (fun k hk => mm_nm_lt k hk) hcl]; exact hl, hP1, hD1, hS1, ?_, by omega, by omega⟩
  rw [List.length_append, List.length_singleton]
  refine ⟨by have := hg.1; omega, by have := hg.2.1; omega, fun k hk => ?_, fun e => ?_⟩
  · rw [mm_nm_lt k (Nat.lt_of_lt_of_le hk hg.1), hg.2.2.1 k hk]
  · exfalso
    have := hg.1
    omega
theorem mm_grow_st {ad : Nat → Nat} {n q : Nat} {r : List Value} (hr : r.all (mm_okr n) = true) : (Value.ref n :: r).map (mm_vr (mm_nm ad n q)) = .ref q :: r.map (mm_vr ad) := by
  rw [List.map_cons, mm_st_same (fun k hk => mm_nm_lt k hk) hr]
  simp only [mm_vr, mm_nm_at]

theorem mm_head {st : List Value} {b a1 : Nat} (h : mm_at st (b - 1) = some (.ref a1)) (h1 : 1 ≤ b) (h2 : b ≤ st.length) : ∃ as1, (st.take b).reverse = .ref a1 :: as1 := by
  obtain ⟨j, rfl⟩ : ∃ j, b = j + 1 := ⟨b - 1, by omega⟩
  rw [mm_at_eq] at h
  simp only [Nat.add_sub_cancel] at h
  refine ⟨(st.take j).reverse, ?_⟩
  rw [List.take_add_one, h]
  simp

theorem mm_own_cl {ci : Nat} {CC : String} {TT : u_T} {NN : Nat} (h : ci < 13) (g : mm_cl ci = (CC, TT, NN)) : mm_own ci = CC := by
  have e : mm_own ci = (mm_cl ci).1 := by
    rcases (show ci = 0 ∨ ci = 1 ∨ ci = 2 ∨ ci = 3 ∨ ci = 4 ∨ ci = 5 ∨ ci = 6 ∨ ci = 7 ∨ ci = 8 ∨ ci = 9 ∨ ci = 10 ∨ ci = 11 ∨ ci = 12 by omega) with e | e | e | e | e | e | e | e | e | e | e | e | e <;> subst e <;> rfl
  rw [e, g]
set_option maxRecDepth 100000 in
theorem mm_tclsB : mm_T.all (fun t => decide (t.1.cls = mm_own t.2.2.2.2.1)) = true := by decide +kernel
theorem mm_tcls {t : mm_Mt} (h : t ∈ mm_T) : t.1.cls = mm_own t.2.2.2.2.1 := of_decide_eq_true (List.all_eq_true.mp mm_tclsB t h)
set_option maxRecDepth 100000 in
theorem mm_initr {t : mm_Mt} (h : t ∈ mm_T) (hn : t.1.name = "<init>") : t.2.2.2.1 = none := by
  have hB : mm_T.all (fun q => bif decide (q.1.name = "<init>") then decide (q.2.2.2.1 = none) else true) = true := by decide +kernel
  have h1 := List.all_eq_true.mp hB t h
  simpa [hn] using h1
set_option maxHeartbeats 4000000 in
theorem mm_step {p : Program} {l : Launch} {e : Env} {s : State} {m : MethodId} {args : Array Value} {below : List Frame} {meth : Method} {c : Code} {D : va_G} {E : Nat → ClassId} {Xt : mm_Xt} {d mc ms n0 : Nat} {ad0 : Nat → Nat} {A : Nat → Prop} {Q : mm_R} {t : mm_Mt} {C : mm_C} (hC : ∀ (mi : Nat) (as : List Value) (h : mm_H) (Q : mm_R), C mi as h Q → ∃ t1, mm_at mm_T mi = some t1 ∧ t1.2.2.1 ≤ 40 ∧ mm_Met l D E Xt d t1 (mm_Mk mi).1 (mm_Mk mi).2 as h Q) {k : mm_K} {cs : List mm_En} {pc len : Nat}
    (hCx : mm_Cx D E Xt t p s m args meth c A)
    (nx : ∀ (lc : mm_L) (st : List Value) (h : mm_H) (bc bs : Nat) (ad : Nat → Nat) (H : Heap) (locs : List Loc) (ls : Array Slot) (cells slots : Nat), k cs lc st h bc bs → mm_Iw D E A s t.2.2.1 ad0 n0 mc ms lc h bc bs ad H locs ls cells slots → W p l e (mm_rm (d + 1) mc ms) s m args below meth c H locs cells slots (MQ below (mm_Q D E Q ad0 n0 mc A) args s mc ms A) (F0 m (pc + len) ls (st.map (mm_vr ad))))
    (jp : ∀ (j : Nat) (z : Int), mm_pcAt t.2.2.2.2.2 j z = true → ∃ tgt : Nat, z = (tgt : Int) ∧ ∀ (lc : mm_L) (st : List Value) (h : mm_H) (bc bs : Nat) (ad : Nat → Nat) (H : Heap) (locs : List Loc) (ls : Array Slot) (cells slots : Nat), k (t.2.2.2.2.2.drop j) lc st h bc bs → mm_Iw D E A s t.2.2.1 ad0 n0 mc ms lc h bc bs ad H locs ls cells slots → W p l e (mm_rm (d + 1) mc ms) s m args below meth c H locs cells slots (MQ below (mm_Q D E Q ad0 n0 mc A) args s mc ms A) (F0 m tgt ls (st.map (mm_vr ad))))
    {i : Instr} {a b : Nat} {v : Value} {ts : List Nat} {lc : mm_L} {st : List Value} {h : mm_H} {bc bs : Nat} {ad : Nat → Nat} {H : Heap} {locs : List Loc} {ls : Array Slot} {cells slots : Nat}
    (hI : mm_Iw D E A s t.2.2.1 ad0 n0 mc ms lc h bc bs ad H locs ls cells slots) (hd : decode t.2.1 pc = .ok (i, len))
    (hok : mm_okS t.2.2.1 t.2.2.2.1 t.2.2.2.2.1 (decide (t.1.name = "<init>")) t.2.2.2.2.2 pc len i a b v ts = true)
    (hw : mm_i C mm_Mk mm_Fk t.2.2.2.2.2 Q i a b v ts cs lc st h bc bs k) :
    W p l e (mm_rm (d + 1) mc ms) s m args below meth c H locs cells slots (MQ below (mm_Q D E Q ad0 n0 mc A) args s mc ms A) (F0 m pc ls (st.map (mm_vr ad))) := by
  obtain ⟨hx, hb, hr, hts, hown, hlocks, hml, hK, hA0, hXt, hname, hX⟩ := id hCx
  obtain ⟨hl, hP, hD, hS, hg, hc1, hc2⟩ := id hI
  have hA : ∀ q, va_A (mm_wr E ad h) H.size q → A q := by
    intro q hq
    rcases hq with ⟨k2, e2, hk2⟩ | hq
    · exact hD.2 k2 _ hk2
    · exact hA0 q (Nat.le_trans hS.1 hq)
  cases i with
  | iconst n =>
    simp only [mm_i] at hw
    have hok := hok
    simp only [mm_okS, Bool.and_eq_true, decide_eq_true_eq] at hok
    obtain ⟨e1, e2⟩ := hok
    subst e1
    subst e2
    exact lv_iconst hx hb hd rfl (nx _ _ _ _ _ _ _ _ _ _ _ hw hI)
  | bipush n =>
    simp only [mm_i] at hw
    have hok := hok
    simp only [mm_okS, Bool.and_eq_true, decide_eq_true_eq] at hok
    obtain ⟨e1, e2⟩ := hok
    subst e1
    subst e2
    exact lv_bipush hx hb hd rfl (nx _ _ _ _ _ _ _ _ _ _ _ hw hI)
  | sipush n =>
    simp only [mm_i] at hw
    have hok := hok
    simp only [mm_okS, Bool.and_eq_true, decide_eq_true_eq] at hok
    obtain ⟨e1, e2⟩ := hok
    subst e1
    subst e2
    exact lv_sipush hx hb hd rfl (nx _ _ _ _ _ _ _ _ _ _ _ hw hI)
  | lconst n =>
    simp only [mm_i] at hw
    simp only [mm_okS, Bool.and_eq_true, decide_eq_true_eq] at hok
    obtain ⟨e1, e2⟩ := hok
    subst e1
    subst e2
    exact lv_lconst hx hb hd rfl (nx _ _ _ _ _ _ _ _ _ _ _ hw hI)
  | ldc n =>
    simp only [mm_i] at hw
    simp only [mm_okS, Bool.and_eq_true, decide_eq_true_eq] at hok
    obtain ⟨e1, e2⟩ := hok
    subst e1
    obtain ⟨x, e3, h3⟩ := mm_inI_mem e2
    subst e3
    exact lv_ldc hx hb hown (hts _ h3) hd (nx _ _ _ _ _ _ _ _ _ _ _ hw hI)
  | ldc_w n =>
    simp only [mm_i] at hw
    simp only [mm_okS, Bool.and_eq_true, decide_eq_true_eq] at hok
    obtain ⟨e1, e2⟩ := hok
    subst e1
    obtain ⟨x, e3, h3⟩ := mm_inI_mem e2
    subst e3
    exact lv_ldcw hx hb hown (hts _ h3) hd (nx _ _ _ _ _ _ _ _ _ _ _ hw hI)
  | ldc2_w n =>
    simp only [mm_i] at hw
    simp only [mm_okS, Bool.and_eq_true, decide_eq_true_eq] at hok
    obtain ⟨e1, e2⟩ := hok
    subst e1
    obtain ⟨x, e3, h3⟩ := mm_inJ_mem e2
    subst e3
    exact lv_ldc2 hx hb hown (hts _ h3) hd (nx _ _ _ _ _ _ _ _ _ _ _ hw hI)
  | aconst_null =>
    simp only [mm_i] at hw
    simp only [mm_okS, decide_eq_true_eq] at hok
    subst hok
    exact lv_null hx hb hd (nx _ _ _ _ _ _ _ _ _ _ _ hw hI)
  | iload j =>
    simp only [mm_i] at hw
    simp only [mm_okS, decide_eq_true_eq] at hok
    subst hok
    obtain ⟨x, h1, hk⟩ := mm_ldi_inv hw
    exact lv_iload hx hb hd (mm_ls hl h1) (nx _ _ _ _ _ _ _ _ _ _ _ hk hI)
  | iload_n j =>
    simp only [mm_i] at hw
    simp only [mm_okS, Bool.and_eq_true, decide_eq_true_eq] at hok
    obtain ⟨e1, e2⟩ := hok
    subst e1
    obtain ⟨x, h1, hk⟩ := mm_ldi_inv hw
    exact lv_iload_n hx hb hd e2 (mm_ls hl h1) (nx _ _ _ _ _ _ _ _ _ _ _ hk hI)
  | lload j =>
    simp only [mm_i] at hw
    simp only [mm_okS, decide_eq_true_eq] at hok
    subst hok
    obtain ⟨x, h1, hk⟩ := mm_ldl_inv hw
    exact lv_lload hx hb hd (mm_ls hl h1) (nx _ _ _ _ _ _ _ _ _ _ _ hk hI)
  | lload_n j =>
    simp only [mm_i] at hw
    simp only [mm_okS, Bool.and_eq_true, decide_eq_true_eq] at hok
    obtain ⟨e1, e2⟩ := hok
    subst e1
    obtain ⟨x, h1, hk⟩ := mm_ldl_inv hw
    exact lv_lload_n hx hb hd e2 (mm_ls hl h1) (nx _ _ _ _ _ _ _ _ _ _ _ hk hI)
  | aload j =>
    simp only [mm_i] at hw
    simp only [mm_okS, decide_eq_true_eq] at hok
    subst hok
    rcases mm_lda_inv hw with ⟨x, h1, hk⟩ | ⟨h1, hk⟩
    · exact lv_aload hx hb hd (mm_ls hl h1) (nx _ _ _ _ _ _ _ _ _ _ _ hk hI)
    · exact lv_aloadN hx hb hd (mm_ls hl h1) (nx _ _ _ _ _ _ _ _ _ _ _ hk hI)
  | aload_n j =>
    simp only [mm_i] at hw
    simp only [mm_okS, Bool.and_eq_true, decide_eq_true_eq] at hok
    obtain ⟨e1, e2⟩ := hok
    subst e1
    rcases mm_lda_inv hw with ⟨x, h1, hk⟩ | ⟨h1, hk⟩
    · exact lv_aload_n hx hb hd e2 (mm_ls hl h1) (nx _ _ _ _ _ _ _ _ _ _ _ hk hI)
    · exact lv_aload_nN hx hb hd e2 (mm_ls hl h1) (nx _ _ _ _ _ _ _ _ _ _ _ hk hI)
  | istore j =>
    simp only [mm_i] at hw
    simp only [mm_okS, Bool.and_eq_true, decide_eq_true_eq] at hok
    obtain ⟨e1, e2⟩ := hok
    subst e1
    obtain ⟨x, r, e3, hk⟩ := mm_sti_inv hw
    subst e3
    exact lv_istore hx hb hd hl e2 (mm_sto_lm (v := .int x)) (fun ls2 hl2 => nx _ _ _ _ _ _ _ _ _ _ _ hk ⟨hl2, hP, hD, hS, hg, hc1, hc2⟩)
  | istore_n j =>
    simp only [mm_i] at hw
    simp only [mm_okS, Bool.and_eq_true, decide_eq_true_eq] at hok
    obtain ⟨⟨e1, e0⟩, e2⟩ := hok
    subst e1
    obtain ⟨x, r, e3, hk⟩ := mm_sti_inv hw
    subst e3
    exact lv_istore_n hx hb hd e0 hl e2 (mm_sto_lm (v := .int x)) (fun ls2 hl2 => nx _ _ _ _ _ _ _ _ _ _ _ hk ⟨hl2, hP, hD, hS, hg, hc1, hc2⟩)
  | lstore j =>
    simp only [mm_i] at hw
    simp only [mm_okS, Bool.and_eq_true, decide_eq_true_eq] at hok
    obtain ⟨e1, e2⟩ := hok
    subst e1
    obtain ⟨x, r, e3, hk⟩ := mm_stl_inv hw
    subst e3
    exact lv_lstore hx hb hd hl e2 (mm_stw_lm (v := .long x)) (fun ls2 hl2 => nx _ _ _ _ _ _ _ _ _ _ _ hk ⟨hl2, hP, hD, hS, hg, hc1, hc2⟩)
  | lstore_n j =>
    simp only [mm_i] at hw
    simp only [mm_okS, Bool.and_eq_true, decide_eq_true_eq] at hok
    obtain ⟨⟨e1, e0⟩, e2⟩ := hok
    subst e1
    obtain ⟨x, r, e3, hk⟩ := mm_stl_inv hw
    subst e3
    exact lv_lstore_n hx hb hd e0 hl e2 (mm_stw_lm (v := .long x)) (fun ls2 hl2 => nx _ _ _ _ _ _ _ _ _ _ _ hk ⟨hl2, hP, hD, hS, hg, hc1, hc2⟩)
  | astore j =>
    simp only [mm_i] at hw
    simp only [mm_okS, Bool.and_eq_true, decide_eq_true_eq] at hok
    obtain ⟨e1, e2⟩ := hok
    subst e1
    obtain ⟨x, r, e3, hk⟩ := mm_sta_inv hw
    subst e3
    exact lv_astore hx hb hd hl e2 (mm_sto_lm (v := .ref x)) (fun ls2 hl2 => nx _ _ _ _ _ _ _ _ _ _ _ hk ⟨hl2, hP, hD, hS, hg, hc1, hc2⟩)
  | astore_n j =>
    simp only [mm_i] at hw
    simp only [mm_okS, Bool.and_eq_true, decide_eq_true_eq] at hok
    obtain ⟨⟨e1, e0⟩, e2⟩ := hok
    subst e1
    obtain ⟨x, r, e3, hk⟩ := mm_sta_inv hw
    subst e3
    exact lv_astore_n hx hb hd e0 hl e2 (mm_sto_lm (v := .ref x)) (fun ls2 hl2 => nx _ _ _ _ _ _ _ _ _ _ _ hk ⟨hl2, hP, hD, hS, hg, hc1, hc2⟩)
  | iinc j n =>
    simp only [mm_i] at hw
    simp only [mm_okS, Bool.and_eq_true, decide_eq_true_eq] at hok
    obtain ⟨⟨e1, e0⟩, e2⟩ := hok
    subst e1
    obtain ⟨x, q, h1, e3, hk⟩ := mm_inc_inv hw
    rw [e3] at e0
    obtain ⟨k2, hk2⟩ := mm_lm_at (ad := ad) h1
    exact lv_iinc hx hb hd hl hk2 (by rw [← Value.int.inj e0]) e2 (mm_sto_lm (v := .int (x + q))) (fun ls2 hl2 => nx _ _ _ _ _ _ _ _ _ _ _ hk ⟨hl2, hP, hD, hS, hg, hc1, hc2⟩)
  | iadd =>
    simp only [mm_i] at hw
    simp only [mm_okS, decide_eq_true_eq] at hok
    subst hok
    obtain ⟨x, y, r, e3, hk⟩ := mm_i2_inv hw
    subst e3
    exact lv_iadd hx hb hd (nx _ _ _ _ _ _ _ _ _ _ _ hk hI)
  | isub =>
    simp only [mm_i] at hw
    simp only [mm_okS, decide_eq_true_eq] at hok
    subst hok
    obtain ⟨x, y, r, e3, hk⟩ := mm_i2_inv hw
    subst e3
    exact lv_isub hx hb hd (nx _ _ _ _ _ _ _ _ _ _ _ hk hI)
  | imul =>
    simp only [mm_i] at hw
    simp only [mm_okS, decide_eq_true_eq] at hok
    subst hok
    obtain ⟨x, y, r, e3, hk⟩ := mm_i2_inv hw
    subst e3
    exact lv_imul hx hb hd (nx _ _ _ _ _ _ _ _ _ _ _ hk hI)
  | iand =>
    simp only [mm_i] at hw
    simp only [mm_okS, decide_eq_true_eq] at hok
    subst hok
    obtain ⟨x, y, r, e3, hk⟩ := mm_i2_inv hw
    subst e3
    exact lv_iand hx hb hd (nx _ _ _ _ _ _ _ _ _ _ _ hk hI)
  | ior =>
    simp only [mm_i] at hw
    simp only [mm_okS, decide_eq_true_eq] at hok
    subst hok
    obtain ⟨x, y, r, e3, hk⟩ := mm_i2_inv hw
    subst e3
    exact lv_ior hx hb hd (nx _ _ _ _ _ _ _ _ _ _ _ hk hI)
  | ixor =>
    simp only [mm_i] at hw
    simp only [mm_okS, decide_eq_true_eq] at hok
    subst hok
    obtain ⟨x, y, r, e3, hk⟩ := mm_i2_inv hw
    subst e3
    exact lv_ixor hx hb hd (nx _ _ _ _ _ _ _ _ _ _ _ hk hI)
  | ishl =>
    simp only [mm_i] at hw
    simp only [mm_okS, decide_eq_true_eq] at hok
    subst hok
    obtain ⟨x, y, r, e3, hk⟩ := mm_i2_inv hw
    subst e3
    exact lv_ishl hx hb hd (nx _ _ _ _ _ _ _ _ _ _ _ hk hI)
  | ishr =>
    simp only [mm_i] at hw
    simp only [mm_okS, decide_eq_true_eq] at hok
    subst hok
    obtain ⟨x, y, r, e3, hk⟩ := mm_i2_inv hw
    subst e3
    exact lv_ishr hx hb hd (nx _ _ _ _ _ _ _ _ _ _ _ hk hI)
  | iushr =>
    simp only [mm_i] at hw
    simp only [mm_okS, decide_eq_true_eq] at hok
    subst hok
    obtain ⟨x, y, r, e3, hk⟩ := mm_i2_inv hw
    subst e3
    exact lv_iushr hx hb hd rfl (nx _ _ _ _ _ _ _ _ _ _ _ hk hI)
  | idiv =>
    simp only [mm_i] at hw
    simp only [mm_okS, decide_eq_true_eq] at hok
    subst hok
    obtain ⟨x, y, r, e3, hne, hk⟩ := mm_d2_inv hw
    subst e3
    exact lv_idiv hx hb hd hne (nx _ _ _ _ _ _ _ _ _ _ _ hk hI)
  | irem =>
    simp only [mm_i] at hw
    simp only [mm_okS, decide_eq_true_eq] at hok
    subst hok
    obtain ⟨x, y, r, e3, hne, hk⟩ := mm_d2_inv hw
    subst e3
    exact lv_irem hx hb hd hne (nx _ _ _ _ _ _ _ _ _ _ _ hk hI)
  | ineg =>
    simp only [mm_i] at hw
    simp only [mm_okS, decide_eq_true_eq] at hok
    subst hok
    obtain ⟨x, r, e3, hk⟩ := mm_i1_inv hw
    subst e3
    exact lv_ineg hx hb hd (nx _ _ _ _ _ _ _ _ _ _ _ hk hI)
  | i2b =>
    simp only [mm_i] at hw
    simp only [mm_okS, decide_eq_true_eq] at hok
    subst hok
    obtain ⟨x, r, e3, hk⟩ := mm_i1_inv hw
    subst e3
    exact lv_i2b hx hb hd rfl (nx _ _ _ _ _ _ _ _ _ _ _ hk hI)
  | i2c =>
    simp only [mm_i] at hw
    simp only [mm_okS, decide_eq_true_eq] at hok
    subst hok
    obtain ⟨x, r, e3, hk⟩ := mm_i1_inv hw
    subst e3
    exact lv_i2c hx hb hd rfl (nx _ _ _ _ _ _ _ _ _ _ _ hk hI)
  | i2l =>
    simp only [mm_i] at hw
    simp only [mm_okS, decide_eq_true_eq] at hok
    subst hok
    obtain ⟨x, r, e3, hk⟩ := mm_i2l_inv hw
    subst e3
    exact lv_i2l hx hb hd rfl (nx _ _ _ _ _ _ _ _ _ _ _ hk hI)
  | l2i =>
    simp only [mm_i] at hw
    simp only [mm_okS, decide_eq_true_eq] at hok
    subst hok
    obtain ⟨x, r, e3, hk⟩ := mm_l2i_inv hw
    subst e3
    exact lv_l2i hx hb hd rfl (nx _ _ _ _ _ _ _ _ _ _ _ hk hI)
  | ladd =>
    simp only [mm_i] at hw
    simp only [mm_okS, decide_eq_true_eq] at hok
    subst hok
    obtain ⟨x, y, r, e3, hk⟩ := mm_l2_inv hw
    subst e3
    exact lv_ladd hx hb hd (nx _ _ _ _ _ _ _ _ _ _ _ hk hI)
  | lsub =>
    simp only [mm_i] at hw
    simp only [mm_okS, decide_eq_true_eq] at hok
    subst hok
    obtain ⟨x, y, r, e3, hk⟩ := mm_l2_inv hw
    subst e3
    exact lv_lsub hx hb hd (nx _ _ _ _ _ _ _ _ _ _ _ hk hI)
  | lmul =>
    simp only [mm_i] at hw
    simp only [mm_okS, decide_eq_true_eq] at hok
    subst hok
    obtain ⟨x, y, r, e3, hk⟩ := mm_l2_inv hw
    subst e3
    exact lv_lmul hx hb hd (nx _ _ _ _ _ _ _ _ _ _ _ hk hI)
  | lcmp =>
    simp only [mm_i] at hw
    simp only [mm_okS, decide_eq_true_eq] at hok
    subst hok
    obtain ⟨x, y, r, e3, hk⟩ := mm_lcmp_inv hw
    subst e3
    exact W.lcmp hx hb hd (nx _ _ _ _ _ _ _ _ _ _ _ hk hI)
  | dup =>
    simp only [mm_i] at hw
    simp only [mm_okS, decide_eq_true_eq] at hok
    subst hok
    obtain ⟨v1, r, e3, h1, hk⟩ := mm_dup_inv hw
    subst e3
    exact lv_dup hx hb hd (by rw [mm_vr_cat]; exact h1) (nx _ _ _ _ _ _ _ _ _ _ _ hk hI)
  | pop =>
    simp only [mm_i] at hw
    simp only [mm_okS, decide_eq_true_eq] at hok
    subst hok
    obtain ⟨v1, r, e3, h1, hk⟩ := mm_pop_inv hw
    subst e3
    exact lv_pop hx hb hd (by rw [mm_vr_cat]; exact h1) (nx _ _ _ _ _ _ _ _ _ _ _ hk hI)
  | dup2 =>
    simp only [mm_i] at hw
    simp only [mm_okS, decide_eq_true_eq] at hok
    subst hok
    obtain ⟨v1, v2, r, e3, h1, h2, hk⟩ := mm_dup2_inv hw
    subst e3
    exact lv_dup2_11 hx hb hd (by rw [mm_vr_cat]; exact h1) (by rw [mm_vr_cat]; exact h2) (nx _ _ _ _ _ _ _ _ _ _ _ hk hI)
  | goto z =>
    simp only [mm_i] at hw
    simp only [mm_okS, Bool.and_eq_true, decide_eq_true_eq] at hok
    obtain ⟨e1, e2⟩ := hok
    subst e1
    obtain ⟨tg, e3, jq⟩ := jp _ _ e2
    exact lv_goto hx hb hd e3 (jq _ _ _ _ _ _ _ _ _ _ _ hw hI)
  | ifCond cd z =>
    simp only [mm_i] at hw
    simp only [mm_okS, Bool.and_eq_true, decide_eq_true_eq] at hok
    obtain ⟨e1, e2⟩ := hok
    subst e1
    obtain ⟨tg, e3, jq⟩ := jp _ _ e2
    obtain ⟨x, r, e4, hk1, hk2⟩ := mm_if_inv hw
    subst e4
    cases cd with
    | eq => exact lv_if_eq hx hb hd e3 (fun hn => jq _ _ _ _ _ _ _ _ _ _ _ (hk1 hn) hI) (fun hn => nx _ _ _ _ _ _ _ _ _ _ _ (hk2 hn) hI)
    | ne => exact lv_if_ne hx hb hd e3 (fun hn => jq _ _ _ _ _ _ _ _ _ _ _ (hk1 hn) hI) (fun hn => nx _ _ _ _ _ _ _ _ _ _ _ (hk2 (fun hq => hq hn)) hI)
    | lt => exact lv_if_lt hx hb hd e3 (fun hn => jq _ _ _ _ _ _ _ _ _ _ _ (hk1 hn) hI) (fun hn => nx _ _ _ _ _ _ _ _ _ _ _ (hk2 hn) hI)
    | ge => exact lv_if_ge hx hb hd e3 (fun hn => jq _ _ _ _ _ _ _ _ _ _ _ (hk1 hn) hI) (fun hn => nx _ _ _ _ _ _ _ _ _ _ _ (hk2 hn) hI)
    | gt => exact lv_if_gt hx hb hd e3 (fun hn => jq _ _ _ _ _ _ _ _ _ _ _ (hk1 hn) hI) (fun hn => nx _ _ _ _ _ _ _ _ _ _ _ (hk2 hn) hI)
    | le => exact lv_if_le hx hb hd e3 (fun hn => jq _ _ _ _ _ _ _ _ _ _ _ (hk1 hn) hI) (fun hn => nx _ _ _ _ _ _ _ _ _ _ _ (hk2 hn) hI)
  | if_icmp cd z =>
    simp only [mm_i] at hw
    simp only [mm_okS, Bool.and_eq_true, decide_eq_true_eq] at hok
    obtain ⟨e1, e2⟩ := hok
    subst e1
    obtain ⟨tg, e3, jq⟩ := jp _ _ e2
    obtain ⟨x, y, r, e4, hk1, hk2⟩ := mm_icmp_inv hw
    subst e4
    cases cd with
    | eq => exact lv_icmp_eq hx hb hd e3 (fun hn => jq _ _ _ _ _ _ _ _ _ _ _ (hk1 hn) hI) (fun hn => nx _ _ _ _ _ _ _ _ _ _ _ (hk2 hn) hI)
    | ne => exact lv_icmp_ne hx hb hd e3 (fun hn => jq _ _ _ _ _ _ _ _ _ _ _ (hk1 hn) hI) (fun hn => nx _ _ _ _ _ _ _ _ _ _ _ (hk2 (fun hq => hq hn)) hI)
    | lt => exact lv_icmp_lt hx hb hd e3 (fun hn => jq _ _ _ _ _ _ _ _ _ _ _ (hk1 hn) hI) (fun hn => nx _ _ _ _ _ _ _ _ _ _ _ (hk2 hn) hI)
    | ge => exact lv_icmp_ge hx hb hd e3 (fun hn => jq _ _ _ _ _ _ _ _ _ _ _ (hk1 hn) hI) (fun hn => nx _ _ _ _ _ _ _ _ _ _ _ (hk2 hn) hI)
    | gt => exact lv_icmp_gt hx hb hd e3 (fun hn => jq _ _ _ _ _ _ _ _ _ _ _ (hk1 hn) hI) (fun hn => nx _ _ _ _ _ _ _ _ _ _ _ (hk2 hn) hI)
    | le => exact lv_icmp_le hx hb hd e3 (fun hn => jq _ _ _ _ _ _ _ _ _ _ _ (hk1 hn) hI) (fun hn => nx _ _ _ _ _ _ _ _ _ _ _ (hk2 hn) hI)
  | ifnull z =>
    simp only [mm_i] at hw
    simp only [mm_okS, Bool.and_eq_true, decide_eq_true_eq] at hok
    obtain ⟨e1, e2⟩ := hok
    subst e1
    obtain ⟨tg, e3, jq⟩ := jp _ _ e2
    rcases mm_ifn_inv hw with ⟨r, e4, hk⟩ | ⟨a1, r, e4, hk⟩
    · subst e4
      exact lv_ifnullN hx hb hd e3 (jq _ _ _ _ _ _ _ _ _ _ _ hk hI)
    · subst e4
      exact lv_ifnull hx hb hd (nx _ _ _ _ _ _ _ _ _ _ _ hk hI)
  | tableswitch df lo hi offs =>
    simp only [mm_i] at hw
    simp only [mm_okS, Bool.and_eq_true, decide_eq_true_eq] at hok
    exact mm_swW (Xt := Xt) hx hb hd hok jp hw hI
  | getfield n =>
    simp only [mm_i] at hw
    simp only [mm_okS, Bool.and_eq_true, decide_eq_true_eq] at hok
    obtain ⟨e1, e2⟩ := hok
    subst e1
    obtain ⟨p0, hp0⟩ := mm_inF_mem e2
    obtain ⟨w1, w2, w3⟩ := mm_wF _ hp0
    obtain ⟨CC, TT, NN, ty, g1, g2, g3, g4, g5, g6, g7, g8, g9, g10⟩ := mm_cls a w3
    obtain ⟨a1, r, fs, v1, e4, h1, h2, hk⟩ := mm_getf_inv hw
    subst e4
    simp only [mm_fT, g2] at w1 w2
    exact va_get (v := mm_vr ad v1) (fs := fs.map (mm_vr ad)) hx hb hts g4 hown hK hP a1 (mm_wr_at h1) g1 b w2 (hts _ (mm_tw w1 rfl)) (fun _ h9 => h9) (by rw [List.getElem?_map, ← mm_at_eq, h2]; rfl) hd (nx _ _ _ _ _ _ _ _ _ _ _ hk hI)
  | putfield n =>
    simp only [mm_i] at hw
    simp only [mm_okS, Bool.and_eq_true, decide_eq_true_eq] at hok
    obtain ⟨⟨⟨e1, e2⟩, e5⟩, e6⟩ := hok
    subst e1
    obtain ⟨p0, hp0⟩ := mm_inF_mem e2
    obtain ⟨w1, w2, w3⟩ := mm_wF _ hp0
    obtain ⟨CC, TT, NN, ty, g1, g2, g3, g4, g5, g6, g7, g8, g9, g10⟩ := mm_cls a w3
    obtain ⟨v1, a1, r, fs, e4, h1, h0, h2, hk⟩ := mm_putf_inv hw
    subst e4
    simp only [mm_fT, g2] at w1 w2
    rw [g3] at e5
    have hnf : narrow (ty b) (mm_vr ad v1) = mm_vr ad v1 ∧ fits (ty b) (mm_vr ad v1) = true := mm_nf (e5 ▸ h2)
    have hset : (mm_wr E ad h).set a1 (ad a1, .inr (a, (fs.map (mm_vr ad)).set b (mm_vr ad v1))) = mm_wr E ad (mm_set h a1 (.inr (a, mm_set fs b v1))) := by
      rw [← mm_wr_set]
      simp only [mm_er]
      rw [mm_set_eq, List.map_set]
    have hlen : b < (fs.map (mm_vr ad)).length := by rw [List.length_map]; exact h0
    cases hf : mm_fin a b with
    | false =>
      exact va_put (v := mm_vr ad v1) (fs := fs.map (mm_vr ad)) hx hb hts g4 ty g5 g6 hown hK hP hD hS a1 (mm_wr_at h1) g1 b w2 (hts _ (mm_tw w1 rfl)) (fun _ h9 => h9) (by have h9 := hf; simp only [mm_fin, mm_at_eq, g1] at h9; exact h9) (g5 b w2) hnf.1 hnf.2 hlen hd (fun H1 locs1 hP1 hD1 hS1 => nx _ _ _ _ _ _ _ _ _ _ _ hk ⟨hl, hset ▸ hP1, hset ▸ hD1, hS1, by rw [mm_set_len]; exact hg, hc1, hc2⟩)
    | true =>
      rw [hf] at e6
      simp only [cond_true, Bool.and_eq_true, decide_eq_true_eq] at e6
      exact va_putF (v := mm_vr ad v1) (fs := fs.map (mm_vr ad)) hx hb hts g4 ty g5 g6 hown hK hP hD hS a1 (mm_wr_at h1) g1 b w2 (hts _ (mm_tw w1 rfl)) (fun _ h9 => h9) (by have h9 := hf; simp only [mm_fin, mm_at_eq, g1] at h9; exact h9) (by rw [hname]; exact e6.1) (by have h9 := e6.2; simp only [mm_fcl, mm_at_eq, g1] at h9; exact h9) (g5 b w2) hnf.1 hnf.2 hlen hd (fun H1 locs1 hP1 hD1 hS1 => nx _ _ _ _ _ _ _ _ _ _ _ hk ⟨hl, hset ▸ hP1, hset ▸ hD1, hS1, by rw [mm_set_len]; exact hg, hc1, hc2⟩)
  | iaload =>
    simp only [mm_i] at hw
    simp only [mm_okS, decide_eq_true_eq] at hok
    subst hok
    obtain ⟨i1, a1, r, n1, f1, e4, h1, h2, hk⟩ := mm_iald_inv hw
    subst e4
    exact va_iald hx hb hK hP a1 0 (mm_wr_at h1) rfl h2 hd (nx _ _ _ _ _ _ _ _ _ _ _ hk hI)
  | laload =>
    simp only [mm_i] at hw
    simp only [mm_okS, decide_eq_true_eq] at hok
    subst hok
    obtain ⟨i1, a1, r, n1, f1, e4, h1, h2, hk⟩ := mm_lald_inv hw
    subst e4
    exact va_lald hx hb hK hP a1 3 (mm_wr_at h1) rfl h2 hd (nx _ _ _ _ _ _ _ _ _ _ _ hk hI)
  | baload =>
    simp only [mm_i] at hw
    simp only [mm_okS, decide_eq_true_eq] at hok
    subst hok
    obtain ⟨i1, a1, r, t1, n1, f1, e4, h1, h3, h2, hk⟩ := mm_bald_inv hw
    subst e4
    rcases h3 with e5 | e5
    · subst e5
      exact va_bald hx hb hK hP a1 1 (mm_wr_at h1) rfl h2 hd (nx _ _ _ _ _ _ _ _ _ _ _ hk hI)
    · subst e5
      exact va_zald hx hb hK hP a1 2 (mm_wr_at h1) rfl h2 hd (nx _ _ _ _ _ _ _ _ _ _ _ hk hI)
  | aaload =>
    simp only [mm_i] at hw
    simp only [mm_okS, decide_eq_true_eq] at hok
    subst hok
    obtain ⟨i1, a1, r, n1, f1, e4, h1, h2, hk⟩ := mm_aald_inv hw
    subst e4
    refine va_aldq hx hb hK hP a1 4 (mm_wr_at h1) rfl h2 hd ?_
    have e5 : va_rf (if i1.toNatClampNeg < n1 then (f1 i1.toNatClampNeg).map ad else none) = mm_vr ad (va_rf (f1 i1.toNatClampNeg)) := by
      rw [if_pos (Nat.not_le.mp fun q => h2 (Or.inr q))]
      cases f1 i1.toNatClampNeg <;> rfl
    rw [e5]
    exact nx _ _ _ _ _ _ _ _ _ _ _ hk hI
  | iastore =>
    simp only [mm_i] at hw
    simp only [mm_okS, decide_eq_true_eq] at hok
    subst hok
    obtain ⟨x1, i1, a1, r, n1, f1, e4, h1, h2, hk⟩ := mm_iast_inv hw
    subst e4
    exact va_iast hx hb hK hP hD hS a1 0 (mm_wr_at h1) rfl h2 hd (fun H1 locs1 hP1 hD1 hS1 => nx _ _ _ _ _ _ _ _ _ _ _ hk ⟨hl, by rw [← mm_wr_set]; exact hP1, by rw [← mm_wr_set]; exact hD1, hS1, by rw [mm_set_len]; exact hg, hc1, hc2⟩)
  | lastore =>
    simp only [mm_i] at hw
    simp only [mm_okS, decide_eq_true_eq] at hok
    subst hok
    obtain ⟨x1, i1, a1, r, n1, f1, e4, h1, h2, hk⟩ := mm_last_inv hw
    subst e4
    exact va_last hx hb hK hP hD hS a1 3 (mm_wr_at h1) rfl h2 hd (fun H1 locs1 hP1 hD1 hS1 => nx _ _ _ _ _ _ _ _ _ _ _ hk ⟨hl, by rw [← mm_wr_set]; exact hP1, by rw [← mm_wr_set]; exact hD1, hS1, by rw [mm_set_len]; exact hg, hc1, hc2⟩)
  | bastore =>
    simp only [mm_i] at hw
    simp only [mm_okS, decide_eq_true_eq] at hok
    subst hok
    obtain ⟨x1, i1, a1, r, n1, f1, e4, h2, h3⟩ := mm_bast_inv hw
    subst e4
    rcases h3 with ⟨h1, hk⟩ | ⟨h1, hk⟩
    · exact va_bast hx hb hK hP hD hS a1 1 (mm_wr_at h1) rfl h2 hd (fun H1 locs1 hP1 hD1 hS1 => nx _ _ _ _ _ _ _ _ _ _ _ hk ⟨hl, by rw [← mm_wr_set]; exact hP1, by rw [← mm_wr_set]; exact hD1, hS1, by rw [mm_set_len]; exact hg, hc1, hc2⟩)
    · exact va_zast hx hb hK hP hD hS a1 2 (mm_wr_at h1) rfl h2 hd (fun H1 locs1 hP1 hD1 hS1 => nx _ _ _ _ _ _ _ _ _ _ _ hk ⟨hl, by rw [← mm_wr_set]; exact hP1, by rw [← mm_wr_set]; exact hD1, hS1, by rw [mm_set_len]; exact hg, hc1, hc2⟩)
  | aastore =>
    simp only [mm_i] at hw
    simp only [mm_okS, decide_eq_true_eq] at hok
    subst hok
    obtain ⟨v1, i1, a1, r, n1, f1, fs1, e4, h1, h5, h2, hk⟩ := mm_aast_inv hw
    subst e4
    have hup : va_up (fun i => if i < n1 then (f1 i).map ad else none) i1.toNatClampNeg (some (ad v1)) = fun i => if i < n1 then (va_up f1 i1.toNatClampNeg (some v1) i).map ad else none := by
      funext i
      unfold va_up
      by_cases hi : i = i1.toNatClampNeg
      · subst hi
        rw [if_pos (Nat.not_le.mp fun q => h2 (Or.inr q))]
        simp
      · simp [hi]
    have hset : (mm_wr E ad h).set a1 (ad a1, .inl (E 4, n1, .inr (.inr (.inr (.inr (va_up (fun i => if i < n1 then (f1 i).map ad else none) i1.toNatClampNeg (some (ad v1)))))))) = mm_wr E ad (mm_set h a1 (.inl (4, n1, .inr (.inr (.inr (.inr (va_up f1 i1.toNatClampNeg (some v1)))))))) := by
      rw [← mm_wr_set, hup]
      rfl
    exact va_astq hx hb hK hP hD hS a1 4 v1 2 (r := (RX2, TX2, 6)) (mm_wr_at h1) rfl (mm_wr_at h5) rfl h2 hd (fun H1 locs1 hP1 hD1 hS1 => nx _ _ _ _ _ _ _ _ _ _ _ hk ⟨hl, hset ▸ hP1, hset ▸ hD1, hS1, by rw [mm_set_len]; exact hg, hc1, hc2⟩)
  | arraylength =>
    simp only [mm_i] at hw
    simp only [mm_okS, decide_eq_true_eq] at hok
    subst hok
    obtain ⟨a1, r, t0, x1, e4, h1, h2, hk⟩ := mm_alen_inv hw
    obtain ⟨t1, rfl⟩ : ∃ t1 : Nat, t1 = t0 := ⟨t0, rfl⟩
    subst e4
    obtain ⟨y1, e5, e6⟩ := mm_er_arr (E := E) (ad := ad) t1 x1
    obtain ⟨ty1, hty⟩ : ∃ ty, (mm_ty E)[t1]? = some (E t1, ty) := by
      have h2n : (t1 : Nat) ≤ 4 := h2
      rcases (show t1 = 0 ∨ t1 = 1 ∨ t1 = 2 ∨ t1 = 3 ∨ t1 = 4 by omega) with e | e | e | e | e <;> subst e <;> exact ⟨_, rfl⟩
    exact va_alen hx hb hK hP a1 t1 (by rw [mm_wr_at h1, e5]) hty (by rw [e6]) hd (nx _ _ _ _ _ _ _ _ _ _ _ hk hI)
  | newarray aty =>
    simp only [mm_i] at hw
    simp only [mm_okS, Bool.and_eq_true, decide_eq_true_eq] at hok
    obtain ⟨⟨e1, e2⟩, e3⟩ := hok
    subst e1
    obtain ⟨n1, r, e4, q1, q2, q3, q4, q5, q6, q7, q8, hk⟩ := mm_newa_inv hw
    subst e4
    cases aty with
    | int =>
      obtain rfl : 0 = a := e2
      refine va_newa (atype := .int) (ty := .int) (N' := b) (a0 := (b, .inl (fun _ => 0))) hx hb (hts _ mm_w6) rfl hK hP hD hS hA0 (fun _ => rfl) q1 q2 (Nat.le_trans (Nat.mul_le_mul_left b (by decide)) q3) (by show cells + 1 ≤ mc; omega) (by show slots + b ≤ ms; omega) hd (fun q cA H1 hK1 hP1 hD1 hS1 => ?_)
      have eA : cA = E 0 := Option.some.inj ((hK1.2 5 (cA, .int) rfl).2.symm.trans (hK.2 0 (E 0, .int) rfl).2)
      subst eA
      rw [← mm_grow_st (ad := ad) (q := q) q7]
      exact nx _ _ _ _ _ _ _ _ _ _ _ hk (mm_grow hI q6 q8 rfl hP1 hD1 hS1 q4 q5)
    | byte =>
      obtain rfl : 1 = a := e2
      refine va_newa (atype := .byte) (ty := .byte) (N' := b) (a0 := (b, .inl (fun _ => 0))) hx hb (hts _ mm_w7) rfl hK hP hD hS hA0 (fun _ => rfl) q1 q2 (Nat.le_trans (Nat.mul_le_mul_left b (by decide)) q3) (by show cells + 1 ≤ mc; omega) (by show slots + b ≤ ms; omega) hd (fun q cA H1 hK1 hP1 hD1 hS1 => ?_)
      have eA : cA = E 1 := Option.some.inj ((hK1.2 5 (cA, .byte) rfl).2.symm.trans (hK.2 1 (E 1, .byte) rfl).2)
      subst eA
      rw [← mm_grow_st (ad := ad) (q := q) q7]
      exact nx _ _ _ _ _ _ _ _ _ _ _ hk (mm_grow hI q6 q8 rfl hP1 hD1 hS1 q4 q5)
    | boolean =>
      obtain rfl : 2 = a := e2
      refine va_newa (atype := .boolean) (ty := .boolean) (N' := b) (a0 := (b, .inl (fun _ => 0))) hx hb (hts _ mm_w8) rfl hK hP hD hS hA0 (fun _ => rfl) q1 q2 (Nat.le_trans (Nat.mul_le_mul_left b (by decide)) q3) (by show cells + 1 ≤ mc; omega) (by show slots + b ≤ ms; omega) hd (fun q cA H1 hK1 hP1 hD1 hS1 => ?_)
      have eA : cA = E 2 := Option.some.inj ((hK1.2 5 (cA, .boolean) rfl).2.symm.trans (hK.2 2 (E 2, .boolean) rfl).2)
      subst eA
      rw [← mm_grow_st (ad := ad) (q := q) q7]
      exact nx _ _ _ _ _ _ _ _ _ _ _ hk (mm_grow hI q6 q8 rfl hP1 hD1 hS1 q4 q5)
    | long =>
      obtain rfl : 3 = a := e2
      refine va_newa (atype := .long) (ty := .long) (N' := b) (a0 := (b, .inr (.inl (fun _ => 0)))) hx hb (hts _ mm_w9) rfl hK hP hD hS hA0 (fun _ => rfl) q1 q2 (Nat.le_trans (Nat.mul_le_mul_left b (by decide)) q3) (by show cells + 1 ≤ mc; omega) (by show slots + b ≤ ms; omega) hd (fun q cA H1 hK1 hP1 hD1 hS1 => ?_)
      have eA : cA = E 3 := Option.some.inj ((hK1.2 5 (cA, .long) rfl).2.symm.trans (hK.2 3 (E 3, .long) rfl).2)
      subst eA
      rw [← mm_grow_st (ad := ad) (q := q) q7]
      exact nx _ _ _ _ _ _ _ _ _ _ _ hk (mm_grow hI q6 q8 rfl hP1 hD1 hS1 q4 q5)
    | char => exact absurd e3 (by rw [← e2]; decide)
    | float => exact absurd e3 (by rw [← e2]; decide)
    | double => exact absurd e3 (by rw [← e2]; decide)
    | short => exact absurd e3 (by rw [← e2]; decide)
  | anewarray n =>
    simp only [mm_i] at hw
    simp only [mm_okS, Bool.and_eq_true, decide_eq_true_eq] at hok
    obtain ⟨e1, e2⟩ := hok
    subst e1
    obtain ⟨p0, hp0⟩ := mm_in3_mem e2
    have w1 := mm_tw (mm_wL _ hp0) rfl
    obtain ⟨n1, r, e4, q1, q2, q3, q4, q5, q6, q7, q8, hk⟩ := mm_newa_inv hw
    subst e4
    refine va_newq (C := RX2) (N' := b) hx hb hown (hts _ w1) (hX.2.2.2 A s hXt) hK hP hD hS hA0 q1 q2 (by omega) (by show cells + 1 ≤ mc; omega) (by show slots + b ≤ ms; omega) hd (fun q cA H1 hK1 hP1 hD1 hS1 => ?_)
    obtain ⟨kA1, cp1, f1, f2, f3, f4⟩ := (hK1.2 5 (cA, .object RX2) rfl).2
    obtain ⟨kA2, cp2, g1, g2, g3, g4⟩ := (hK.2 4 (E 4, .object RX2) rfl).2
    have eA : cA = E 4 := Option.some.inj (f4.symm.trans g4)
    subst eA
    rw [← mm_grow_st (ad := ad) (q := q) q7]
    exact nx _ _ _ _ _ _ _ _ _ _ _ hk (mm_grow hI q6 q8 (by simp [mm_fresh, mm_er]) hP1 hD1 hS1 q4 q5)
  | new n =>
    simp only [mm_i] at hw
    simp only [mm_okS, Bool.and_eq_true, decide_eq_true_eq] at hok
    obtain ⟨⟨e1, e2⟩, e3⟩ := hok
    subst e1
    have h13 : a < 13 := Nat.lt_succ_of_le (Nat.le_of_ble_eq_true e3)
    obtain ⟨p0, hp0⟩ := mm_in3_mem e2
    have w1 := mm_tw (mm_wL _ hp0) rfl
    obtain ⟨CC, TT, NN, ty, g1, g2, g3, g4, g5, g6, g7, g8, g9, g10⟩ := mm_cls a h13
    simp only [g2] at w1
    obtain ⟨q4, q5, q6, q7, q8, hk⟩ := mm_new_inv hw
    rw [g8] at q5
    refine va_new (fs := mm_Fk a) hx hb hts g4 ty g5 hown (hts _ w1) (hts _ g10) (hts _ g9) hK hP hD hS hA0 g1 g7 (by show cells + 1 ≤ mc; omega) (by show slots + NN ≤ ms; omega) hd (fun q H1 hP1 hD1 hS1 => ?_)
    rw [← mm_grow_st (ad := ad) (q := q) q7]
    rw [g8] at hk
    exact nx _ _ _ _ _ _ _ _ _ _ _ hk (mm_grow hI q6 q8 (by simp only [mm_er]; rw [mm_Fk_vr _ h13]) hP1 hD1 hS1 q4 q5)
  | invokestatic n =>
    simp only [mm_i] at hw
    simp only [mm_okS, Bool.and_eq_true, decide_eq_true_eq] at hok
    obtain ⟨e1, e2⟩ := hok
    subst e1
    cases h99 : Nat.beq (ts.headD 0) 99 with
    | true =>
      rw [h99] at e2
      simp only [cond_true] at e2
      have hw2 : mm_cpy h st (fun s h => k cs lc s h bc bs) := by
        have h9 := hw
        simp only [mm_i, h99, cond_true] at h9
        exact h9
      obtain ⟨p0, hp0⟩ := mm_in3_mem e2
      have w1 := mm_tw (mm_wA _ hp0) rfl
      obtain ⟨n1, dp, b1, sp, a1, r, m0, f1, m1, g1, e4, h1, h2, h3, h4, h5, h6, h7, h8, hk⟩ := mm_cpy_inv hw2
      subst e4
      exact va_copyi hx hb (hml.trans hl.1.symm) hown (hts _ w1) (hts _ mm_w3) (hts _ mm_w4) (hts _ mm_w5) hK hP hD hS a1 b1 0 0 (mm_wr_at h1) (mm_wr_at h2) rfl rfl rfl h4 h5 h6 h7 h8 (fun _ _ => rfl) (by show 1 ≤ d + 1; omega) (by
        rw [mm_cat_map]
        show mm_cat r + (nativeFrameWords "java/lang/System" "arraycopy" 5 + 11) ≤ 64 * (d + 1)
        have e9 : nativeFrameWords "java/lang/System" "arraycopy" 5 = 7 := by decide
        omega) hd (fun H1 locs1 hP1 hD1 hS1 => nx _ _ _ _ _ _ _ _ _ _ _ hk ⟨hl, by rw [← mm_wr_set]; exact hP1, by rw [← mm_wr_set]; exact hD1, hS1, by rw [mm_set_len]; exact hg, hc1, hc2⟩)
    | false =>
      rw [h99] at e2
      simp only [cond_false] at e2
      by_cases h91 : Nat.beq (ts.headD 0) 91 = true
      · rw [h91] at e2
        simp only [cond_true] at e2
        have hw2 : mm_mm mm_max st (fun s => k cs lc s h bc bs) := by
          have h9 := hw
          simp only [h99, h91, cond_true, cond_false] at h9
          exact h9
        obtain ⟨p0, hp0⟩ := mm_in3_mem e2
        have w1 := mm_tw (mm_wK _ hp0) rfl
        obtain ⟨x, y, r, e4, h3, hk⟩ := mm_mm_inv hw2
        subst e4
        exact va_mmax hx hb (hml.trans hl.1.symm) hown (hts _ w1) (hts _ mm_wS91) (hts _ mm_wmi) (hts _ mm_wC91) (by show 1 ≤ d + 1; omega) (by rw [mm_cat_map]; show mm_cat r + 13 ≤ 64 * (d + 1); omega) (by show cells ≤ mc; omega) (by show slots ≤ ms; omega) hd (nx _ _ _ _ _ _ _ _ _ _ _ hk hI)
      rw [Bool.not_eq_true] at h91
      rw [h91] at e2
      simp only [cond_false] at e2
      by_cases h92 : Nat.beq (ts.headD 0) 92 = true
      · rw [h92] at e2
        simp only [cond_true] at e2
        have hw2 : mm_mm mm_min st (fun s => k cs lc s h bc bs) := by
          have h9 := hw
          simp only [h99, h91, h92, cond_true, cond_false] at h9
          exact h9
        obtain ⟨p0, hp0⟩ := mm_in3_mem e2
        have w1 := mm_tw (mm_wK _ hp0) rfl
        obtain ⟨x, y, r, e4, h3, hk⟩ := mm_mm_inv hw2
        subst e4
        exact va_mmin hx hb (hml.trans hl.1.symm) hown (hts _ w1) (hts _ mm_wS92) (hts _ mm_wmi) (hts _ mm_wC92) (by show 1 ≤ d + 1; omega) (by rw [mm_cat_map]; show mm_cat r + 13 ≤ 64 * (d + 1); omega) (by show cells ≤ mc; omega) (by show slots ≤ ms; omega) hd (nx _ _ _ _ _ _ _ _ _ _ _ hk hI)
      rw [Bool.not_eq_true] at h92
      rw [h92] at e2
      simp only [cond_false] at e2
      by_cases h93 : Nat.beq (ts.headD 0) 93 = true
      · rw [h93] at e2
        simp only [cond_true] at e2
        have hw2 : mm_m1 mm_abs st (fun s => k cs lc s h bc bs) := by
          have h9 := hw
          simp only [h99, h91, h92, h93, cond_true, cond_false] at h9
          exact h9
        obtain ⟨p0, hp0⟩ := mm_in3_mem e2
        have w1 := mm_tw (mm_wK _ hp0) rfl
        obtain ⟨x, r, e4, h3, hk⟩ := mm_m1_inv hw2
        subst e4
        exact va_mabs hx hb (hml.trans hl.1.symm) hown (hts _ w1) (hts _ mm_wS93) (hts _ mm_wmi) (hts _ mm_wC93) (by show 1 ≤ d + 1; omega) (by rw [mm_cat_map]; show mm_cat r + 13 ≤ 64 * (d + 1); omega) (by show cells ≤ mc; omega) (by show slots ≤ ms; omega) hd (nx _ _ _ _ _ _ _ _ _ _ _ hk hI)
      rw [Bool.not_eq_true] at h93
      rw [h93] at e2
      simp only [cond_false] at e2
      simp only [Bool.and_eq_true, Bool.or_eq_true] at e2
      have hw2 : mm_call C mm_Mk h lc a b st bc bs (fun s h bc bs => k cs lc s h bc bs) := by
        have h9 := hw
        simp only [h99, h91, h92, h93, cond_false] at h9
        exact h9
      obtain ⟨e5, e2⟩ := e2
      obtain ⟨c1, c2, c3, c4, c5, c6⟩ := mm_call_inv hw2
      obtain ⟨t1, ht1, hL1, hM⟩ := hC _ _ _ _ c6
      obtain ⟨k1, k2, k3, k4, k5, k6, k7, k8⟩ := mm_kind e2 ht1
      have hroom : (mm_rm d (mm_Mk a).1 (mm_Mk a).2).frames + 1 ≤ (mm_rm (d + 1) mc ms).frames ∧ 8 + (t1.2.2.1 + 11) + (mm_rm d (mm_Mk a).1 (mm_Mk a).2).locals ≤ (mm_rm (d + 1) mc ms).locals := ⟨Nat.le_refl _, by show 8 + (t1.2.2.1 + 11) + 64 * d ≤ 64 * (d + 1); omega⟩
      have hcat : ((((st.drop b).map (mm_vr ad)).map fun v => v.category).sum) ≤ 8 := by rw [mm_cat_map]; exact c2
      have hfit : cells + (mm_Mk a).1 ≤ (mm_rm (d + 1) mc ms).cells ∧ slots + (mm_Mk a).2 ≤ (mm_rm (d + 1) mc ms).slots := ⟨by show cells + _ ≤ mc; omega, by show slots + _ ≤ ms; omega⟩
      have hst : (F0 m pc ls (st.map (mm_vr ad))).stack = (((st.take b).reverse).map (mm_vr ad)).reverse ++ (st.drop b).map (mm_vr ad) := mm_args_st
      have hal : (((st.take b).reverse).map (mm_vr ad)).length = b := by simp; omega
      rcases e5 with e5 | e5
      · exact mm_aft hCx hI c3 c4 c5 (va_runS ⟨hx, hb, hml, hown, hts⟩ (hM ad H.size) ⟨callB_of b hts (mm_good k1) rfl rfl rfl (hts _ k3) (hts _ (k2 ▸ mm_lnk e5)) ⟨k4.1, k4.2, (k5 rfl).2⟩ hroom, hts _ (k5 rfl).1⟩ (mm_pre _ hCx hI) rfl hal hl.1 hst (lv_room hcat) hd hfit) (fun st h bc bs ad H locs cells slots hk hI => nx _ _ _ _ _ _ _ _ _ _ _ hk hI)
      · exact mm_aft hCx hI c3 c4 c5 (va_runSN ⟨hx, hb, hml, hown, hts⟩ (hM ad H.size) ⟨va_cnB b hts (mm_good k1) rfl rfl rfl (hX.2.2.1 A s _ hXt (k2 ▸ mm_nlk e5)) (hts _ k3) ⟨k4.1, k4.2, (k5 rfl).2⟩ hroom, hts _ (k5 rfl).1, trivial⟩ (mm_pre _ hCx hI) rfl hal hl.1 hst (lv_room hcat) hd hfit) (fun st h bc bs ad H locs cells slots hk hI => nx _ _ _ _ _ _ _ _ _ _ _ hk hI)
  | invokevirtual n =>
    simp only [mm_i] at hw
    simp only [mm_okS, Bool.and_eq_true, Bool.or_eq_true, decide_eq_true_eq] at hok
    obtain ⟨⟨e1, e5⟩, e2⟩ := hok
    subst e1
    obtain ⟨a1, fs1, r1, r2, r3, hw2⟩ := mm_recv_inv hw
    obtain ⟨c1, c2, c3, c4, c5, c6⟩ := mm_call_inv hw2
    obtain ⟨t1, ht1, hL1, hM⟩ := hC _ _ _ _ c6
    obtain ⟨k1, k2, k3, k4, k5, k6, k7, k8⟩ := mm_kind e2 ht1
    have hroom : (mm_rm d (mm_Mk a).1 (mm_Mk a).2).frames + 1 ≤ (mm_rm (d + 1) mc ms).frames ∧ 8 + (t1.2.2.1 + 11) + (mm_rm d (mm_Mk a).1 (mm_Mk a).2).locals ≤ (mm_rm (d + 1) mc ms).locals := ⟨Nat.le_refl _, by show 8 + (t1.2.2.1 + 11) + 64 * d ≤ 64 * (d + 1); omega⟩
    have hcat : ((((st.drop b).map (mm_vr ad)).map fun v => v.category).sum) ≤ 8 := by rw [mm_cat_map]; exact c2
    have hfit : cells + (mm_Mk a).1 ≤ (mm_rm (d + 1) mc ms).cells ∧ slots + (mm_Mk a).2 ≤ (mm_rm (d + 1) mc ms).slots := ⟨by show cells + _ ≤ mc; omega, by show slots + _ ≤ ms; omega⟩
    obtain ⟨k61, k62, k63, k64, k65⟩ := k6 (by decide)
    obtain ⟨as1, eas⟩ : ∃ as1, (st.take b).reverse = .ref a1 :: as1 := mm_head r1 r3 c1
    have hst : (F0 m pc ls (st.map (mm_vr ad))).stack = (as1.map (mm_vr ad)).reverse ++ .ref (ad a1) :: (st.drop b).map (mm_vr ad) := by
      show st.map (mm_vr ad) = _
      rw [mm_args_st (na := b), eas]
      simp [mm_vr]
    have hal : (as1.map (mm_vr ad)).length = b - 1 := by
      have h9 := congrArg List.length eas
      simp at h9
      simp
      omega
    rw [eas] at hM
    have hpre := mm_pre (.ref a1 :: as1) hCx hI
    obtain ⟨CC, TT, NN, ty, g1, g2, g3, g4, g5, g6, g7, g8, g9, g10⟩ := mm_cls (ts.headD 0) k65
    have hcls : t1.1.cls = CC := by
      have h9 := mm_tcls k1
      rw [k64] at h9
      rw [h9]
      exact mm_own_cl k65 g2
    have hpv : PreV s H CC (ad a1) (mm_Pc D E Xt ad H.size (.ref a1 :: as1) h) (as1.map (mm_vr ad)) := ⟨hpre.1, va_recv hK hP g1 (mm_wr_at r2), hpre.2⟩
    rcases e5 with e5 | e5
    · exact mm_aft hCx hI c3 c4 c5 (va_runV (C := CC) ⟨hx, hb, hml, hown, hts⟩ (hM ad H.size) ⟨callB_of (b - 1) hts (mm_good k1) rfl rfl rfl (hts _ k3) (hts _ (k2 ▸ mm_lnk e5)) ⟨k4.1, k4.2, k63⟩ hroom, hts _ k61, hcls ▸ hts _ (k7 rfl)⟩ hpv rfl hal hl.1 hst (lv_room hcat) hd hfit) (fun st h bc bs ad H locs cells slots hk hI => nx _ _ _ _ _ _ _ _ _ _ _ hk hI)
    · exact mm_aft hCx hI c3 c4 c5 (va_runVN (C := CC) ⟨hx, hb, hml, hown, hts⟩ (hM ad H.size) ⟨va_cnB (b - 1) hts (mm_good k1) rfl rfl rfl (hX.2.2.1 A s _ hXt (k2 ▸ mm_nlk e5)) (hts _ k3) ⟨k4.1, k4.2, k63⟩ hroom, hts _ k61, hcls ▸ hts _ (k7 rfl)⟩ hpv rfl hal hl.1 hst (lv_room hcat) hd hfit) (fun st h bc bs ad H locs cells slots hk hI => nx _ _ _ _ _ _ _ _ _ _ _ hk hI)
  | invokespecial n =>
    simp only [mm_i] at hw
    simp only [mm_okS, Bool.and_eq_true, decide_eq_true_eq] at hok
    obtain ⟨e1, e2⟩ := hok
    subst e1
    cases h88 : Nat.beq (ts.headD 0) 88 with
    | true =>
      rw [h88] at e2
      simp only [cond_true] at e2
      have hw2 : mm_obj st (fun s => k cs lc s h bc bs) := by
        have h9 := hw
        simp only [mm_i, h88, cond_true] at h9
        exact h9
      obtain ⟨p0, hp0⟩ := mm_in3_mem e2
      have w1 := mm_tw (mm_wO _ hp0) rfl
      obtain ⟨a1, r, e4, h3, hk⟩ := mm_obj_inv hw2
      subst e4
      exact W.objInit hx hb hown (hts _ w1) (hts _ mm_w1) (hts _ mm_w2) rfl (by rw [hml]; exact hl.1) rfl hd (by show 1 ≤ d + 1; omega) (by
        rw [mm_cat_map]
        have h9 : (F0 m pc ls ((Value.ref a1 :: r).map (mm_vr ad))).monitorRoom = 0 := by
          rfl
        rw [h9]
        show 2 * 0 + mm_cat r + 12 ≤ 64 * (d + 1)
        omega) (nx _ _ _ _ _ _ _ _ _ _ _ hk hI)
    | false =>
      rw [h88] at e2
      simp only [cond_false, Bool.and_eq_true, Bool.or_eq_true] at e2
      obtain ⟨e5, e2⟩ := e2
      have hw0 : mm_recv h (ts.headD 0) b st (mm_call C mm_Mk h lc a b st bc bs (fun s h bc bs => k cs lc s h bc bs)) := by
        have h9 := hw
        simp only [mm_i, h88, cond_false] at h9
        exact h9
      obtain ⟨a1, fs1, r1, r2, r3, hw2⟩ := mm_recv_inv hw0
      obtain ⟨c1, c2, c3, c4, c5, c6⟩ := mm_call_inv hw2
      obtain ⟨t1, ht1, hL1, hM⟩ := hC _ _ _ _ c6
      obtain ⟨k1, k2, k3, k4, k5, k6, k7, k8⟩ := mm_kind e2 ht1
      have hroom : (mm_rm d (mm_Mk a).1 (mm_Mk a).2).frames + 1 ≤ (mm_rm (d + 1) mc ms).frames ∧ 8 + (t1.2.2.1 + 11) + (mm_rm d (mm_Mk a).1 (mm_Mk a).2).locals ≤ (mm_rm (d + 1) mc ms).locals := ⟨Nat.le_refl _, by show 8 + (t1.2.2.1 + 11) + 64 * d ≤ 64 * (d + 1); omega⟩
      have hcat : ((((st.drop b).map (mm_vr ad)).map fun v => v.category).sum) ≤ 8 := by rw [mm_cat_map]; exact c2
      have hfit : cells + (mm_Mk a).1 ≤ (mm_rm (d + 1) mc ms).cells ∧ slots + (mm_Mk a).2 ≤ (mm_rm (d + 1) mc ms).slots := ⟨by show cells + _ ≤ mc; omega, by show slots + _ ≤ ms; omega⟩
      obtain ⟨k61, k62, k63, k64, k65⟩ := k6 (by decide)
      obtain ⟨as1, eas⟩ : ∃ as1, (st.take b).reverse = .ref a1 :: as1 := mm_head r1 r3 c1
      have hst : (F0 m pc ls (st.map (mm_vr ad))).stack = (as1.map (mm_vr ad)).reverse ++ .ref (ad a1) :: (st.drop b).map (mm_vr ad) := by
        show st.map (mm_vr ad) = _
        rw [mm_args_st (na := b), eas]
        simp [mm_vr]
      have hal : (as1.map (mm_vr ad)).length = b - 1 := by
        have h9 := congrArg List.length eas
        simp at h9
        simp
        omega
      rw [eas] at hM
      have hpre := mm_pre (.ref a1 :: as1) hCx hI
      obtain ⟨CC, TT, NN, ty, g1, g2, g3, g4, g5, g6, g7, g8, g9, g10⟩ := mm_cls (ts.headD 0) k65
      have hnone := mm_initr k1 (k8 rfl)
      have hpi : PreS s H (mm_Pc D E Xt ad H.size (.ref a1 :: as1) h) (.ref (ad a1) :: as1.map (mm_vr ad)) := hpre
      rcases e5 with e5 | e5
      · exact mm_aft hCx hI c3 c4 c5 (va_runI ⟨hx, hb, hml, hown, hts⟩ (hM ad H.size) ⟨callB_of (b - 1) hts (mm_good k1) (by rw [mm_ws, hnone]) rfl rfl (hts _ k3) (hts _ (k2 ▸ mm_lnk e5)) ⟨k4.1, k4.2, k63⟩ hroom, k8 rfl, hts _ k61⟩ hpi rfl hal hl.1 hst (lv_room hcat) hd hfit) (fun st h bc bs ad H locs cells slots hk hI => nx _ _ _ _ _ _ _ _ _ _ _ hk hI)
      · exact mm_aft hCx hI c3 c4 c5 (va_runIN ⟨hx, hb, hml, hown, hts⟩ (hM ad H.size) ⟨va_cnB (b - 1) hts (mm_good k1) (by rw [mm_ws, hnone]) rfl rfl (hX.2.2.1 A s _ hXt (k2 ▸ mm_nlk e5)) (hts _ k3) ⟨k4.1, k4.2, k63⟩ hroom, k8 rfl, hts _ k61⟩ hpi rfl hal hl.1 hst (lv_room hcat) hd hfit) (fun st h bc bs ad H locs cells slots hk hI => nx _ _ _ _ _ _ _ _ _ _ _ hk hI)
  | ireturn =>
    simp only [mm_i] at hw
    simp only [mm_okS, Bool.and_eq_true, decide_eq_true_eq] at hok
    obtain ⟨e1, e2⟩ := hok
    subst e1
    obtain ⟨x, e3, hq, h3⟩ := mm_iret_inv hw
    subst e3
    refine W.widen (k := mc) (n := ms) (by omega) (by omega) ?_
    cases h0 : Nat.beq a 0 with
    | true =>
      rw [h0] at e2
      simp only [cond_true, decide_eq_true_eq] at e2
      exact W.iret (v := x) hx hb (hr.trans e2) (fun t1 ht hW => ⟨⟨some (.int x), h, ad, rfl, hq, ⟨hg.1, by have := hg.2.1; omega, hg.2.2.1, hg.2.2.2⟩, by rw [ht]; exact hP, va_K.moved hW.alike hK, hD⟩, hS.F ht⟩) hS.2.2 hd hlocks
    | false =>
      rw [h0] at e2
      simp only [cond_false, decide_eq_true_eq] at e2
      have h4 : narrow .boolean (.int x) = .int x := by
        rcases h3 with h3 | h3
        · subst h3
          cases h0
        · exact congrArg Value.int h3
      exact W.zret (v := x) hx hb (hr.trans e2) h4 (fun t1 ht hW => ⟨⟨some (.int x), h, ad, rfl, hq, ⟨hg.1, by have := hg.2.1; omega, hg.2.2.1, hg.2.2.2⟩, by rw [ht]; exact hP, va_K.moved hW.alike hK, hD⟩, hS.F ht⟩) hS.2.2 hd hlocks
  | lreturn =>
    simp only [mm_i] at hw
    simp only [mm_okS, Bool.and_eq_true, decide_eq_true_eq] at hok
    obtain ⟨e1, e2⟩ := hok
    subst e1
    obtain ⟨x, e3, hq⟩ := mm_lret_inv hw
    subst e3
    refine W.widen (k := mc) (n := ms) (by omega) (by omega) ?_
    exact W.lret (v := x) hx hb (hr.trans e2) (fun t1 ht hW => ⟨⟨some (.long x), h, ad, rfl, hq, ⟨hg.1, by have := hg.2.1; omega, hg.2.2.1, hg.2.2.2⟩, by rw [ht]; exact hP, va_K.moved hW.alike hK, hD⟩, hS.F ht⟩) hS.2.2 hd hlocks
  | return_ =>
    simp only [mm_i] at hw
    simp only [mm_okS, Bool.and_eq_true, decide_eq_true_eq] at hok
    obtain ⟨e1, e2⟩ := hok
    subst e1
    obtain ⟨e3, hq⟩ := mm_vret_inv hw
    subst e3
    refine W.widen (k := mc) (n := ms) (by omega) (by omega) ?_
    exact W.vret hx hb (hr.trans e2) (fun t1 ht hW => ⟨⟨none, h, ad, rfl, hq, ⟨hg.1, by have := hg.2.1; omega, hg.2.2.1, hg.2.2.2⟩, by rw [ht]; exact hP, va_K.moved hW.alike hK, hD⟩, hS.F ht⟩) hS.2.2 hd hlocks
  | _ => exact False.elim hw
