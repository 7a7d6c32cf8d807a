/-! isQuoted and kindOf, by the kit's rows; soundness with them -/
theorem mm_sndD {l : Launch} {D : va_G} {E : Nat → ClassId} {Xt : mm_Xt} (hX : mm_Xok Xt) {B : mm_C} (hall : mm_all) (D0 : Nat)
    (hB : ∀ (d mi : Nat) (as : List Value) (h : mm_H) (Q : mm_R), B mi as h Q → ∃ t1, mm_at mm_T mi = some t1 ∧ t1.2.2.1 ≤ 40 ∧ mm_Met l D E Xt (d + D0 + 1) t1 (mm_Mk mi).1 (mm_Mk mi).2 as h Q) :
    ∀ (d mi : Nat) (as : List Value) (h : mm_H) (Q : mm_R), mm_ct B mm_Mk mm_Fk mm_PC d mi as h Q → ∃ t1, mm_at mm_T mi = some t1 ∧ t1.2.2.1 ≤ 40 ∧ mm_Met l D E Xt (d + D0) t1 (mm_Mk mi).1 (mm_Mk mi).2 as h Q := by
  intro d
  induction d with
  | zero =>
    intro mi as h Q hw
    exact False.elim hw
  | succ d ih =>
    intro mi as h0 Q hw
    rw [show d + 1 + D0 = d + D0 + 1 from by omega]
    rcases hw with hw | hw
    · exact hB d mi as h0 Q hw
    · cases hble : Nat.ble (mm_cat as) (mm_PC mi).1 with
      | false =>
        rw [hble] at hw
        exact False.elim hw
      | true =>
        rw [hble] at hw
        simp only [cond_true] at hw
        have hcat : mm_cat as ≤ (mm_PC mi).1 := Nat.le_of_ble_eq_true hble
        cases ht : mm_at mm_T mi with
        | none =>
          obtain ⟨n, hw⟩ := hw
          have e : (mm_PC mi).2 = [] := by simp [mm_PC, ht]
          rw [e] at hw
          cases n with
          | zero => exact False.elim hw
          | succ n => exact False.elim hw
        | some t =>
          have e : mm_PC mi = (t.2.2.1, t.2.2.2.2.2) := by simp [mm_PC, ht]
          rw [e] at hw hcat
          have htm : t ∈ mm_T := by rw [mm_at_eq] at ht; exact List.mem_of_getElem? ht
          have hk := hall.1 t htm
          have hdc := hall.2 t htm
          unfold mm_okM at hk
          simp only [Bool.and_eq_true, decide_eq_true_eq] at hk
          obtain ⟨⟨⟨⟨hk1, hk2⟩, hk3⟩, hk4⟩, hk5⟩ := hk
          refine ⟨t, rfl, Nat.le_of_ble_eq_true hk3, ?_⟩
          intro ad sz
          refine Met.ofW (cc := t.2.1) (maxL := t.2.2.1) (ret := t.2.2.2.1) hk4 rfl ?_
          intro p e s m args below meth c s₁ Bd hml hv
          obtain ⟨rfl, hsz, hP, hK, hD0, hXt⟩ := hv
          have hx := Bd.exec
          have hb := Bd.bytes
          have hr := Bd.returns
          have hts0 := atoms_spec (ws := mm_ws t) Bd.pre
          have hts : ∀ w ∈ mm_tG, w.before _ s = true := fun w hw => hts0 w (List.mem_cons_of_mem _ hw)
          have hown : s.vm.findClass t.1.cls = some m.cls := findClass_of_methodNamed Bd.named
          rw [hk5] at hown
          have hlocks := Bd.notSynchronized
          have hin : meth.name = t.1.name := (name_of_methodNamed Bd.named Bd.method).1
          subst hsz
          have hD := hD0.self (sz := s.heap.size)
          have hA : ∀ q : Nat, s.heap.size ≤ q → va_A (mm_wr E ad h0) s.heap.size q := fun q h => Or.inr h
          have hCx : mm_Cx D E Xt t p s m (as.map (mm_vr ad)).toArray meth c (va_A (mm_wr E ad h0) s.heap.size) := ⟨hx, hb, hr, hts, hown, hlocks, hml, hK, hA, hXt, hin, hX⟩
          have hl := lv_entry (as.map (mm_vr ad)) (n := t.2.2.1) (by rw [mm_lg_len]; exact hcat)
          rw [lg_entry_eq]
          generalize (lg_sl (as.map (mm_vr ad)) ++ List.replicate (t.2.2.1 - (lg_sl (as.map (mm_vr ad))).length) Slot.unset).toArray = ls at hl ⊢
          rw [← mm_ent_args] at hl
          obtain ⟨n, hw⟩ := hw
          have hgo := mm_run (mc := (mm_Mk mi).1) (ms := (mm_Mk mi).2) (ad0 := ad) (n0 := h0.length) (Q := Q) (e := e) (below := below) ih hCx hk1 hdc n t.2.2.2.2.2 (mm_ent 0 as) [] h0 (mm_Mk mi).1 (mm_Mk mi).2 ad s.heap [] ls 0 0 hw ⟨[], rfl⟩ ⟨hl, hP, hD, va_S.rf, mm_agr.rf, Nat.zero_add _, Nat.zero_add _⟩
          have hpc : mm_pc t.2.2.2.2.2 = 0 := by
            cases hc : t.2.2.2.2.2 with
            | nil => rfl
            | cons e1 r =>
              rw [hc] at hk2
              exact Nat.eq_of_beq_eq_true hk2
          rw [hpc] at hgo
          exact hgo
/-- what holds beside the worlds -/
def sx_Xt (adK adV : Nat → Nat) : mm_Xt := fun A U => (∀ w ∈ mm_NW, va_Nw w U) ∧ va_AO RX2 U ∧ sx_P adK adV A U ∧ vk_R "CradlePairs$Tokens" 65 ";=+-*/<()" (adK 0) U ∧ vk_R "CradlePairs$Tokens" 76 "speaker word    pair    pushes  wages   rests   bars    tilt    seed    if      then    else    force   tongue  slope   last    side    which   other   words   same    " (adK 1) U
theorem sx_nw {w : Cond} (h : w ∈ mm_NW) : ∃ (a : String) (i : Nat) (x : MethodName) (b : String), w = .methodLinkNest a i x b := by
  unfold mm_NW at h
  obtain ⟨q, -, rfl⟩ := List.mem_map.mp h
  exact ⟨_, _, _, _, rfl⟩
theorem sx_Xok (adK adV : Nat → Nat) : mm_Xok (sx_Xt adK adV) := by
  refine ⟨fun A A2 U V h hA hW hz hk => ?_, fun A U g mk a h => ?_, fun A U w h hw => h.1 w hw, fun A U h => h.2.1⟩
  · obtain ⟨h1, h2, h3, h4, h5⟩ := h
    refine ⟨fun w hw => ?_, h2.moved hW.alike, h3.mv hA hW hk, h4.warm hW, h5.warm hW⟩
    obtain ⟨a, i, x, b, rfl⟩ := sx_nw hw
    exact va_Nw.warmM hW (h1 _ hw)
  · obtain ⟨h1, h2, h3, h4, h5⟩ := h
    refine ⟨fun w hw => ?_, h2.moved (u := U) (U := U.calling g mk a) (Vm.Alike.refl U.vm), h3.calling g mk a, vk_R.same rfl h4, vk_R.same rfl h5⟩
    obtain ⟨a, i, x, b, rfl⟩ := sx_nw hw
    exact va_Nw.same rfl rfl (h1 _ hw)
theorem sx_qt : ∀ j, j < 168 → (sx_byt.getD 1 []).getD j 0 = xs_qt j := by decide +kernel
theorem sx_qc : ∀ j, j < 168 → ((sx_byt.getD 1 []).getD j 0 &&& 255).toUInt32 % 65536 = ((sx_byt.getD 1 []).getD j 0).toUInt32 ∧ narrow .char (.int ((sx_byt.getD 1 []).getD j 0)) = .int ((sx_byt.getD 1 []).getD j 0) := by decide +kernel
theorem dq_0 : decode cX8_isQuoted 0 = .ok (.iconst 0, 1) := by decide +kernel
theorem dq_1 : decode cX8_isQuoted 1 = .ok (.istore 4, 2) := by decide +kernel
theorem dq_3 : decode cX8_isQuoted 3 = .ok (.iload 4, 2) := by decide +kernel
theorem dq_5 : decode cX8_isQuoted 5 = .ok (.bipush 8, 2) := by decide +kernel
theorem dq_7 : decode cX8_isQuoted 7 = .ok (.if_icmp .ge 52, 3) := by decide +kernel
theorem dq_10 : decode cX8_isQuoted 10 = .ok (.iload_n 2, 1) := by decide +kernel
theorem dq_11 : decode cX8_isQuoted 11 = .ok (.iload 4, 2) := by decide +kernel
theorem dq_13 : decode cX8_isQuoted 13 = .ok (.iadd, 1) := by decide +kernel
theorem dq_14 : decode cX8_isQuoted 14 = .ok (.iload_n 3, 1) := by decide +kernel
theorem dq_15 : decode cX8_isQuoted 15 = .ok (.if_icmp .ge 15, 3) := by decide +kernel
theorem dq_18 : decode cX8_isQuoted 18 = .ok (.aload_n 0, 1) := by decide +kernel
theorem dq_19 : decode cX8_isQuoted 19 = .ok (.getfield 9, 3) := by decide +kernel
theorem dq_22 : decode cX8_isQuoted 22 = .ok (.iload_n 2, 1) := by decide +kernel
theorem dq_23 : decode cX8_isQuoted 23 = .ok (.iload 4, 2) := by decide +kernel
theorem dq_25 : decode cX8_isQuoted 25 = .ok (.iadd, 1) := by decide +kernel
theorem dq_26 : decode cX8_isQuoted 26 = .ok (.baload, 1) := by decide +kernel
theorem dq_27 : decode cX8_isQuoted 27 = .ok (.goto 5, 3) := by decide +kernel
theorem dq_30 : decode cX8_isQuoted 30 = .ok (.bipush 32, 2) := by decide +kernel
theorem dq_32 : decode cX8_isQuoted 32 = .ok (.istore 5, 2) := by decide +kernel
theorem dq_34 : decode cX8_isQuoted 34 = .ok (.ldc 76, 2) := by decide +kernel
theorem dq_36 : decode cX8_isQuoted 36 = .ok (.iload_n 1, 1) := by decide +kernel
theorem dq_37 : decode cX8_isQuoted 37 = .ok (.bipush 8, 2) := by decide +kernel
theorem dq_39 : decode cX8_isQuoted 39 = .ok (.imul, 1) := by decide +kernel
theorem dq_40 : decode cX8_isQuoted 40 = .ok (.iload 4, 2) := by decide +kernel
theorem dq_42 : decode cX8_isQuoted 42 = .ok (.iadd, 1) := by decide +kernel
theorem dq_43 : decode cX8_isQuoted 43 = .ok (.invokevirtual 78, 3) := by decide +kernel
theorem dq_46 : decode cX8_isQuoted 46 = .ok (.iload 5, 2) := by decide +kernel
theorem dq_48 : decode cX8_isQuoted 48 = .ok (.if_icmp .eq 5, 3) := by decide +kernel
theorem dq_51 : decode cX8_isQuoted 51 = .ok (.iconst 0, 1) := by decide +kernel
theorem dq_52 : decode cX8_isQuoted 52 = .ok (.ireturn, 1) := by decide +kernel
theorem dq_53 : decode cX8_isQuoted 53 = .ok (.iinc 4 1, 3) := by decide +kernel
theorem dq_56 : decode cX8_isQuoted 56 = .ok (.goto (-53), 3) := by decide +kernel
theorem dq_59 : decode cX8_isQuoted 59 = .ok (.iconst 1, 1) := by decide +kernel
theorem dq_60 : decode cX8_isQuoted 60 = .ok (.ireturn, 1) := by decide +kernel
theorem dk_0 : decode cX8_kindOf 0 = .ok (.aload_n 0, 1) := by decide +kernel
theorem dk_1 : decode cX8_kindOf 1 = .ok (.getfield 9, 3) := by decide +kernel
theorem dk_4 : decode cX8_kindOf 4 = .ok (.iload_n 1, 1) := by decide +kernel
theorem dk_5 : decode cX8_kindOf 5 = .ok (.baload, 1) := by decide +kernel
theorem dk_6 : decode cX8_kindOf 6 = .ok (.invokestatic 56, 3) := by decide +kernel
theorem dk_9 : decode cX8_kindOf 9 = .ok (.ifCond .eq 23, 3) := by decide +kernel
theorem dk_12 : decode cX8_kindOf 12 = .ok (.iload_n 2, 1) := by decide +kernel
theorem dk_13 : decode cX8_kindOf 13 = .ok (.iload_n 1, 1) := by decide +kernel
theorem dk_14 : decode cX8_kindOf 14 = .ok (.isub, 1) := by decide +kernel
theorem dk_15 : decode cX8_kindOf 15 = .ok (.bipush 8, 2) := by decide +kernel
theorem dk_17 : decode cX8_kindOf 17 = .ok (.if_icmp .le 8, 3) := by decide +kernel
theorem dk_20 : decode cX8_kindOf 20 = .ok (.bipush 33, 2) := by decide +kernel
theorem dk_22 : decode cX8_kindOf 22 = .ok (.goto 9, 3) := by decide +kernel
theorem dk_25 : decode cX8_kindOf 25 = .ok (.aload_n 0, 1) := by decide +kernel
theorem dk_26 : decode cX8_kindOf 26 = .ok (.iload_n 1, 1) := by decide +kernel
theorem dk_27 : decode cX8_kindOf 27 = .ok (.iload_n 2, 1) := by decide +kernel
theorem dk_28 : decode cX8_kindOf 28 = .ok (.invokevirtual 62, 3) := by decide +kernel
theorem dk_31 : decode cX8_kindOf 31 = .ok (.ireturn, 1) := by decide +kernel
theorem dk_32 : decode cX8_kindOf 32 = .ok (.aload_n 0, 1) := by decide +kernel
theorem dk_33 : decode cX8_kindOf 33 = .ok (.getfield 9, 3) := by decide +kernel
theorem dk_36 : decode cX8_kindOf 36 = .ok (.iload_n 1, 1) := by decide +kernel
theorem dk_37 : decode cX8_kindOf 37 = .ok (.baload, 1) := by decide +kernel
theorem dk_38 : decode cX8_kindOf 38 = .ok (.invokestatic 59, 3) := by decide +kernel
theorem dk_41 : decode cX8_kindOf 41 = .ok (.ifCond .eq 18, 3) := by decide +kernel
theorem dk_44 : decode cX8_kindOf 44 = .ok (.iload_n 2, 1) := by decide +kernel
theorem dk_45 : decode cX8_kindOf 45 = .ok (.iload_n 1, 1) := by decide +kernel
theorem dk_46 : decode cX8_kindOf 46 = .ok (.isub, 1) := by decide +kernel
theorem dk_47 : decode cX8_kindOf 47 = .ok (.iconst 4, 1) := by decide +kernel
theorem dk_48 : decode cX8_kindOf 48 = .ok (.if_icmp .le 8, 3) := by decide +kernel
theorem dk_51 : decode cX8_kindOf 51 = .ok (.bipush 33, 2) := by decide +kernel
theorem dk_53 : decode cX8_kindOf 53 = .ok (.goto 5, 3) := by decide +kernel
theorem dk_56 : decode cX8_kindOf 56 = .ok (.bipush 22, 2) := by decide +kernel
theorem dk_58 : decode cX8_kindOf 58 = .ok (.ireturn, 1) := by decide +kernel
theorem dk_59 : decode cX8_kindOf 59 = .ok (.ldc 65, 2) := by decide +kernel
theorem dk_61 : decode cX8_kindOf 61 = .ok (.aload_n 0, 1) := by decide +kernel
theorem dk_62 : decode cX8_kindOf 62 = .ok (.getfield 9, 3) := by decide +kernel
theorem dk_65 : decode cX8_kindOf 65 = .ok (.iload_n 1, 1) := by decide +kernel
theorem dk_66 : decode cX8_kindOf 66 = .ok (.baload, 1) := by decide +kernel
theorem dk_67 : decode cX8_kindOf 67 = .ok (.sipush 255, 3) := by decide +kernel
theorem dk_70 : decode cX8_kindOf 70 = .ok (.iand, 1) := by decide +kernel
theorem dk_71 : decode cX8_kindOf 71 = .ok (.i2c, 1) := by decide +kernel
theorem dk_72 : decode cX8_kindOf 72 = .ok (.invokevirtual 67, 3) := by decide +kernel
theorem dk_75 : decode cX8_kindOf 75 = .ok (.istore_n 3, 1) := by decide +kernel
theorem dk_76 : decode cX8_kindOf 76 = .ok (.iload_n 3, 1) := by decide +kernel
theorem dk_77 : decode cX8_kindOf 77 = .ok (.ifCond .ge 8, 3) := by decide +kernel
theorem dk_80 : decode cX8_kindOf 80 = .ok (.bipush 33, 2) := by decide +kernel
theorem dk_82 : decode cX8_kindOf 82 = .ok (.goto 7, 3) := by decide +kernel
theorem dk_85 : decode cX8_kindOf 85 = .ok (.bipush 23, 2) := by decide +kernel
theorem dk_87 : decode cX8_kindOf 87 = .ok (.iload_n 3, 1) := by decide +kernel
theorem dk_88 : decode cX8_kindOf 88 = .ok (.iadd, 1) := by decide +kernel
theorem dk_89 : decode cX8_kindOf 89 = .ok (.ireturn, 1) := by decide +kernel
theorem w_f_tp : Cond.fieldLink RX8 9 RX8 "tape" "[B" ∈ mm_tG := mm_tw (p := 157) (by decide +kernel) rfl
abbrev t_iq : mm_Mt := (yX8_isQuoted, cX8_isQuoted, 6, some .boolean, 8, [])
abbrev t_ko : mm_Mt := (yX8_kindOf, cX8_kindOf, 4, some .int, 8, [])
theorem sx_kp {D : va_G} {cl : List vw_C} {ws : va_W} {H H1 : Heap} (hP : va_P D cl ws H) (hk : ∀ q : Nat, q < H.size → H1[q]? = H[q]?) : va_P D cl ws H1 := hP.kept (fun k q hq => hk q.1 ((hP k q hq).lt))
set_option maxHeartbeats 4000000 in
set_option maxRecDepth 100000 in
theorem sx_isQ (l : Launch) (D : va_G) (E : Nat → ClassId) (adK adV : Nat → Nat) (d : Nat) (pt ps pg pr : Value) (s : xs_S) (a0 a1 a2 v : Int32) (s2 : xs_S) (Q : mm_R) (hf : xf_8_isQuoted s a0 a1 a2 = some (v, s2)) (hQ : Q (some (.int v)) (xs_H pt ps pg pr s2)) : mm_Met l D E (sx_Xt adK adV) (d + 4) t_iq 0 0 [.ref 1, .int a0, .int a1, .int a2] (xs_H pt ps pg pr s) Q := by
  intro ad sz
  refine Met.ofW (cc := cX8_isQuoted) (maxL := 6) (ret := some .boolean) (by decide) rfl ?_
  intro p e s0 m args below meth c s₁ Bd hml hv
  obtain ⟨rfl, hsz, hP, hK, hD0, hXt⟩ := hv
  have hx := Bd.exec
  have hb := Bd.bytes
  have hr := Bd.returns
  have hts0 := atoms_spec (ws := mm_ws t_iq) Bd.pre
  have hts : ∀ w ∈ mm_tG, w.before _ s0 = true := fun w hw => hts0 w (List.mem_cons_of_mem _ hw)
  have hown : s0.vm.findClass RX8 = some m.cls := findClass_of_methodNamed Bd.named
  have hlocks := Bd.notSynchronized
  subst hsz
  have hD := hD0.self (sz := s0.heap.size)
  have hA : ∀ q : Nat, s0.heap.size ≤ q → va_A (mm_wr E ad (xs_H pt ps pg pr s)) s0.heap.size q := fun q h => Or.inr h
  generalize va_A (mm_wr E ad (xs_H pt ps pg pr s)) s0.heap.size = A at hD hA hXt ⊢
  have hS : va_S A s0.heap s0.heap [] := va_S.rf
  have hl := lv_entry (([.ref 1, .int a0, .int a1, .int a2] : List Value).map (mm_vr ad)) (n := 6) (Nat.le_of_ble_eq_true rfl)
  rw [lg_entry_eq]
  generalize (lg_sl (([.ref 1, .int a0, .int a1, .int a2] : List Value).map (mm_vr ad)) ++ List.replicate (6 - (lg_sl (([.ref 1, .int a0, .int a1, .int a2] : List Value).map (mm_vr ad))).length) Slot.unset).toArray = ls at hl ⊢
  have hl : lv_has ls 6 [(0, .ref (ad 1)), (1, .int a0), (2, .int a1), (3, .int a2)] := hl
  obtain ⟨x1, x2, x3, x4, x5, x6, x7, x8, x9, x10⟩ := mm_clp8
  have hXp : sx_P adK adV A s0 := hXt.2.2.1
  have hR1 := hXt.2.2.2.2
  unfold xf_8_isQuoted at hf
  obtain ⟨x, hlp, hf⟩ := mo_bind hf
  have e139 : ∀ s' : xs_S, mm_agr ad (xs_H pt ps pg pr s).length 0 ad (xs_H pt ps pg pr s').length := fun s' => mm_agr.rf (n := 139)
  refine lv_iconst (v := 0) hx hb dq_0 (by decide) ?_
  refine lv_istore (lv' := [(4, .int 0), (0, .ref (ad 1)), (1, .int a0), (2, .int a1), (3, .int a2)]) hx hb dq_1 hl (by decide) rfl (fun ls hl => ?_)
  refine mo_loop_go (step := xf_8_isQuoted_l2 a0 a1 a2) (G := fun t => ∀ (H : Heap) (locs : List Loc) (ls : Array Slot), va_P D vwCl (mm_wr E ad (xs_H pt ps pg pr t.2)) H → va_D A (mm_wr E ad (xs_H pt ps pg pr t.2)) → va_S A s0.heap H locs → lv_has ls 6 [(4, .int t.1), (0, .ref (ad 1)), (1, .int a0), (2, .int a1), (3, .int a2)] → W p l e (mm_rm (d + 4) 0 0) s0 m (([.ref 1, .int a0, .int a1, .int a2] : List Value).map (mm_vr ad)).toArray below meth c H locs 0 0 (MQ below (mm_Q D E Q ad (xs_H pt ps pg pr s).length 0 A) (([.ref 1, .int a0, .int a1, .int a2] : List Value).map (mm_vr ad)).toArray s0 0 0 A) (F0 m 3 ls []))
    (K := mo_sum (fun s' => ∀ (H : Heap) (locs : List Loc) (ls : Array Slot), va_P D vwCl (mm_wr E ad (xs_H pt ps pg pr s')) H → va_D A (mm_wr E ad (xs_H pt ps pg pr s')) → va_S A s0.heap H locs → W p l e (mm_rm (d + 4) 0 0) s0 m (([.ref 1, .int a0, .int a1, .int a2] : List Value).map (mm_vr ad)).toArray below meth c H locs 0 0 (MQ below (mm_Q D E Q ad (xs_H pt ps pg pr s).length 0 A) (([.ref 1, .int a0, .int a1, .int a2] : List Value).map (mm_vr ad)).toArray s0 0 0 A) (F0 m 51 ls [])) (fun s' => ∀ (H : Heap) (locs : List Loc) (ls : Array Slot), va_P D vwCl (mm_wr E ad (xs_H pt ps pg pr s')) H → va_D A (mm_wr E ad (xs_H pt ps pg pr s')) → va_S A s0.heap H locs → W p l e (mm_rm (d + 4) 0 0) s0 m (([.ref 1, .int a0, .int a1, .int a2] : List Value).map (mm_vr ad)).toArray below meth c H locs 0 0 (MQ below (mm_Q D E Q ad (xs_H pt ps pg pr s).length 0 A) (([.ref 1, .int a0, .int a1, .int a2] : List Value).map (mm_vr ad)).toArray s0 0 0 A) (F0 m 59 ls []))) ?_ (0, s) x hlp ?_ s0.heap [] ls hP hD hS hl
  · rintro ⟨w4, s'⟩ r hst hK2 H locs ls hP hD hS hl
    have hP : va_P D vwCl (mm_wr E ad (xs_H pt ps pg pr s')) H := hP
    have hD : va_D A (mm_wr E ad (xs_H pt ps pg pr s')) := hD
    have hl : lv_has ls 6 [(4, .int w4), (0, .ref (ad 1)), (1, .int a0), (2, .int a1), (3, .int a2)] := hl
    unfold xf_8_isQuoted_l2 at hst
    have join : ∀ (k0 : Int32) (H : Heap) (locs : List Loc) (ls : Array Slot), xf_8_isQuoted_j18 s' a0 a1 a2 w4 k0 = some r → va_P D vwCl (mm_wr E ad (xs_H pt ps pg pr s')) H → va_D A (mm_wr E ad (xs_H pt ps pg pr s')) → va_S A s0.heap H locs → lv_has ls 6 [(4, .int w4), (0, .ref (ad 1)), (1, .int a0), (2, .int a1), (3, .int a2)] → W p l e (mm_rm (d + 4) 0 0) s0 m (([.ref 1, .int a0, .int a1, .int a2] : List Value).map (mm_vr ad)).toArray below meth c H locs 0 0 (MQ below (mm_Q D E Q ad (xs_H pt ps pg pr s).length 0 A) (([.ref 1, .int a0, .int a1, .int a2] : List Value).map (mm_vr ad)).toArray s0 0 0 A) (F0 m 32 ls [.int k0]) := by
      intro k0 H locs ls hj hP hD hS hl
      unfold xf_8_isQuoted_j18 at hj
      obtain ⟨x3, hx3, hj⟩ := mo_bind hj
      obtain ⟨hi, rfl⟩ := mo_ag_inv hx3
      obtain ⟨j, hj1, hj2⟩ := vp_in_of hi (by decide)
      refine lv_istore (lv' := [(5, .int k0), (4, .int w4), (0, .ref (ad 1)), (1, .int a0), (2, .int a1), (3, .int a2)]) hx hb dq_32 hl (by decide) rfl (fun ls hl => ?_)
      refine va_ldcS hx hb hown hR1 dq_34 ?_
      refine lv_iload_n hx hb dq_36 rfl (lv_at hl 3 rfl) ?_
      refine lv_bipush (v := 8) hx hb dq_37 (by decide) ?_
      refine lv_imul hx hb dq_39 ?_
      refine lv_iload hx hb dq_40 (lv_at hl 1 rfl) ?_
      refine lv_iadd hx hb dq_42 ?_
      rw [hj2]
      rw [hj2, nI_clamp (by omega)] at hj
      refine sx_callV (As := [.int (nI j)]) (rest := []) hx hb hml hown hts hXp hA hS hl.1 (sx_ca l d (i := 1) (k := j) (by decide) hj1 sx_qc (by decide)) (vk_recv hXp.1 (by decide) hS) w_ca_c w_ca_i w_ca_v w_l_ca w_iniS ⟨by decide, by decide, w_ca_n⟩ ⟨by show d + 3 + 1 ≤ d + 4; omega, by show 8 + (2 + 11) + 64 * (d + 3) ≤ 64 * (d + 4); omega⟩ ⟨Nat.le_refl 0, Nat.le_refl 0⟩ (Nat.le_of_ble_eq_true rfl) dq_43 (fun H1 locs1 hz hk hS => ?_)
      rw [sx_qt j hj1]
      show W p l e (mm_rm (d + 4) 0 0) s0 m (([.ref 1, .int a0, .int a1, .int a2] : List Value).map (mm_vr ad)).toArray below meth c H1 locs1 0 0 _ (F0 m 46 ls [.int (xs_qt j)])
      have hP := sx_kp hP hk
      refine lv_iload hx hb dq_46 (lv_at hl 0 rfl) ?_
      refine lv_icmp_eq (tgt := 53) hx hb dq_48 (by decide) (fun c1 => ?_) (fun c1 => ?_)
      · rw [if_pos c1] at hj
        obtain rfl := Option.some.inj hj
        refine lv_iinc (v := w4 + 1) (lv' := [(4, .int (w4 + 1)), (5, .int k0), (0, .ref (ad 1)), (1, .int a0), (2, .int a1), (3, .int a2)]) hx hb dq_53 hl (k := 1) rfl rfl (by decide) rfl (fun ls hl => ?_)
        refine lv_goto (tgt := 3) hx hb dq_56 (by decide) ?_
        exact hK2 H1 locs1 ls hP hD hS (lv_sub hl [0, 2, 3, 4, 5] rfl)
      · rw [if_neg c1] at hj
        obtain rfl := Option.some.inj hj
        exact hK2 H1 locs1 ls hP hD hS
    refine lv_iload hx hb dq_3 (lv_at hl 0 rfl) ?_
    refine lv_bipush (v := 8) hx hb dq_5 (by decide) ?_
    refine lv_icmp_ge (tgt := 59) hx hb dq_7 (by decide) (fun c1 => ?_) (fun c1 => ?_)
    · have hst := mo_pos hst c1
      obtain rfl := Option.some.inj hst
      exact hK2 H locs ls hP hD hS
    · have hst := mo_neg hst c1
      refine lv_iload_n hx hb dq_10 rfl (lv_at hl 3 rfl) ?_
      refine lv_iload hx hb dq_11 (lv_at hl 0 rfl) ?_
      refine lv_iadd hx hb dq_13 ?_
      refine lv_iload_n hx hb dq_14 rfl (lv_at hl 4 rfl) ?_
      refine lv_icmp_ge (tgt := 30) hx hb dq_15 (by decide) (fun c2 => ?_) (fun c2 => ?_)
      · have hst := mo_pos hst c2
        refine lv_bipush (v := 32) hx hb dq_30 (by decide) ?_
        exact join 32 H locs ls hst hP hD hS hl
      · have hst := mo_neg hst c2
        obtain ⟨x5, hx5, hst⟩ := mo_bind hst
        obtain ⟨hi5, rfl⟩ := mo_ag_inv hx5
        refine lv_aload_n hx hb dq_18 rfl (lv_at hl 1 rfl) ?_
        refine va_get (v := .ref (ad 2)) (fs := ([.ref 2, .int (s'.1 17), .ref 3, .ref 4, .ref 5, .int (s'.1 21)] : List Value).map (mm_vr ad)) hx hb hts x4 hown hK hP 1 (mm_wr_at (e := .inr (8, [.ref 2, .int (s'.1 17), .ref 3, .ref 4, .ref 5, .int (s'.1 21)])) rfl) x1 0 (by decide) (hts _ w_f_tp) (fun _ h9 => h9) rfl dq_19 ?_
        refine lv_iload_n hx hb dq_22 rfl (lv_at hl 3 rfl) ?_
        refine lv_iload hx hb dq_23 (lv_at hl 0 rfl) ?_
        refine lv_iadd hx hb dq_25 ?_
        refine va_bald hx hb hK hP 2 1 (n := 2000) (f := s'.2.1 2) (mm_wr_at (e := .inl (1, 2000, .inl (s'.2.1 2))) rfl) rfl hi5 dq_26 ?_
        refine lv_goto (tgt := 32) hx hb dq_27 (by decide) ?_
        exact join _ H locs ls hst hP hD hS hl
  · cases x with
    | inl s6 =>
      obtain ⟨rfl, rfl⟩ := mo_pair hf
      intro H locs ls hP hD hS
      refine lv_iconst (v := 0) hx hb dq_51 (by decide) ?_
      exact W.zret hx hb hr (by decide) (fun t ht hW => ⟨⟨some (.int 0), xs_H pt ps pg pr s6, ad, rfl, hQ, e139 s6, by rw [ht]; exact hP, va_K.moved hW.alike hK, hD⟩, hS.F ht⟩) hS.2.2 dq_52
    | inr s6 =>
      obtain ⟨rfl, rfl⟩ := mo_pair hf
      intro H locs ls hP hD hS
      refine lv_iconst (v := 1) hx hb dq_59 (by decide) ?_
      exact W.zret hx hb hr (by decide) (fun t ht hW => ⟨⟨some (.int 1), xs_H pt ps pg pr s6, ad, rfl, hQ, e139 s6, by rw [ht]; exact hP, va_K.moved hW.alike hK, hD⟩, hS.F ht⟩) hS.2.2 dq_60
