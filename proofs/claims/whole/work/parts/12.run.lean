/-! a whole method -/
def mm_pc (cs : List mm_En) : Nat := match cs with
  | [] => 0
  | e :: _ => e.1.1
theorem mm_okI_suf {L : Nat} {r : Option FieldType} {o : Nat} {ini : Bool} {P : List mm_En} : ∀ (pre cs : List mm_En), mm_okI L r o ini P (pre ++ cs) = true → mm_okI L r o ini P cs = true
  | [], _, h => h
  | e :: pre, cs, h => by
    simp only [List.cons_append, mm_okI, Bool.and_eq_true] at h
    exact mm_okI_suf pre cs h.2
theorem mm_run {p : Program} {l : Launch} {e : Env} {s : State} {m : MethodId} {args : Array Value} {below : List Frame} {meth : Method} {c : Code} {D : va_G} {E : Nat → ClassId} {Xt : mm_Xt} {d mc ms n0 : Nat} {ad0 : Nat → Nat} {A : Nat → Prop} {Q : mm_R} {t : mm_Mt} {C : mm_C} (hC : ∀ (mi : Nat) (as : List Value) (h : mm_H) (Q : mm_R), C mi as h Q → ∃ t1, mm_at mm_T mi = some t1 ∧ t1.2.2.1 ≤ 40 ∧ mm_Met l D E Xt d t1 (mm_Mk mi).1 (mm_Mk mi).2 as h Q)
    (hCx : mm_Cx D E Xt t p s m args meth c A) (hok : mm_okI t.2.2.1 t.2.2.2.1 t.2.2.2.2.1 (decide (t.1.name = "<init>")) t.2.2.2.2.2 t.2.2.2.2.2 = true) (hdc : mm_dck t.2.1 t.2.2.2.2.2 = true) :
    ∀ (n : Nat) (cs : List mm_En) (lc : mm_L) (st : List Value) (h : mm_H) (bc bs : Nat) (ad : Nat → Nat) (H : Heap) (locs : List Loc) (ls : Array Slot) (cells slots : Nat), mm_wp C mm_Mk mm_Fk t.2.2.2.2.2 Q n cs lc st h bc bs → (∃ pre, t.2.2.2.2.2 = pre ++ cs) → mm_Iw D E A s t.2.2.1 ad0 n0 mc ms lc h bc bs ad H locs ls cells slots → W p l e (mm_rm (d + 1) mc ms) s m args below meth c H locs cells slots (MQ below (mm_Q D E Q ad0 n0 mc A) args s mc ms A) (F0 m (mm_pc cs) ls (st.map (mm_vr ad))) := by
  intro n
  induction n with
  | zero =>
    intro cs lc st h bc bs ad H locs ls cells slots hw
    exact False.elim hw
  | succ n ih =>
    intro cs lc st h bc bs ad H locs ls cells slots hw hsuf hI
    cases cs with
    | nil => exact False.elim hw
    | cons e0 cs =>
      obtain ⟨pre, hpre⟩ := hsuf
      have h1 : mm_okI t.2.2.1 t.2.2.2.1 t.2.2.2.2.1 (decide (t.1.name = "<init>")) t.2.2.2.2.2 (e0 :: cs) = true := mm_okI_suf pre _ (by rw [← hpre]; exact hok)
      simp only [mm_okI, Bool.and_eq_true] at h1
      obtain ⟨⟨h2, h3⟩, h4⟩ := h1
      have hd : decode t.2.1 e0.1.1 = .ok (e0.2.1, e0.1.2) := of_decide_eq_true (List.all_eq_true.mp hdc e0 (by rw [hpre]; simp))
      have hno : ∀ (lc : mm_L) (st : List Value) (h : mm_H) (bc bs : Nat), ¬ mm_wp C mm_Mk mm_Fk t.2.2.2.2.2 Q n [] lc st h bc bs := by
        intro lc st h bc bs hq
        cases n with
        | zero => exact hq
        | succ n => exact hq
      refine mm_step (pc := e0.1.1) (len := e0.1.2) hC hCx (k := mm_wp C mm_Mk mm_Fk t.2.2.2.2.2 Q n) (cs := cs) ?_ ?_ (lc := mm_msk e0.2.2.2.2 lc) ⟨mm_msk_has hI.1, hI.2⟩ hd h3 hw
      · intro lc st h bc bs ad H locs ls cells slots hk hI
        cases cs with
        | nil => exact absurd hk (hno _ _ _ _ _)
        | cons e1 cs =>
          have h5 := ih (e1 :: cs) lc st h bc bs ad H locs ls cells slots hk ⟨pre ++ [e0], by rw [hpre]; simp⟩ hI
          have e5 : mm_pc (e1 :: cs) = e0.1.1 + e0.1.2 := Nat.eq_of_beq_eq_true h2
          rw [e5] at h5
          exact h5
      · intro j z hz
        obtain ⟨e1, he1, hz1⟩ := mm_pcAt_inv hz
        refine ⟨e1.1.1, hz1, fun lc st h bc bs ad H locs ls cells slots hk hI => ?_⟩
        have h5 := ih (t.2.2.2.2.2.drop j) lc st h bc bs ad H locs ls cells slots hk ⟨t.2.2.2.2.2.take j, (List.take_append_drop j _).symm⟩ hI
        have e5 : mm_pc (t.2.2.2.2.2.drop j) = e1.1.1 := by
          rw [mm_at_eq] at he1
          obtain ⟨hj, he⟩ := List.getElem?_eq_some_iff.mp he1
          rw [List.drop_eq_getElem_cons hj, he]
          rfl
        rw [e5] at h5
        exact h5
/-- the arguments fit the locals -/
theorem mm_lg_len (ad : Nat → Nat) : ∀ vs : List Value, (lg_sl (vs.map (mm_vr ad))).length = mm_cat vs
  | [] => rfl
  | v :: r => by
    have h := mm_lg_len ad r
    simp only [lg_sl, List.map_cons, List.flatMap_cons, List.length_append, mm_vr_cat, mm_cat] at h ⊢
    rcases lv_cat v with hc | hc
    · rw [hc, h]; rfl
    · rw [hc, h]; rfl
/-- what the tables and the checks say of all methods -/
def mm_all : Prop := (∀ t ∈ mm_T, mm_okM t = true) ∧ ∀ t ∈ mm_T, mm_dck t.2.1 t.2.2.2.2.2 = true
/-- THE SMALL MACHINE TELLS THE TRUTH -/
theorem mm_snd {l : Launch} {D : va_G} {E : Nat → ClassId} {Xt : mm_Xt} (hX : mm_Xok Xt) {B : mm_C} (hall : mm_all)
    (hB : ∀ (d mi : Nat) (as : List Value) (h : mm_H) (Q : mm_R), B mi as h Q → ∃ t1, mm_at mm_T mi = some t1 ∧ t1.2.2.1 ≤ 40 ∧ mm_Met l D E Xt (d + 1) t1 (mm_Mk mi).1 (mm_Mk mi).2 as h Q) :
    ∀ (d mi : Nat) (as : List Value) (h : mm_H) (Q : mm_R), mm_ct B mm_Mk mm_Fk mm_PC d mi as h Q → ∃ t1, mm_at mm_T mi = some t1 ∧ t1.2.2.1 ≤ 40 ∧ mm_Met l D E Xt d t1 (mm_Mk mi).1 (mm_Mk mi).2 as h Q := by
  intro d
  induction d with
  | zero =>
    intro mi as h Q hw
    exact False.elim hw
  | succ d ih =>
    intro mi as h0 Q hw
    rcases hw with hw | hw
    · exact hB d mi as h0 Q hw
    · cases hble : Nat.ble (mm_cat as) (mm_PC mi).1 with
      | false =>
        rw [hble] at hw
        exact False.elim hw
      | true =>
        rw [hble] at hw
        simp only [cond_true] at hw
        have hcat : mm_cat as ≤ (mm_PC mi).1 := Nat.le_of_ble_eq_true hble
        cases ht : mm_at mm_T mi with
        | none =>
          obtain ⟨n, hw⟩ := hw
          have e : (mm_PC mi).2 = [] := by simp [mm_PC, ht]
          rw [e] at hw
          cases n with
          | zero => exact False.elim hw
          | succ n => exact False.elim hw
        | some t =>
          have e : mm_PC mi = (t.2.2.1, t.2.2.2.2.2) := by simp [mm_PC, ht]
          rw [e] at hw hcat
          have htm : t ∈ mm_T := by rw [mm_at_eq] at ht; exact List.mem_of_getElem? ht
          have hk := hall.1 t htm
          have hdc := hall.2 t htm
          unfold mm_okM at hk
          simp only [Bool.and_eq_true, decide_eq_true_eq] at hk
          obtain ⟨⟨⟨⟨hk1, hk2⟩, hk3⟩, hk4⟩, hk5⟩ := hk
          refine ⟨t, rfl, Nat.le_of_ble_eq_true hk3, ?_⟩
          intro ad sz
          refine Met.ofW (cc := t.2.1) (maxL := t.2.2.1) (ret := t.2.2.2.1) hk4 rfl ?_
          intro p e s m args below meth c s₁ Bd hml hv
          obtain ⟨rfl, hsz, hP, hK, hD0, hXt⟩ := hv
          have hx := Bd.exec
          have hb := Bd.bytes
          have hr := Bd.returns
          have hts0 := atoms_spec (ws := mm_ws t) Bd.pre
          have hts : ∀ w ∈ mm_tG, w.before _ s = true := fun w hw => hts0 w (List.mem_cons_of_mem _ hw)
          have hown : s.vm.findClass t.1.cls = some m.cls := findClass_of_methodNamed Bd.named
          rw [hk5] at hown
          have hlocks := Bd.notSynchronized
          have hin : meth.name = t.1.name := (name_of_methodNamed Bd.named Bd.method).1
          subst hsz
          have hD := hD0.self (sz := s.heap.size)
          have hA : ∀ q : Nat, s.heap.size ≤ q → va_A (mm_wr E ad h0) s.heap.size q := fun q h => Or.inr h
          have hCx : mm_Cx D E Xt t p s m (as.map (mm_vr ad)).toArray meth c (va_A (mm_wr E ad h0) s.heap.size) := ⟨hx, hb, hr, hts, hown, hlocks, hml, hK, hA, hXt, hin, hX⟩
          have hl := lv_entry (as.map (mm_vr ad)) (n := t.2.2.1) (by rw [mm_lg_len]; exact hcat)
          rw [lg_entry_eq]
          generalize (lg_sl (as.map (mm_vr ad)) ++ List.replicate (t.2.2.1 - (lg_sl (as.map (mm_vr ad))).length) Slot.unset).toArray = ls at hl ⊢
          rw [← mm_ent_args] at hl
          obtain ⟨n, hw⟩ := hw
          have hgo := mm_run (mc := (mm_Mk mi).1) (ms := (mm_Mk mi).2) (ad0 := ad) (n0 := h0.length) (Q := Q) (e := e) (below := below) ih hCx hk1 hdc n t.2.2.2.2.2 (mm_ent 0 as) [] h0 (mm_Mk mi).1 (mm_Mk mi).2 ad s.heap [] ls 0 0 hw ⟨[], rfl⟩ ⟨hl, hP, hD, va_S.rf, mm_agr.rf, Nat.zero_add _, Nat.zero_add _⟩
          have hpc : mm_pc t.2.2.2.2.2 = 0 := by
            cases hc : t.2.2.2.2.2 with
            | nil => rfl
            | cons e1 r =>
              rw [hc] at hk2
              exact Nat.eq_of_beq_eq_true hk2
          rw [hpc] at hgo
          exact hgo
