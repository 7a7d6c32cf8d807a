/-! what each instruction of the small machine says of the stack, the locals, the cells -/
theorem mm_i2_inv {f : Int32 → Int32 → Int32} {st : List Value} {k : List Value → Prop} (h : mm_i2 f st k) : ∃ x y r, st = .int y :: .int x :: r ∧ k (.int (f x y) :: r) := by
  unfold mm_i2 at h
  split at h
  · exact ⟨_, _, _, rfl, h⟩
  · exact h.elim
theorem mm_d2_inv {f : Int32 → Int32 → Int32} {st : List Value} {k : List Value → Prop} (h : mm_d2 f st k) : ∃ x y r, st = .int y :: .int x :: r ∧ ¬ y = 0 ∧ k (.int (f x y) :: r) := by
  unfold mm_d2 at h
  split at h
  · exact ⟨_, _, _, rfl, h.1, h.2⟩
  · exact h.elim
theorem mm_i1_inv {f : Int32 → Int32} {st : List Value} {k : List Value → Prop} (h : mm_i1 f st k) : ∃ x r, st = .int x :: r ∧ k (.int (f x) :: r) := by
  unfold mm_i1 at h
  split at h
  · exact ⟨_, _, rfl, h⟩
  · exact h.elim
theorem mm_l2_inv {f : Int64 → Int64 → Int64} {st : List Value} {k : List Value → Prop} (h : mm_l2 f st k) : ∃ x y r, st = .long y :: .long x :: r ∧ k (.long (f x y) :: r) := by
  unfold mm_l2 at h
  split at h
  · exact ⟨_, _, _, rfl, h⟩
  · exact h.elim
theorem mm_lcmp_inv {st : List Value} {k : List Value → Prop} (h : mm_lcmp st k) : ∃ x y r, st = .long y :: .long x :: r ∧ k (.int (lg_cmp x y) :: r) := by
  unfold mm_lcmp at h
  split at h
  · exact ⟨_, _, _, rfl, h⟩
  · exact h.elim
theorem mm_i2l_inv {st : List Value} {k : List Value → Prop} (h : mm_i2l st k) : ∃ x r, st = .int x :: r ∧ k (.long x.toInt64 :: r) := by
  unfold mm_i2l at h
  split at h
  · exact ⟨_, _, rfl, h⟩
  · exact h.elim
theorem mm_l2i_inv {st : List Value} {k : List Value → Prop} (h : mm_l2i st k) : ∃ x r, st = .long x :: r ∧ k (.int x.toInt32 :: r) := by
  unfold mm_l2i at h
  split at h
  · exact ⟨_, _, rfl, h⟩
  · exact h.elim
theorem mm_ldi_inv {l : mm_L} {i : Nat} {k : Value → Prop} (h : mm_ldi l i k) : ∃ x, mm_lod l i = some (.int x) ∧ k (.int x) := by
  unfold mm_ldi at h
  split at h
  · rename_i x hx
    exact ⟨x, hx, h⟩
  · exact h.elim
theorem mm_ldl_inv {l : mm_L} {i : Nat} {k : Value → Prop} (h : mm_ldl l i k) : ∃ x, mm_lod l i = some (.long x) ∧ k (.long x) := by
  unfold mm_ldl at h
  split at h
  · rename_i x hx
    exact ⟨x, hx, h⟩
  · exact h.elim
theorem mm_lda_inv {l : mm_L} {i : Nat} {k : Value → Prop} (h : mm_lda l i k) : (∃ x, mm_lod l i = some (.ref x) ∧ k (.ref x)) ∨ (mm_lod l i = some .null ∧ k .null) := by
  unfold mm_lda at h
  split at h
  · rename_i x hx
    exact Or.inl ⟨x, hx, h⟩
  · rename_i hx
    exact Or.inr ⟨hx, h⟩
  · exact h.elim
theorem mm_sti_inv {l : mm_L} {i : Nat} {st : List Value} {k : mm_L → List Value → Prop} (h : mm_sti l i st k) : ∃ x r, st = .int x :: r ∧ k (mm_sto l i (.int x)) r := by
  unfold mm_sti at h
  split at h
  · exact ⟨_, _, rfl, h⟩
  · exact h.elim
theorem mm_stl_inv {l : mm_L} {i : Nat} {st : List Value} {k : mm_L → List Value → Prop} (h : mm_stl l i st k) : ∃ x r, st = .long x :: r ∧ k (mm_stw l i (.long x)) r := by
  unfold mm_stl at h
  split at h
  · exact ⟨_, _, rfl, h⟩
  · exact h.elim
theorem mm_sta_inv {l : mm_L} {i : Nat} {st : List Value} {k : mm_L → List Value → Prop} (h : mm_sta l i st k) : ∃ x r, st = .ref x :: r ∧ k (mm_sto l i (.ref x)) r := by
  unfold mm_sta at h
  split at h
  · exact ⟨_, _, rfl, h⟩
  · exact h.elim
theorem mm_inc_inv {l : mm_L} {i : Nat} {v : Value} {k : mm_L → Prop} (h : mm_inc l i v k) : ∃ x c, mm_lod l i = some (.int x) ∧ v = .int c ∧ k (mm_sto l i (.int (x + c))) := by
  unfold mm_inc at h
  split at h
  · rename_i x c hx
    exact ⟨x, c, hx, rfl, h⟩
  · exact h.elim
theorem mm_dup_inv {st : List Value} {k : List Value → Prop} (h : mm_dup st k) : ∃ v r, st = v :: r ∧ v.category = 1 ∧ k (v :: v :: r) := by
  unfold mm_dup at h
  split at h
  · rename_i v r
    cases hb : Nat.beq v.category 1 with
    | true => rw [hb] at h; exact ⟨v, r, rfl, Nat.eq_of_beq_eq_true hb, h⟩
    | false => rw [hb] at h; exact h.elim
  · exact h.elim
theorem mm_pop_inv {st : List Value} {k : List Value → Prop} (h : mm_pop st k) : ∃ v r, st = v :: r ∧ v.category = 1 ∧ k r := by
  unfold mm_pop at h
  split at h
  · rename_i v r
    cases hb : Nat.beq v.category 1 with
    | true => rw [hb] at h; exact ⟨v, r, rfl, Nat.eq_of_beq_eq_true hb, h⟩
    | false => rw [hb] at h; exact h.elim
  · exact h.elim
theorem mm_dup2_inv {st : List Value} {k : List Value → Prop} (h : mm_dup2 st k) : ∃ v w r, st = v :: w :: r ∧ v.category = 1 ∧ w.category = 1 ∧ k (v :: w :: v :: w :: r) := by
  unfold mm_dup2 at h
  split at h
  · rename_i v w r
    cases hb : (Nat.beq v.category 1 && Nat.beq w.category 1) with
    | true =>
      rw [hb] at h
      rw [Bool.and_eq_true] at hb
      exact ⟨v, w, r, rfl, Nat.eq_of_beq_eq_true hb.1, Nat.eq_of_beq_eq_true hb.2, h⟩
    | false => rw [hb] at h; exact h.elim
  · exact h.elim
theorem mm_if_inv {c : ClassFile.Cond} {st : List Value} {kt kf : List Value → Prop} (h : mm_if c st kt kf) : ∃ x r, st = .int x :: r ∧ (mm_cmp c x 0 → kt r) ∧ (¬ mm_cmp c x 0 → kf r) := by
  unfold mm_if at h
  split at h
  · exact ⟨_, _, rfl, h⟩
  · exact h.elim
theorem mm_icmp_inv {c : ClassFile.Cond} {st : List Value} {kt kf : List Value → Prop} (h : mm_icmp c st kt kf) : ∃ x y r, st = .int y :: .int x :: r ∧ (mm_cmp c x y → kt r) ∧ (¬ mm_cmp c x y → kf r) := by
  unfold mm_icmp at h
  split at h
  · exact ⟨_, _, _, rfl, h⟩
  · exact h.elim
theorem mm_ifn_inv {st : List Value} {kt kf : List Value → Prop} (h : mm_ifn st kt kf) : (∃ r, st = .null :: r ∧ kt r) ∨ (∃ a r, st = .ref a :: r ∧ kf r) := by
  unfold mm_ifn at h
  split at h
  · exact Or.inl ⟨_, rfl, h⟩
  · exact Or.inr ⟨_, _, rfl, h⟩
  · exact h.elim
theorem mm_getf_inv {h : mm_H} {ci j : Nat} {st : List Value} {k : List Value → Prop} (hw : mm_getf h ci j st k) : ∃ a r fs v, st = .ref a :: r ∧ mm_at h a = some (.inr (ci, fs)) ∧ mm_at fs j = some v ∧ k (v :: r) := by
  unfold mm_getf at hw
  split at hw
  · rename_i a r
    split at hw
    · rename_i c fs ha
      cases hb : Nat.beq c ci with
      | false => rw [hb] at hw; exact hw.elim
      | true =>
        rw [hb] at hw
        have e := Nat.eq_of_beq_eq_true hb
        subst e
        simp only [cond_true] at hw
        split at hw
        · rename_i v hv
          exact ⟨a, r, fs, v, rfl, ha, hv, hw⟩
        · exact hw.elim
    · exact hw.elim
  · exact hw.elim
theorem mm_putf_inv {h : mm_H} {ci j kd : Nat} {st : List Value} {k : List Value → mm_H → Prop} (hw : mm_putf h ci j kd st k) : ∃ v a r fs, st = v :: .ref a :: r ∧ mm_at h a = some (.inr (ci, fs)) ∧ j < fs.length ∧ mm_okv kd v ∧ k r (mm_set h a (.inr (ci, mm_set fs j v))) := by
  unfold mm_putf at hw
  split at hw
  · rename_i v a r
    split at hw
    · rename_i c fs ha
      cases hb : (Nat.beq c ci && (mm_at fs j).isSome) with
      | false => rw [hb] at hw; exact hw.elim
      | true =>
        rw [hb] at hw
        rw [Bool.and_eq_true] at hb
        have e := Nat.eq_of_beq_eq_true hb.1
        subst e
        have h2 := hb.2
        rw [mm_at_eq] at h2
        exact ⟨v, a, r, fs, rfl, ha, by simpa using h2, hw.1, hw.2⟩
    · exact hw.elim
  · exact hw.elim
theorem mm_iald_inv {h : mm_H} {st : List Value} {k : List Value → Prop} (hw : mm_iald h st k) : ∃ i a r n f, st = .int i :: .ref a :: r ∧ mm_at h a = some (.inl (0, n, .inl f)) ∧ vp_in i n ∧ k (.int (f i.toNatClampNeg) :: r) := by
  unfold mm_iald at hw
  split at hw
  · rename_i i a r
    split at hw
    · rename_i t n f ha
      cases hb : Nat.beq t 0 with
      | false => rw [hb] at hw; exact hw.elim
      | true =>
        rw [hb] at hw
        have e := Nat.eq_of_beq_eq_true hb
        subst e
        exact ⟨i, a, r, n, f, rfl, ha, hw.1, hw.2⟩
    · exact hw.elim
  · exact hw.elim
theorem mm_bald_inv {h : mm_H} {st : List Value} {k : List Value → Prop} (hw : mm_bald h st k) : ∃ i a r t n f, st = .int i :: .ref a :: r ∧ mm_at h a = some (.inl (t, n, .inl f)) ∧ (t = 1 ∨ t = 2) ∧ vp_in i n ∧ k (.int (f i.toNatClampNeg) :: r) := by
  unfold mm_bald at hw
  split at hw
  · rename_i i a r
    split at hw
    · rename_i t n f ha
      cases hb : (Nat.beq t 1 || Nat.beq t 2) with
      | false => rw [hb] at hw; exact hw.elim
      | true =>
        rw [hb] at hw
        rw [Bool.or_eq_true] at hb
        exact ⟨i, a, r, t, n, f, rfl, ha, hb.imp Nat.eq_of_beq_eq_true Nat.eq_of_beq_eq_true, hw.1, hw.2⟩
    · exact hw.elim
  · exact hw.elim
theorem mm_lald_inv {h : mm_H} {st : List Value} {k : List Value → Prop} (hw : mm_lald h st k) : ∃ i a r n f, st = .int i :: .ref a :: r ∧ mm_at h a = some (.inl (3, n, .inr (.inl f))) ∧ vp_in i n ∧ k (.long (f i.toNatClampNeg) :: r) := by
  unfold mm_lald at hw
  split at hw
  · rename_i i a r
    split at hw
    · rename_i t n f ha
      cases hb : Nat.beq t 3 with
      | false => rw [hb] at hw; exact hw.elim
      | true =>
        rw [hb] at hw
        have e := Nat.eq_of_beq_eq_true hb
        subst e
        exact ⟨i, a, r, n, f, rfl, ha, hw.1, hw.2⟩
    · exact hw.elim
  · exact hw.elim
theorem mm_aald_inv {h : mm_H} {st : List Value} {k : List Value → Prop} (hw : mm_aald h st k) : ∃ i a r n f, st = .int i :: .ref a :: r ∧ mm_at h a = some (.inl (4, n, .inr (.inr (.inr (.inr f))))) ∧ vp_in i n ∧ k (va_rf (f i.toNatClampNeg) :: r) := by
  unfold mm_aald at hw
  split at hw
  · rename_i i a r
    split at hw
    · rename_i t n f ha
      cases hb : Nat.beq t 4 with
      | false => rw [hb] at hw; exact hw.elim
      | true =>
        rw [hb] at hw
        have e := Nat.eq_of_beq_eq_true hb
        subst e
        exact ⟨i, a, r, n, f, rfl, ha, hw.1, hw.2⟩
    · exact hw.elim
  · exact hw.elim
theorem mm_iast_inv {h : mm_H} {st : List Value} {k : List Value → mm_H → Prop} (hw : mm_iast h st k) : ∃ x i a r n f, st = .int x :: .int i :: .ref a :: r ∧ mm_at h a = some (.inl (0, n, .inl f)) ∧ vp_in i n ∧ k r (mm_set h a (.inl (0, n, .inl (upd f i.toNatClampNeg x)))) := by
  unfold mm_iast at hw
  split at hw
  · rename_i x i a r
    split at hw
    · rename_i t n f ha
      cases hb : Nat.beq t 0 with
      | false => rw [hb] at hw; exact hw.elim
      | true =>
        rw [hb] at hw
        have e := Nat.eq_of_beq_eq_true hb
        subst e
        exact ⟨x, i, a, r, n, f, rfl, ha, hw.1, hw.2⟩
    · exact hw.elim
  · exact hw.elim
theorem mm_bast_inv {h : mm_H} {st : List Value} {k : List Value → mm_H → Prop} (hw : mm_bast h st k) : ∃ x i a r n f, st = .int x :: .int i :: .ref a :: r ∧ vp_in i n ∧ ((mm_at h a = some (.inl (1, n, .inl f)) ∧ k r (mm_set h a (.inl (1, n, .inl (upd f i.toNatClampNeg (vp_nar .byte x)))))) ∨ (mm_at h a = some (.inl (2, n, .inl f)) ∧ k r (mm_set h a (.inl (2, n, .inl (upd f i.toNatClampNeg (vp_nar .boolean x))))))) := by
  unfold mm_bast at hw
  split at hw
  · rename_i x i a r
    split at hw
    · rename_i t n f ha
      cases hb : Nat.beq t 1 with
      | true =>
        rw [hb] at hw
        have e := Nat.eq_of_beq_eq_true hb
        subst e
        exact ⟨x, i, a, r, n, f, rfl, hw.1, Or.inl ⟨ha, hw.2⟩⟩
      | false =>
        rw [hb] at hw
        cases hb2 : Nat.beq t 2 with
        | false => rw [hb2] at hw; exact hw.elim
        | true =>
          rw [hb2] at hw
          have e := Nat.eq_of_beq_eq_true hb2
          subst e
          exact ⟨x, i, a, r, n, f, rfl, hw.1, Or.inr ⟨ha, hw.2⟩⟩
    · exact hw.elim
  · exact hw.elim
theorem mm_last_inv {h : mm_H} {st : List Value} {k : List Value → mm_H → Prop} (hw : mm_last h st k) : ∃ x i a r n f, st = .long x :: .int i :: .ref a :: r ∧ mm_at h a = some (.inl (3, n, .inr (.inl f))) ∧ vp_in i n ∧ k r (mm_set h a (.inl (3, n, .inr (.inl (vp_updL f i.toNatClampNeg x))))) := by
  unfold mm_last at hw
  split at hw
  · rename_i x i a r
    split at hw
    · rename_i t n f ha
      cases hb : Nat.beq t 3 with
      | false => rw [hb] at hw; exact hw.elim
      | true =>
        rw [hb] at hw
        have e := Nat.eq_of_beq_eq_true hb
        subst e
        exact ⟨x, i, a, r, n, f, rfl, ha, hw.1, hw.2⟩
    · exact hw.elim
  · exact hw.elim
theorem mm_aast_inv {h : mm_H} {st : List Value} {k : List Value → mm_H → Prop} (hw : mm_aast h st k) : ∃ v i a r n f fs, st = .ref v :: .int i :: .ref a :: r ∧ mm_at h a = some (.inl (4, n, .inr (.inr (.inr (.inr f))))) ∧ mm_at h v = some (.inr (2, fs)) ∧ vp_in i n ∧ k r (mm_set h a (.inl (4, n, .inr (.inr (.inr (.inr (va_up f i.toNatClampNeg (some v)))))))) := by
  unfold mm_aast at hw
  split at hw
  · rename_i v i a r
    split at hw
    · rename_i t n f c fs ha hv
      cases hb : (Nat.beq t 4 && Nat.beq c 2) with
      | false => rw [hb] at hw; exact hw.elim
      | true =>
        rw [hb] at hw
        rw [Bool.and_eq_true] at hb
        have e := Nat.eq_of_beq_eq_true hb.1
        have e2 := Nat.eq_of_beq_eq_true hb.2
        subst e
        subst e2
        exact ⟨v, i, a, r, n, f, fs, rfl, ha, hv, hw.1, hw.2⟩
    · exact hw.elim
  · exact hw.elim
theorem mm_alen_inv {h : mm_H} {st : List Value} {k : List Value → Prop} (hw : mm_alen h st k) : ∃ a r t x, st = .ref a :: r ∧ mm_at h a = some (.inl (t, x)) ∧ t ≤ 4 ∧ k (.int (Int32.ofNat x.1) :: r) := by
  unfold mm_alen at hw
  split at hw
  · rename_i a r
    split at hw
    · rename_i t x ha
      cases hb : Nat.ble t 4 with
      | false => rw [hb] at hw; exact hw.elim
      | true => rw [hb] at hw; exact ⟨a, r, t, x, rfl, ha, Nat.le_of_ble_eq_true hb, hw⟩
    · exact hw.elim
  · exact hw.elim
theorem mm_newa_inv {h : mm_H} {l : mm_L} {t N : Nat} {st : List Value} {bc bs : Nat} {k : List Value → mm_H → Nat → Nat → Prop} (hw : mm_newa h l t N st bc bs k) : ∃ n r, st = .int n :: r ∧ ¬ n < 0 ∧ n.toNatClampNeg = N ∧ N * 8 ≤ 536870912 ∧ 1 ≤ bc ∧ N ≤ bs ∧ l.all (fun q => mm_okr h.length q.2) = true ∧ r.all (mm_okr h.length) = true ∧ h.all (mm_okE h.length) = true ∧ k (.ref h.length :: r) (h ++ [mm_fresh t N]) (bc - 1) (bs - N) := by
  unfold mm_newa at hw
  split at hw
  · rename_i n r
    obtain ⟨⟨h1, h2, h3, h4, h5⟩, h6, h7⟩ := hw
    rw [Bool.and_eq_true] at h6
    have h8 := h6.1
    unfold mm_clo at h8
    rw [Bool.and_eq_true] at h8
    exact ⟨n, r, rfl, h1, h2, h3, h4, h5, h8.1, h8.2, h6.2, h7⟩
  · exact hw.elim
theorem mm_new_inv {F : mm_F} {h : mm_H} {l : mm_L} {ci : Nat} {st : List Value} {bc bs : Nat} {k : List Value → mm_H → Nat → Nat → Prop} (hw : mm_new F h l ci st bc bs k) : 1 ≤ bc ∧ (F ci).length ≤ bs ∧ l.all (fun q => mm_okr h.length q.2) = true ∧ st.all (mm_okr h.length) = true ∧ h.all (mm_okE h.length) = true ∧ k (.ref h.length :: st) (h ++ [.inr (ci, F ci)]) (bc - 1) (bs - (F ci).length) := by
  obtain ⟨⟨h4, h5⟩, h6, h7⟩ := hw
  rw [Bool.and_eq_true] at h6
  have h8 := h6.1
  unfold mm_clo at h8
  rw [Bool.and_eq_true] at h8
  exact ⟨h4, h5, h8.1, h8.2, h6.2, h7⟩
theorem mm_recv_inv {h : mm_H} {ci na : Nat} {st : List Value} {k : Prop} (hw : mm_recv h ci na st k) : ∃ a fs, mm_at st (na - 1) = some (.ref a) ∧ mm_at h a = some (.inr (ci, fs)) ∧ 1 ≤ na ∧ k := by
  unfold mm_recv at hw
  split at hw
  · rename_i a ha
    split at hw
    · rename_i c fs hc
      cases hb : (Nat.beq c ci && Nat.ble 1 na) with
      | false => rw [hb] at hw; exact hw.elim
      | true =>
        rw [hb] at hw
        rw [Bool.and_eq_true] at hb
        have e := Nat.eq_of_beq_eq_true hb.1
        subst e
        exact ⟨a, fs, ha, hc, Nat.le_of_ble_eq_true hb.2, hw⟩
    · exact hw.elim
  · exact hw.elim
theorem mm_obj_inv {st : List Value} {k : List Value → Prop} (hw : mm_obj st k) : ∃ a r, st = .ref a :: r ∧ mm_cat r ≤ 8 ∧ k r := by
  unfold mm_obj at hw
  split at hw
  · rename_i a r
    cases hb : Nat.ble (mm_cat r) 8 with
    | false => rw [hb] at hw; exact hw.elim
    | true => rw [hb] at hw; exact ⟨a, r, rfl, Nat.le_of_ble_eq_true hb, hw⟩
  · exact hw.elim
theorem mm_cpy_inv {h : mm_H} {st : List Value} {k : List Value → mm_H → Prop} (hw : mm_cpy h st k) : ∃ n dp b sp a r n0 f n1 g, st = .int n :: .int dp :: .ref b :: .int sp :: .ref a :: r ∧ mm_at h a = some (.inl (0, n0, .inl f)) ∧ mm_at h b = some (.inl (0, n1, .inl g)) ∧ mm_cat r ≤ 8 ∧ ¬ sp < 0 ∧ ¬ dp < 0 ∧ ¬ n < 0 ∧ sp.toNatClampNeg + n.toNatClampNeg ≤ n0 ∧ dp.toNatClampNeg + n.toNatClampNeg ≤ n1 ∧ k r (mm_set h b (.inl (0, n1, .inl (va_cpy f g sp.toNatClampNeg dp.toNatClampNeg n.toNatClampNeg)))) := by
  unfold mm_cpy at hw
  split at hw
  · rename_i n dp b sp a r
    split at hw
    · rename_i t n0 f t2 n1 g ha hb0
      cases hb : (Nat.beq t 0 && Nat.beq t2 0 && Nat.ble (mm_cat r) 8) with
      | false => rw [hb] at hw; exact hw.elim
      | true =>
        rw [hb] at hw
        rw [Bool.and_eq_true, Bool.and_eq_true] at hb
        have e := Nat.eq_of_beq_eq_true hb.1.1
        have e2 := Nat.eq_of_beq_eq_true hb.1.2
        subst e
        subst e2
        obtain ⟨⟨h1, h2, h3, h4, h5⟩, h6⟩ := hw
        exact ⟨n, dp, b, sp, a, r, n0, f, n1, g, rfl, ha, hb0, Nat.le_of_ble_eq_true hb.2, h1, h2, h3, h4, h5, h6⟩
    · exact hw.elim
  · exact hw.elim
theorem mm_call_inv {C : mm_C} {M : mm_M} {h : mm_H} {l : mm_L} {mi na : Nat} {st : List Value} {bc bs : Nat} {k : List Value → mm_H → Nat → Nat → Prop} (hw : mm_call C M h l mi na st bc bs k) : na ≤ st.length ∧ mm_cat (st.drop na) ≤ 8 ∧ (M mi).1 ≤ bc ∧ (M mi).2 ≤ bs ∧ ((M mi).1 = 0 ∨ (l.all (fun q => mm_okr h.length q.2) = true ∧ (st.drop na).all (mm_okr h.length) = true)) ∧ C mi (st.take na).reverse h (fun v h2 => k (mm_push v (st.drop na)) h2 (bc - (M mi).1) (bs - (M mi).2)) := by
  unfold mm_call at hw
  cases hb : (Nat.ble na st.length && Nat.ble (mm_cat (st.drop na)) 8) with
  | false => rw [hb] at hw; exact hw.elim
  | true =>
    rw [hb] at hw
    rw [Bool.and_eq_true] at hb
    simp only [cond_true] at hw
    cases hb2 : (Nat.beq (M mi).1 0 && Nat.beq (M mi).2 0) with
    | true =>
      rw [hb2] at hw
      rw [Bool.and_eq_true] at hb2
      have e1 := Nat.eq_of_beq_eq_true hb2.1
      have e2 := Nat.eq_of_beq_eq_true hb2.2
      refine ⟨Nat.le_of_ble_eq_true hb.1, Nat.le_of_ble_eq_true hb.2, by omega, by omega, Or.inl e1, ?_⟩
      rw [e1, e2]
      exact hw
    | false =>
      rw [hb2] at hw
      obtain ⟨⟨h1, h2⟩, h3, h4⟩ := hw
      unfold mm_clo at h3
      rw [Bool.and_eq_true] at h3
      exact ⟨Nat.le_of_ble_eq_true hb.1, Nat.le_of_ble_eq_true hb.2, h1, h2, Or.inr h3, h4⟩
theorem mm_iret_inv {Q : mm_R} {kd : Nat} {st : List Value} {h : mm_H} (hw : mm_iret Q kd st h) : ∃ x, st = [.int x] ∧ Q (some (.int x)) h ∧ (kd = 0 ∨ vp_nar .boolean x = x) := by
  unfold mm_iret at hw
  split at hw
  · rename_i x
    cases hb : Nat.beq kd 0 with
    | true => rw [hb] at hw; exact ⟨x, rfl, hw, Or.inl (Nat.eq_of_beq_eq_true hb)⟩
    | false => rw [hb] at hw; exact ⟨x, rfl, hw.2, Or.inr hw.1⟩
  · exact hw.elim
theorem mm_lret_inv {Q : mm_R} {st : List Value} {h : mm_H} (hw : mm_lret Q st h) : ∃ x, st = [.long x] ∧ Q (some (.long x)) h := by
  unfold mm_lret at hw
  split at hw
  · exact ⟨_, rfl, hw⟩
  · exact hw.elim
theorem mm_vret_inv {Q : mm_R} {st : List Value} {h : mm_H} (hw : mm_vret Q st h) : st = [] ∧ Q none h := by
  unfold mm_vret at hw
  split at hw
  · exact ⟨rfl, hw⟩
  · exact hw.elim
theorem mm_mm_inv {f : Int32 → Int32 → Int32} {st : List Value} {k : List Value → Prop} (h : mm_mm f st k) : ∃ x y r, st = .int y :: .int x :: r ∧ mm_cat r ≤ 8 ∧ k (.int (f x y) :: r) := by
  unfold mm_mm at h
  split at h
  · rename_i y x r
    cases hb : Nat.ble (mm_cat r) 8 with
    | false => rw [hb] at h; exact h.elim
    | true => rw [hb] at h; exact ⟨x, y, r, rfl, Nat.le_of_ble_eq_true hb, h⟩
  · exact h.elim
theorem mm_m1_inv {f : Int32 → Int32} {st : List Value} {k : List Value → Prop} (h : mm_m1 f st k) : ∃ x r, st = .int x :: r ∧ mm_cat r ≤ 8 ∧ k (.int (f x) :: r) := by
  unfold mm_m1 at h
  split at h
  · rename_i x r
    cases hb : Nat.ble (mm_cat r) 8 with
    | false => rw [hb] at h; exact h.elim
    | true => rw [hb] at h; exact ⟨x, r, rfl, Nat.le_of_ble_eq_true hb, h⟩
  · exact h.elim
