/-! the small machine's row of cells as a world of the large one -/
def mm_vr (ad : Nat → Nat) : Value → Value
  | .ref k => .ref (ad k)
  | v => v
def mm_er (E : Nat → ClassId) (ad : Nat → Nat) : va_E → va_E
  | .inr (c, fs) => .inr (c, fs.map (mm_vr ad))
  | .inl (t, n, .inr (.inr (.inr (.inr f)))) => .inl (E t, n, .inr (.inr (.inr (.inr (fun i => if i < n then (f i).map ad else none)))))
  | .inl (t, x) => .inl (E t, x)
def mm_wr (E : Nat → ClassId) (ad : Nat → Nat) (h : mm_H) : va_W := h.mapIdx (fun k e => (ad k, mm_er E ad e))
def mm_ty (E : Nat → ClassId) : List (ClassId × FieldType) := [(E 0, .int), (E 1, .byte), (E 2, .boolean), (E 3, .long), (E 4, .object RX2)]
theorem mm_at_eq {α : Type} : ∀ (l : List α) (n : Nat), mm_at l n = l[n]?
  | [], _ => by simp [mm_at]
  | _ :: _, 0 => by simp [mm_at]
  | _ :: r, n + 1 => by simp [mm_at, mm_at_eq r n]
theorem mm_set_eq {α : Type} : ∀ (l : List α) (n : Nat) (x : α), mm_set l n x = l.set n x
  | [], _, _ => by simp [mm_set]
  | _ :: _, 0, _ => by simp [mm_set]
  | _ :: r, n + 1, x => by simp [mm_set, mm_set_eq r n x]
theorem mm_wr_at {E : Nat → ClassId} {ad : Nat → Nat} {h : mm_H} {a : Nat} {e : va_E} (ha : mm_at h a = some e) : (mm_wr E ad h)[a]? = some (ad a, mm_er E ad e) := by
  rw [mm_at_eq] at ha
  simp [mm_wr, List.getElem?_mapIdx, ha]
theorem mm_wr_set {E : Nat → ClassId} {ad : Nat → Nat} {h : mm_H} {a : Nat} {e : va_E} : (mm_wr E ad h).set a (ad a, mm_er E ad e) = mm_wr E ad (mm_set h a e) := by
  rw [mm_set_eq]
  apply List.ext_getElem?
  intro i
  simp only [mm_wr, List.getElem?_set, List.getElem?_mapIdx, List.length_mapIdx]
  by_cases hi : a = i
  · subst hi
    by_cases hl : a < h.length
    · simp [hl]
    · simp [hl]
  · simp [hi]
theorem mm_set_len {α : Type} (l : List α) (n : Nat) (x : α) : (mm_set l n x).length = l.length := by rw [mm_set_eq, List.length_set]
theorem mm_wr_len {E : Nat → ClassId} {ad : Nat → Nat} {h : mm_H} : (mm_wr E ad h).length = h.length := by simp [mm_wr]
theorem mm_vr_cat (ad : Nat → Nat) (v : Value) : (mm_vr ad v).category = v.category := by cases v <;> rfl
theorem mm_cat_map (ad : Nat → Nat) : ∀ st : List Value, ((st.map (mm_vr ad)).map fun v => v.category).sum = mm_cat st
  | [] => rfl
  | v :: r => by simp [mm_cat, mm_vr_cat, ← mm_cat_map ad r]
theorem mm_lod_at : ∀ {l : mm_L} {i : Nat} {v : Value}, mm_lod l i = some v → ∃ k : Nat, l[k]? = some (i, v)
  | [], _, _, h => by simp [mm_lod] at h
  | q :: r, i, v, h => by
    simp only [mm_lod] at h
    cases hb : Nat.beq q.1 i with
    | true =>
      rw [hb] at h
      have e1 : q.1 = i := Nat.eq_of_beq_eq_true hb
      have e2 : q.2 = v := Option.some.inj h
      exact ⟨0, by simp [← e1, ← e2]⟩
    | false =>
      rw [hb] at h
      obtain ⟨k, hk⟩ := mm_lod_at (l := r) h
      exact ⟨k + 1, by simpa using hk⟩
abbrev mm_lm (ad : Nat → Nat) (l : mm_L) : mm_L := l.map (fun q => (q.1, mm_vr ad q.2))
theorem mm_lm_at {ad : Nat → Nat} {l : mm_L} {i : Nat} {v : Value} (h : mm_lod l i = some v) : ∃ k : Nat, (mm_lm ad l)[k]? = some (i, mm_vr ad v) := by
  obtain ⟨k, hk⟩ := mm_lod_at h
  exact ⟨k, by simp [mm_lm, hk]⟩
theorem mm_ls {ls : Array Slot} {nL : Nat} {ad : Nat → Nat} {l : mm_L} {i : Nat} {v : Value} (hl : lv_has ls nL (mm_lm ad l)) (h : mm_lod l i = some v) : ls[i]? = some (.val (mm_vr ad v)) := by
  obtain ⟨k, hk⟩ := mm_lm_at (ad := ad) h
  exact lv_at hl k hk
theorem mm_sto_lm {ad : Nat → Nat} {l : mm_L} {i : Nat} {v : Value} : (i, mm_vr ad v) :: (mm_lm ad l).filter (fun q => !(q.1 == i) && !(q.1 + 1 == i && q.2.category == 2)) = mm_lm ad (mm_sto l i v) := by
  simp only [mm_sto, mm_lm, List.map_cons, List.filter_map, List.cons.injEq, true_and]
  congr 1
  apply List.filter_congr
  intro q _
  simp [mm_vr_cat]
theorem mm_stw_lm {ad : Nat → Nat} {l : mm_L} {i : Nat} {v : Value} : (i, mm_vr ad v) :: (mm_lm ad l).filter (fun q => !(q.1 == i) && (!(q.1 == i + 1) && !(q.1 + 1 == i && q.2.category == 2))) = mm_lm ad (mm_stw l i v) := by
  simp only [mm_stw, mm_lm, List.map_cons, List.filter_map, List.cons.injEq, true_and]
  congr 1
  apply List.filter_congr
  intro q _
  simp [mm_vr_cat]
theorem mm_msk_has {ls : Array Slot} {nL : Nat} {ad : Nat → Nat} {l : mm_L} {mk : Option (List Nat)} (hl : lv_has ls nL (mm_lm ad l)) : lv_has ls nL (mm_lm ad (mm_msk mk l)) := by
  cases mk with
  | none => exact hl
  | some ks =>
    refine ⟨hl.1, hl.2.1, fun q hq => ?_⟩
    simp only [mm_lm, mm_msk, List.mem_map, List.mem_filterMap, Option.map_eq_some_iff] at hq
    obtain ⟨q2, ⟨i, -, v, hv, rfl⟩, rfl⟩ := hq
    exact mm_ls hl hv
theorem mm_ent_args (ad : Nat → Nat) : ∀ (i : Nat) (vs : List Value), mm_lm ad (mm_ent i vs) = lv_args i (vs.map (mm_vr ad))
  | _, [] => rfl
  | i, v :: r => by
    simp only [mm_ent, mm_lm, List.map_cons, lv_args, mm_vr_cat, List.cons.injEq, true_and]
    have h := mm_ent_args ad (i + v.category) r
    rcases lv_cat v with hc | hc
    · rw [hc] at h ⊢
      simpa [mm_lm] using h
    · rw [hc] at h ⊢
      simpa [mm_lm] using h
/-- what a later naming of the cells has of an earlier one: n0 cells then, n now, at most mc made -/
def mm_agr (ad0 : Nat → Nat) (n0 mc : Nat) (ad : Nat → Nat) (n : Nat) : Prop := n0 ≤ n ∧ n ≤ n0 + mc ∧ (∀ k, k < n0 → ad k = ad0 k) ∧ (n = n0 → ad = ad0)
theorem mm_agr.rf {ad : Nat → Nat} {n mc : Nat} : mm_agr ad n mc ad n := ⟨Nat.le_refl _, Nat.le_add_right _ _, fun _ _ => rfl, fun _ => rfl⟩
theorem mm_agr.tr {ad0 ad1 ad2 : Nat → Nat} {n0 n1 n2 m0 m1 mc : Nat} (h : mm_agr ad0 n0 m0 ad1 n1) (h2 : mm_agr ad1 n1 m1 ad2 n2) (hm : m0 + m1 ≤ mc) : mm_agr ad0 n0 mc ad2 n2 := by
  refine ⟨Nat.le_trans h.1 h2.1, ?_, fun k hk => ?_, fun e => ?_⟩
  · have := h.2.1
    have := h2.2.1
    omega
  · rw [h2.2.2.1 k (Nat.lt_of_lt_of_le hk h.1), h.2.2.1 k hk]
  · have e1 : n1 = n0 := by have := h.1; have := h2.1; omega
    have e2 : n2 = n1 := by omega
    rw [h2.2.2.2 e2, h.2.2.2 e1]
/-! places that stay the same under another naming -/
theorem mm_vr_same {ad ad2 : Nat → Nat} {n : Nat} (h : ∀ k, k < n → ad2 k = ad k) {v : Value} (hv : mm_okr n v = true) : mm_vr ad2 v = mm_vr ad v := by
  cases v <;> try rfl
  rename_i k
  simp only [mm_vr]
  rw [h k (Nat.le_of_ble_eq_true hv)]
theorem mm_st_same {ad ad2 : Nat → Nat} {n : Nat} (h : ∀ k, k < n → ad2 k = ad k) {st : List Value} (hv : st.all (mm_okr n) = true) : st.map (mm_vr ad2) = st.map (mm_vr ad) := by
  apply List.map_congr_left
  intro v hm
  exact mm_vr_same h (List.all_eq_true.mp hv v hm)
theorem mm_lm_same {ad ad2 : Nat → Nat} {n : Nat} (h : ∀ k, k < n → ad2 k = ad k) {l : mm_L} (hv : l.all (fun q => mm_okr n q.2) = true) : mm_lm ad2 l = mm_lm ad l := by
  apply List.map_congr_left
  intro q hm
  rw [mm_vr_same h (List.all_eq_true.mp hv q hm)]
theorem mm_er_same {E : Nat → ClassId} {ad ad2 : Nat → Nat} {n : Nat} (h : ∀ k, k < n → ad2 k = ad k) {e : va_E} (hv : mm_okE n e = true) : mm_er E ad2 e = mm_er E ad e := by
  obtain ⟨t, m, f | f | f | f | f⟩ | ⟨c, fs⟩ := e <;> try rfl
  · simp only [mm_er]
    congr 7
    funext i
    by_cases hi : i < m
    · simp only [hi, if_true]
      simp only [mm_okE] at hv
      have h1 := List.all_eq_true.mp hv i (List.mem_range.mpr hi)
      cases hf : f i with
      | none => rfl
      | some k =>
        rw [hf] at h1
        simp only [Option.map_some]
        rw [h k (Nat.le_of_ble_eq_true h1)]
    · simp only [hi, if_false]
  · simp only [mm_er]
    congr 2
    exact mm_st_same h hv
/-- a cell is made, and named q -/
def mm_nm (ad : Nat → Nat) (n q : Nat) : Nat → Nat := fun k => if k = n then q else ad k
theorem mm_nm_lt {ad : Nat → Nat} {n q : Nat} : ∀ k, k < n → mm_nm ad n q k = ad k := fun k hk => by simp [mm_nm, Nat.ne_of_lt hk]
theorem mm_nm_at {ad : Nat → Nat} {n q : Nat} : mm_nm ad n q n = q := by simp [mm_nm]
theorem mm_wr_push {E : Nat → ClassId} {ad : Nat → Nat} {h : mm_H} {q : Nat} {e : va_E} {e2 : va_E} (hc : h.all (mm_okE h.length) = true) (he : mm_er E (mm_nm ad h.length q) e = e2) : mm_wr E ad h ++ [(q, e2)] = mm_wr E (mm_nm ad h.length q) (h ++ [e]) := by
  apply List.ext_getElem?
  intro i
  rcases Nat.lt_or_ge i h.length with hi | hi
  · rw [List.getElem?_append_left (by rw [mm_wr_len]; exact hi)]
    simp only [mm_wr, List.getElem?_mapIdx]
    rw [List.getElem?_append_left hi]
    have e1 : h[i]? = some h[i] := List.getElem?_eq_getElem hi
    rw [e1]
    simp only [Option.map_some]
    rw [mm_nm_lt i hi, mm_er_same (n := h.length) (fun k hk => mm_nm_lt k hk) (List.all_eq_true.mp hc _ (List.getElem_mem hi))]
  · rw [List.getElem?_append_right (by rw [mm_wr_len]; exact hi), mm_wr_len]
    simp only [mm_wr, List.getElem?_mapIdx]
    rw [List.getElem?_append_right hi]
    rcases Nat.eq_or_lt_of_le hi with hi | hi
    · subst hi
      simp [mm_nm_at, he]
    · have e0 : i - h.length ≠ 0 := by omega
      obtain ⟨j, hj⟩ := Nat.exists_eq_succ_of_ne_zero e0
      simp [hj]
