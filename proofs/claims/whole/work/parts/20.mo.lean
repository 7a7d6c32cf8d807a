/-! functions that may have no value, loops among them, and how the small machine follows them -/
theorem mm_vi {i : Int32} {n : Nat} (h : (decide (i < 0) || Nat.ble n i.toNatClampNeg) = false) : vp_in i n := by
  rw [Bool.or_eq_false_iff, decide_eq_false_iff_not] at h
  intro q
  rcases q with q | q
  · exact h.1 q
  · have h2 := h.2
    rw [Nat.ble_eq_true_of_le q] at h2
    cases h2
def mo_in (i : Int32) (n : Nat) : Bool := !(decide (i < 0) || Nat.ble n i.toNatClampNeg)
theorem mo_in_vp {i : Int32} {n : Nat} (h : mo_in i n = true) : vp_in i n := mm_vi (by simpa [mo_in] using h)
theorem mo_in_of {i : Int32} {n : Nat} (h : vp_in i n) : mo_in i n = true := by
  cases hb : mo_in i n with
  | true => rfl
  | false =>
    exfalso
    simp only [mo_in, Bool.not_eq_false', Bool.or_eq_true, decide_eq_true_eq] at hb
    rcases hb with q | q
    · exact h (Or.inl q)
    · exact h (Or.inr (Nat.le_of_ble_eq_true q))
/-- what a row of n numbers holds at a place -/
def mo_ag (n : Nat) (f : Nat → Int32) (i : Int32) : Option Int32 := bif mo_in i n then some (f i.toNatClampNeg) else none
def mo_al (n : Nat) (f : Nat → Int64) (i : Int32) : Option Int64 := bif mo_in i n then some (f i.toNatClampNeg) else none
theorem mo_ag_inv {n : Nat} {f : Nat → Int32} {i : Int32} {x : Int32} (h : mo_ag n f i = some x) : vp_in i n ∧ f i.toNatClampNeg = x := by
  unfold mo_ag at h
  cases hb : mo_in i n with
  | false => rw [hb] at h; cases h
  | true => rw [hb] at h; exact ⟨mo_in_vp hb, Option.some.inj h⟩
theorem mo_al_inv {n : Nat} {f : Nat → Int64} {i : Int32} {x : Int64} (h : mo_al n f i = some x) : vp_in i n ∧ f i.toNatClampNeg = x := by
  unfold mo_al at h
  cases hb : mo_in i n with
  | false => rw [hb] at h; cases h
  | true => rw [hb] at h; exact ⟨mo_in_vp hb, Option.some.inj h⟩
theorem mo_bind {α β : Type} {a : Option α} {f : α → Option β} {r : β} (h : a.bind f = some r) : ∃ x, a = some x ∧ f x = some r := Option.bind_eq_some_iff.mp h
theorem mo_if {i : Int32} {n : Nat} {α : Type} {a : Option α} {r : α} (h : (bif mo_in i n then a else none) = some r) : vp_in i n ∧ a = some r := by
  cases hb : mo_in i n with
  | false => rw [hb] at h; cases h
  | true => rw [hb] at h; exact ⟨mo_in_vp hb, h⟩
theorem mo_ite {c : Prop} [Decidable c] {α : Type} {a : Option α} {r : α} (h : (if c then a else none) = some r) : c ∧ a = some r := by
  by_cases hc : c
  · rw [if_pos hc] at h; exact ⟨hc, h⟩
  · rw [if_neg hc] at h; cases h
theorem mo_nz {c : Prop} [Decidable c] {α : Type} {a : Option α} {r : α} (h : (if c then none else a) = some r) : ¬ c ∧ a = some r := by
  by_cases hc : c
  · rw [if_pos hc] at h; cases h
  · rw [if_neg hc] at h; exact ⟨hc, h⟩
theorem mo_pos {c : Prop} [Decidable c] {α : Type} {a b : Option α} {r : α} (h : (if c then a else b) = some r) (hc : c) : a = some r := by
  rw [if_pos hc] at h
  exact h
theorem mo_neg {c : Prop} [Decidable c] {α : Type} {a b : Option α} {r : α} (h : (if c then a else b) = some r) (hc : ¬ c) : b = some r := by
  rw [if_neg hc] at h
  exact h
/-- n turns of a loop at most -/
def mo_it {S X : Type} (step : S → Option (S ⊕ X)) : Nat → S → Option X
  | 0, _ => none
  | n + 1, s => match step s with
    | none => none
    | some (.inl s2) => mo_it step n s2
    | some (.inr x) => some x
theorem mo_it_one {S X : Type} {step : S → Option (S ⊕ X)} : ∀ {n m : Nat} {s : S} {x y : X}, mo_it step n s = some x → mo_it step m s = some y → x = y
  | 0, _, _, _, _, h, _ => by cases h
  | _ + 1, 0, _, _, _, _, h => by cases h
  | n + 1, m + 1, s, x, y, h1, h2 => by
    simp only [mo_it] at h1 h2
    split at h1
    · cases h1
    · rename_i s2 he
      rw [he] at h2
      exact mo_it_one h1 h2
    · rename_i z he
      rw [he] at h2
      exact (Option.some.inj h1).symm.trans (Option.some.inj h2)
/-- a loop: what it comes to, if it ends -/
noncomputable def mo_loop {S X : Type} (step : S → Option (S ⊕ X)) (s : S) : Option X := by
  classical
  exact if h : ∃ x, ∃ n, mo_it step n s = some x then some h.choose else none
theorem mo_loop_iff {S X : Type} {step : S → Option (S ⊕ X)} {s : S} {x : X} : mo_loop step s = some x ↔ ∃ n, mo_it step n s = some x := by
  classical
  unfold mo_loop
  constructor
  · intro h
    split at h
    · rename_i hx
      obtain ⟨n, hn⟩ := hx.choose_spec
      exact ⟨n, by rw [hn]; exact h⟩
    · cases h
  · rintro ⟨n, hn⟩
    have hx : ∃ x, ∃ n, mo_it step n s = some x := ⟨x, n, hn⟩
    rw [dif_pos hx]
    obtain ⟨m, hm⟩ := hx.choose_spec
    rw [mo_it_one hm hn]
def mo_c2 {A B : Type} (f : A → B → Prop) : A × B → Prop
  | (a, b) => f a b
theorem mo_pair {A B : Type} {a a2 : A} {b b2 : B} (h : some (a, b) = some (a2, b2)) : a = a2 ∧ b = b2 := Prod.mk.inj (Option.some.inj h)
def mo_sum {A B : Type} (f : A → Prop) (g : B → Prop) : A ⊕ B → Prop
  | .inl a => f a
  | .inr b => g b
theorem mo_loop_go {S X : Type} {step : S → Option (S ⊕ X)} {G : S → Prop} {K : X → Prop} (h : ∀ s r, step s = some r → mo_sum G K r → G s) (s : S) (x : X) (hl : mo_loop step s = some x) (hK : K x) : G s := by
  obtain ⟨n, hn⟩ := mo_loop_iff.mp hl
  clear hl
  induction n generalizing s with
  | zero => cases hn
  | succ n ih =>
    simp only [mo_it] at hn
    split at hn
    · cases hn
    · rename_i s2 he
      exact h s _ he (ih s2 hn)
    · rename_i z he
      have e := Option.some.inj hn
      subst e
      exact h s _ he hK
/-- the locals as the next instruction keeps them -/
def mm_mk (cs : List mm_En) (l : mm_L) : mm_L := match cs with
  | [] => []
  | e :: _ => mm_msk e.2.2.2.2 l
theorem mm_re {C : mm_C} {M : mm_M} {F : mm_F} {P : List mm_En} {Q : mm_R} {cs : List mm_En} {l l' c : mm_L} {st : List Value} {h : mm_H} {bc bs : Nat} (g : mm_go C M F P Q cs l' st h bc bs) (e1 : mm_mk cs l = c) (e2 : mm_mk cs l' = c) : mm_go C M F P Q cs l st h bc bs := by
  have e : mm_mk cs l = mm_mk cs l' := e1.trans e2.symm
  obtain ⟨n, g⟩ := g
  cases n with
  | zero => exact False.elim g
  | succ n =>
    refine ⟨n + 1, ?_⟩
    cases cs with
    | nil => exact False.elim g
    | cons e0 cs =>
      simp only [mm_mk] at e
      simp only [mm_wp] at g ⊢
      rw [e]
      exact g
