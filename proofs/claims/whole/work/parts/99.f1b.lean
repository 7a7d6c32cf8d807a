/-! where the codes of a term can lie, whatever the run -/
def qO {α : Type} (o : Option α) (Q : α → Prop) : Prop := ∀ a, o = some a → Q a
theorem qO_bd {α β : Type} {o : Option α} {f : α → Option β} {R : α → Prop} {Q : β → Prop} (h : qO o R) (k : ∀ a, R a → qO (f a) Q) : qO (o.bind f) Q := by
  intro b hb
  cases ho : o with
  | none => rw [ho] at hb; cases hb
  | some a => rw [ho] at hb; exact k a (h a ho) b hb
theorem qO_any {α β : Type} {o : Option α} {f : α → Option β} {Q : β → Prop} (k : ∀ a, qO (f a) Q) : qO (o.bind f) Q := qO_bd (R := fun _ => True) (fun _ _ => trivial) (fun a _ => k a)
theorem qO_if {α : Type} {c : Prop} [Decidable c] {a b : Option α} {Q : α → Prop} (h1 : c → qO a Q) (h2 : ¬ c → qO b Q) : qO (if c then a else b) Q := by
  by_cases hc : c
  · rw [if_pos hc]; exact h1 hc
  · rw [if_neg hc]; exact h2 hc
theorem qO_bif {α : Type} {c : Bool} {a : Option α} {Q : α → Prop} (h1 : c = true → qO a Q) : qO (bif c then a else none) Q := by
  cases c with
  | true => exact h1 rfl
  | false => intro b hb; cases hb
theorem qO_some {α : Type} {a : α} {Q : α → Prop} (h : Q a) : qO (some a) Q := fun b hb => by cases hb; exact h
theorem qO_loop {S X : Type} {f : S → Option (S ⊕ X)} {I : S → Prop} {Q : X → Prop} (st : ∀ s, I s → qO (f s) (fun o => (∀ s2, o = .inl s2 → I s2) ∧ ∀ x, o = .inr x → Q x)) {s : S} (h : I s) : qO (mo_loop f s) Q := by
  intro x hx
  obtain ⟨n, hn⟩ := mo_loop_iff.mp hx
  clear hx
  induction n generalizing s with
  | zero => simp [mo_it] at hn
  | succ n ih =>
    rw [mo_it] at hn
    cases hf : f s with
    | none => rw [hf] at hn; cases hn
    | some o =>
      rw [hf] at hn
      cases o with
      | inl s2 => exact ih ((st s h _ hf).1 s2 rfl) hn
      | inr y =>
        have e : y = x := Option.some.inj hn
        exact e ▸ (st s h _ hf).2 y rfl
theorem qO_inl {S X : Type} {I : S → Prop} {Q : X → Prop} {s : S} (h : I s) : qO (some (Sum.inl s)) (fun o : S ⊕ X => (∀ s2, o = .inl s2 → I s2) ∧ ∀ x, o = .inr x → Q x) := qO_some ⟨fun s2 e => (by cases e; exact h), fun x e => (by cases e)⟩
theorem qO_inr {S X : Type} {I : S → Prop} {Q : X → Prop} {x : X} (h : Q x) : qO (some (Sum.inr x)) (fun o : S ⊕ X => (∀ s2, o = .inl s2 → I s2) ∧ ∀ x, o = .inr x → Q x) := qO_some ⟨fun s2 e => (by cases e), fun x e => (by cases e; exact h)⟩
/-- codes lie between 420 sd and 420 sd + 420 -/
def gPq (sd t x e : Nat) (m0 m : ms_S) : Prop := ∃ c : Nat, m.1 39 = nI c ∧ 420 * sd ≤ c ∧ c + e ≤ 420 * sd + t + x ∧ (c : Int) + (m.1 43).toInt + e ≤ 420 * sd + t + x ∧ -((t : Int) + x) ≤ (m.1 43).toInt ∧ m.1 11 = nI t ∧ t ≤ 400 ∧ x ≤ 1 ∧ sd ≤ 1 ∧ ∀ i, ¬ (420 * sd ≤ i ∧ i < 420 * sd + 420) → m.2.1 40 i = m0.2.1 40 i ∧ m.2.1 41 i = m0.2.1 41 i
def gPi (sd : Nat) (m0 m : ms_S) : Prop := ∃ t x, gPq sd t x 0 m0 m ∧ (m.1 13 = 0 → x = 0)
theorem gPq.mv {sd t x e : Nat} {m0 m n : ms_S} (h : gPq sd t x e m0 m) (h1 : n.1 39 = m.1 39) (h2 : n.1 43 = m.1 43) (h3 : n.1 11 = m.1 11) (h4 : n.2.1 40 = m.2.1 40) (h5 : n.2.1 41 = m.2.1 41) : gPq sd t x e m0 n := by
  unfold gPq
  rw [h1, h2, h3, h4, h5]
  exact h
theorem q_is {m : ms_S} {a : Int32} : qO (mf_is m a) (fun r => r.2 = m ∧ (r.1 = 0 ∨ m.1 13 = 0)) := by
  unfold mf_is
  refine qO_if (fun h => qO_any (fun x => qO_if (fun _ => qO_some ⟨rfl, Or.inr h⟩) (fun _ => qO_some ⟨rfl, Or.inl rfl⟩))) (fun _ => qO_some ⟨rfl, Or.inl rfl⟩)
theorem q_fail {m : ms_S} {f : Nat} (hf : 1 ≤ f) (hf2 : f ≤ 2) : qO (mf_fail m (nI f)) (fun n => n.1 39 = m.1 39 ∧ n.1 43 = m.1 43 ∧ n.1 11 = m.1 11 ∧ n.2.1 40 = m.2.1 40 ∧ n.2.1 41 = m.2.1 41 ∧ ¬ n.1 13 = 0) := by
  unfold mf_fail
  refine qO_if (fun h => qO_any (fun x => qO_some ⟨rfl, rfl, rfl, rfl, rfl, ?_⟩)) (fun h => qO_some ⟨rfl, rfl, rfl, rfl, rfl, fun e => h (by rw [e]; decide)⟩)
  show ¬ nI f = 0
  exact nI_ne0 hf (by omega)
theorem q_goesOn {sd t e : Nat} {m0 m : ms_S} (h : gPq sd t 1 e m0 m) : qO (mf_goesOn m) (fun n => ∃ t2 x, gPq sd t2 x e m0 n ∧ (n.1 13 = 0 → x = 0)) := by
  obtain ⟨c, h1, h2, h3, h4, h5, h6, h7, h8, h9, h10⟩ := h
  unfold mf_goesOn
  refine qO_if (fun hc => qO_bd (q_fail (f := 2) (by omega) (by omega)) (fun n hn => qO_some ?_)) (fun hc => qO_some ?_)
  · exact ⟨t, 1, gPq.mv (m := m) ⟨c, h1, h2, h3, h4, h5, h6, h7, h8, h9, h10⟩ hn.1 hn.2.1 hn.2.2.1 hn.2.2.2.1 hn.2.2.2.2.1, fun q => absurd q hn.2.2.2.2.2⟩
  · have ht : ¬ t = 400 := fun q => hc (by rw [h6, q]; rfl)
    refine ⟨t + 1, 0, ⟨c, h1, h2, by omega, ?_, ?_, ?_, by omega, by omega, h9, h10⟩, fun _ => rfl⟩
    · show (c : Int) + (m.1 43).toInt + e ≤ _
      omega
    · show _ ≤ (m.1 43).toInt
      omega
    · show m.1 11 + 1 = _
      rw [h6, nI_1]
theorem q_emit {sd t x e : Nat} {m0 m : ms_S} {a b : Int32} (h : gPq sd t x (e + 1) m0 m) : qO (mf_emit m a b) (fun n => gPq sd t x e m0 n ∧ n.1 13 = m.1 13) := by
  obtain ⟨c, h1, h2, h3, h4, h5, h6, h7, h8, h9, h10⟩ := h
  unfold mf_emit
  rw [h1]
  refine qO_bif (fun _ => qO_bif (fun _ => qO_some ⟨⟨c + 1, ?_, by omega, by omega, ?_, ?_, h6, h7, h8, h9, fun i hi => ?_⟩, rfl⟩))
  · show nI c + 1 = _
    rw [nI_1]
  · show ((c + 1 : Nat) : Int) + (m.1 43).toInt + e ≤ _
    omega
  · exact h5
  · have : ¬ i = c := fun q => hi (by omega)
    rw [nI_clamp (by omega)]
    show upd (m.2.1 40) c a i = _ ∧ upd (m.2.1 41) c b i = _
    rw [upd_ne this, upd_ne this]
    exact h10 i hi
theorem q_sub1 {a : Int32} (h : -1000 ≤ a.toInt) : (a - 1).toInt = a.toInt - 1 := by
  have h2 := a.toInt_lt
  rw [Int32.toInt_sub]
  exact Int.bmod_eq_of_le (by have : (1 : Int32).toInt = 1 := by decide
                              rw [this]; omega) (by have : (1 : Int32).toInt = 1 := by decide
                                                    rw [this]; omega)
theorem q_add1 {a : Int32} (h : a.toInt ≤ 1000) : (a + 1).toInt = a.toInt + 1 := by
  have h2 := a.le_toInt
  rw [Int32.toInt_add]
  exact Int.bmod_eq_of_le (by have : (1 : Int32).toInt = 1 := by decide
                              rw [this]; omega) (by have : (1 : Int32).toInt = 1 := by decide
                                                    rw [this]; omega)
theorem q_comes {sd t x : Nat} {m0 m : ms_S} {a : Int32} (h : gPq sd t x 0 m0 m) : qO (mf_comesOut m a) (fun n => gPq sd t x 0 m0 n ∧ n.1 13 = m.1 13) := by
  unfold mf_comesOut
  refine qO_bd (qO_loop (I := fun n => gPq sd t x 0 m0 n ∧ n.1 13 = m.1 13) (Q := fun r => (∀ n, r = .inl n → gPq sd t x 0 m0 n ∧ n.1 13 = m.1 13) ∧ ∀ n, r = .inr n → gPq sd t x 0 m0 n ∧ n.1 13 = m.1 13) ?_ ⟨h, rfl⟩) ?_
  · rintro n ⟨hn, h13⟩
    unfold mf_comesOut_l0
    refine qO_if (fun _ => qO_inr ⟨fun _ e => (by cases e), fun _ e => (by cases e; exact ⟨hn, h13⟩)⟩) (fun hk => qO_any (fun x2 => ?_))
    have hk2 : 0 < (n.1 43).toInt := by
      have := Int32.lt_iff_toInt_lt.mp (Int32.not_le.mp hk)
      simpa using this
    have hn2 : gPq sd t x 1 m0 (ms_sI n 43 (n.1 43 - 1)) := by
      obtain ⟨c, h1, h2, h3, h4, h5, h6, h7, h8, h9, h10⟩ := hn
      have e1 : ((ms_sI n 43 (n.1 43 - 1)).1 43).toInt = (n.1 43).toInt - 1 := q_sub1 (a := n.1 43) (by omega)
      exact ⟨c, h1, h2, by omega, by rw [e1]; omega, by rw [e1]; omega, h6, h7, h8, h9, h10⟩
    have k46 : ∀ b, qO (mf_comesOut_j46 (ms_sI n 43 (n.1 43 - 1)) a b) (fun o => (∀ s2, o = .inl s2 → gPq sd t x 0 m0 s2 ∧ s2.1 13 = m.1 13) ∧ ∀ r, o = .inr r → (∀ n, r = .inl n → gPq sd t x 0 m0 n ∧ n.1 13 = m.1 13) ∧ ∀ n, r = .inr n → gPq sd t x 0 m0 n ∧ n.1 13 = m.1 13) := by
      intro b
      unfold mf_comesOut_j46
      exact qO_bd (q_emit hn2) (fun n2 h2 => qO_inl ⟨h2.1, h2.2.trans h13⟩)
    have k23 : qO (mf_comesOut_j23 n a x2) (fun o => (∀ s2, o = .inl s2 → gPq sd t x 0 m0 s2 ∧ s2.1 13 = m.1 13) ∧ ∀ r, o = .inr r → (∀ n, r = .inl n → gPq sd t x 0 m0 n ∧ n.1 13 = m.1 13) ∧ ∀ n, r = .inr n → gPq sd t x 0 m0 n ∧ n.1 13 = m.1 13) := by
      unfold mf_comesOut_j23
      exact qO_if (fun _ => k46 _) (fun _ => qO_if (fun _ => k46 _) (fun _ => qO_if (fun _ => k46 _) (fun _ => k46 _)))
    have kx : qO (some (Sum.inr (Sum.inl n))) (fun o : ms_S ⊕ (ms_S ⊕ ms_S) => (∀ s2, o = .inl s2 → gPq sd t x 0 m0 s2 ∧ s2.1 13 = m.1 13) ∧ ∀ r, o = .inr r → (∀ n, r = .inl n → gPq sd t x 0 m0 n ∧ n.1 13 = m.1 13) ∧ ∀ n, r = .inr n → gPq sd t x 0 m0 n ∧ n.1 13 = m.1 13) := qO_inr ⟨fun _ e => (by cases e; exact ⟨hn, h13⟩), fun _ e => (by cases e)⟩
    exact qO_if (fun _ => kx) (fun _ => qO_if (fun _ => k23) (fun _ => qO_if (fun _ => kx) (fun _ => qO_if (fun _ => kx) (fun _ => k23))))
  · rintro (n | n) ⟨k1, k2⟩
    · exact qO_some (k1 n rfl)
    · exact qO_some (k2 n rfl)
theorem gPq.up {sd t x e : Nat} {m0 m : ms_S} (h : gPq sd t 0 0 m0 m) (he : x + e = 1 ∨ x = 1 ∧ e = 1) : gPq sd t 1 1 m0 m := by
  obtain ⟨c, h1, h2, h3, h4, h5, h6, h7, h8, h9, h10⟩ := h
  exact ⟨c, h1, h2, by omega, by omega, by omega, h6, h7, by omega, h9, h10⟩
theorem q_unit {sd : Nat} {m0 m : ms_S} (h : gPi sd m0 m) : qO (mf_unit m) (gPi sd m0) := by
  have hfail : qO (mf_unit_j45 m) (gPi sd m0) := by
    unfold mf_unit_j45
    obtain ⟨t, x, hp, -⟩ := h
    exact qO_bd (q_fail (f := 1) (by omega) (by omega)) (fun n hn => qO_some ⟨t, x, hp.mv hn.1 hn.2.1 hn.2.2.1 hn.2.2.2.1 hn.2.2.2.2.1, fun q => absurd q hn.2.2.2.2.2⟩)
  have hem : m.1 13 = 0 → ∀ a b, qO ((mf_emit m a b).bind fun s_10 => (mf_goesOn s_10).bind fun s_11 => some s_11) (gPi sd m0) := by
    intro h13 a b
    obtain ⟨t, x, hp, hx⟩ := h
    obtain rfl := hx h13
    exact qO_bd (q_emit (hp.up (x := 1) (e := 0) (Or.inl rfl))) (fun n hn => qO_bd (q_goesOn hn.1) (fun n2 hn2 => qO_some hn2))
  unfold mf_unit
  refine qO_bd q_is ?_
  rintro ⟨v, s1⟩ ⟨e1, hv⟩
  have e1 : s1 = m := e1
  subst e1
  refine qO_if (fun hv0 => qO_if (fun h13 => qO_any (fun x4 => qO_if (fun _ => hfail) (fun _ => qO_any (fun x7 => qO_if (fun _ => hfail) (fun _ => qO_any (fun x9 => hem h13 _ _)))))) (fun _ => hfail)) (fun hv0 => qO_any (fun x12 => hem ?_ _ _))
  rcases hv with q | q
  · exact absurd q hv0
  · exact q
theorem q_l13 {sd : Nat} {m0 m : ms_S} {v1 : Int32} (h : gPi sd m0 m) : qO (mo_loop (mf_expression_l13 v1) m) (gPi sd m0) := by
  refine qO_loop (I := gPi sd m0) (fun n hn => ?_) h
  unfold mf_expression_l13
  refine qO_bd q_is ?_
  rintro ⟨v, s1⟩ ⟨e1, hv⟩
  have e1 : s1 = n := e1
  subst e1
  refine qO_if (fun _ => qO_inr hn) (fun hv0 => ?_)
  have h13 : s1.1 13 = 0 := hv.resolve_left hv0
  obtain ⟨t, x, hp, hx⟩ := hn
  obtain rfl := hx h13
  have j24 : ∀ n, gPq sd t 0 0 m0 n → qO (mf_expression_j24 n v1) (fun o => (∀ s2, o = .inl s2 → gPi sd m0 s2) ∧ ∀ x, o = .inr x → gPi sd m0 x) := by
    intro n hq
    unfold mf_expression_j24
    have hq2 : gPq sd t 1 1 m0 (ms_sI n 12 (n.1 12 + 1)) := (hq.up (x := 1) (e := 0) (Or.inl rfl)).mv rfl rfl rfl rfl rfl
    refine qO_bd (q_goesOn hq2) (fun n2 hn2 => qO_bif (fun _ => qO_inl ?_))
    obtain ⟨t2, x2, ⟨c, h1, h2, h3, h4, h5, h6, h7, h8, h9, h10⟩, hx2⟩ := hn2
    have e1 : ((ms_sA (ms_sI n2 43 (n2.1 43 + 1)) 42 (upd (n2.2.1 42) (n2.1 43).toNatClampNeg 6)).1 43).toInt = (n2.1 43).toInt + 1 := q_add1 (a := n2.1 43) (by omega)
    exact ⟨t2, x2, ⟨c, h1, h2, by omega, by rw [e1]; omega, by rw [e1]; omega, h6, h7, h8, h9, h10⟩, hx2⟩
  exact qO_if (fun _ => qO_bd (q_fail (f := 2) (by omega) (by omega)) (fun n hn => j24 n (hp.mv hn.1 hn.2.1 hn.2.2.1 hn.2.2.2.1 hn.2.2.2.2.1))) (fun _ => j24 s1 hp)
theorem q_l51 {sd : Nat} {m0 m : ms_S} {v1 : Int32} (h : gPi sd m0 m) : qO (mo_loop (mf_expression_l51 v1) m) (gPi sd m0) := by
  refine qO_loop (I := gPi sd m0) (fun n hn => ?_) h
  unfold mf_expression_l51
  refine qO_bd q_is ?_
  rintro ⟨v, s1⟩ ⟨e1, hv⟩
  have e1 : s1 = n := e1
  subst e1
  refine qO_if (fun _ => qO_inr hn) (fun hv0 => qO_if (fun _ => qO_inr hn) (fun _ => ?_))
  have h13 : s1.1 13 = 0 := hv.resolve_left hv0
  obtain ⟨t, x, hp, hx⟩ := hn
  obtain rfl := hx h13
  refine qO_bd (q_comes hp) ?_
  rintro n2 ⟨⟨c, h1, h2, h3, h4, h5, h6, h7, h8, h9, h10⟩, -⟩
  refine qO_bd (q_goesOn (t := t) (e := 0) ?_) (fun n3 h3 => qO_inl h3)
  have e1 : ((ms_sI (ms_sI n2 12 (n2.1 12 - 1)) 43 (n2.1 43 - 1)).1 43).toInt = (n2.1 43).toInt - 1 := q_sub1 (a := n2.1 43) (by omega)
  exact ⟨c, h1, h2, by omega, by rw [e1]; omega, by rw [e1]; omega, h6, h7, by omega, h9, h10⟩
/-- whatever a term comes to, its codes lie within the side -/
theorem q_expr {sd c t : Nat} {m n : ms_S} (h39 : m.1 39 = nI c) (h11 : m.1 11 = nI t) (ht : t ≤ 400) (hc0 : 420 * sd ≤ c) (hc : c ≤ 420 * sd + t) (hsd : sd ≤ 1) (he : mf_expression m = some n) : ∀ i, ¬ (420 * sd ≤ i ∧ i < 420 * sd + 420) → n.2.1 40 i = m.2.1 40 i ∧ n.2.1 41 i = m.2.1 41 i := by
  have key : qO (mf_expression m) (gPi sd m) := by
    unfold mf_expression
    have h0 : gPi sd m (ms_sI m 43 0) := ⟨t, 0, ⟨c, h39, hc0, by omega, by show (c : Int) + (0 : Int32).toInt + _ ≤ _; rw [show (0 : Int32).toInt = 0 from rfl]; omega, by show _ ≤ (0 : Int32).toInt; rw [show (0 : Int32).toInt = 0 from rfl]; omega, h11, ht, by omega, hsd, fun i _ => ⟨rfl, rfl⟩⟩, fun _ => rfl⟩
    refine qO_bd (qO_loop (I := fun r => gPi sd m r.2) (Q := fun r => (∀ n, r = .inl n → gPi sd m n) ∧ (∀ n, r = .inr (.inl n) → gPi sd m n) ∧ ∀ n, r = .inr (.inr n) → gPi sd m n) ?_ h0) ?_
    · rintro ⟨w, s1⟩ hs1
      have hs1 : gPi sd m s1 := hs1
      unfold mf_expression_l8
      refine qO_if (fun _ => qO_inr ⟨fun _ e => (by cases e), fun _ e => (by cases e), fun _ e => (by cases e; exact hs1)⟩) (fun _ => qO_if (fun _ => ?_) (fun _ => qO_inr ⟨fun _ e => (by cases e), fun _ e => (by cases e), fun _ e => (by cases e; exact hs1)⟩))
      refine qO_bd (q_l13 hs1) (fun s2 hs2 => qO_bd (q_unit hs2) (fun s3 hs3 => qO_if (fun _ => ?_) (fun _ => qO_inr ⟨fun _ e => (by cases e; exact hs3), fun _ e => (by cases e), fun _ e => (by cases e)⟩)))
      refine qO_bd (q_l51 hs3) (fun s4 hs4 => ?_)
      have j122 : ∀ k0 k1, s4.1 13 = 0 → qO (mf_expression_j122 s4 (m.1 12) k0 k1) (fun o => (∀ s2, o = .inl s2 → gPi sd m s2.2) ∧ ∀ r, o = .inr r → (∀ n, r = .inl n → gPi sd m n) ∧ (∀ n, r = .inr (.inl n) → gPi sd m n) ∧ ∀ n, r = .inr (.inr n) → gPi sd m n) := by
        intro k0 k1 h13
        obtain ⟨t4, x4, hp, hx⟩ := hs4
        obtain rfl := hx h13
        unfold mf_expression_j122
        refine qO_bd (q_comes hp) ?_
        rintro n2 ⟨⟨c, h1, h2, h3, h4, h5, h6, h7, h8, h9, h10⟩, -⟩
        refine qO_any (fun x32 => qO_bif (fun _ => qO_bd (q_goesOn (t := t4) (e := 0) ?_) (fun n3 h3 => qO_inl h3)))
        have e1 : ((ms_sA (ms_sI n2 43 (n2.1 43 + 1)) 42 (upd (n2.2.1 42) (n2.1 43).toNatClampNeg x32)).1 43).toInt = (n2.1 43).toInt + 1 := q_add1 (a := n2.1 43) (by omega)
        exact ⟨c, h1, h2, by omega, by rw [e1]; omega, by rw [e1]; omega, h6, h7, by omega, h9, h10⟩
      have j96 : ∀ k0, (k0 = 0 ∨ s4.1 13 = 0) → qO (mf_expression_j96 s4 (m.1 12) k0) (fun o => (∀ s2, o = .inl s2 → gPi sd m s2.2) ∧ ∀ r, o = .inr r → (∀ n, r = .inl n → gPi sd m n) ∧ (∀ n, r = .inr (.inl n) → gPi sd m n) ∧ ∀ n, r = .inr (.inr n) → gPi sd m n) := by
        intro k0 hk
        unfold mf_expression_j96
        refine qO_if (fun _ => qO_inr ⟨fun _ e => (by cases e), fun _ e => (by cases e; exact hs4), fun _ e => (by cases e)⟩) (fun hk0 => ?_)
        have h13 := hk.resolve_left hk0
        refine qO_bd q_is ?_
        rintro ⟨v, s5⟩ ⟨e1, -⟩
        have e1 : s5 = s4 := e1
        subst e1
        refine qO_if (fun _ => qO_bd q_is ?_) (fun _ => j122 _ _ h13)
        rintro ⟨v2, s6⟩ ⟨e2, -⟩
        have e2 : s6 = s5 := e2
        subst e2
        exact qO_if (fun _ => j122 _ _ h13) (fun _ => j122 _ _ h13)
      unfold mf_expression_j77
      refine qO_bd q_is ?_
      rintro ⟨v, s5⟩ ⟨e1, hv⟩
      have e1 : s5 = s4 := e1
      subst e1
      refine qO_if (fun _ => qO_bd q_is ?_) (fun hv0 => j96 _ (Or.inr (hv.resolve_left hv0)))
      rintro ⟨v2, s6⟩ ⟨e2, hv2⟩
      have e2 : s6 = s5 := e2
      subst e2
      refine qO_if (fun _ => qO_bd q_is ?_) (fun hv0 => j96 _ (Or.inr (hv2.resolve_left hv0)))
      rintro ⟨v3, s7⟩ ⟨e3, hv3⟩
      have e3 : s7 = s6 := e3
      subst e3
      refine qO_if (fun _ => qO_bd q_is ?_) (fun hv0 => j96 _ (Or.inr (hv3.resolve_left hv0)))
      rintro ⟨v4, s8⟩ ⟨e4, hv4⟩
      have e4 : s8 = s7 := e4
      subst e4
      exact qO_if (fun _ => j96 _ (Or.inl rfl)) (fun hv0 => j96 _ (Or.inr (hv4.resolve_left hv0)))
    · have jc : ∀ s, gPi sd m s → qO (mf_expression_j106 s) (gPi sd m) := by
        intro s hs
        obtain ⟨t4, x4, hp, hx⟩ := hs
        unfold mf_expression_j106
        exact qO_bd (q_comes hp) (fun n2 hn2 => qO_some ⟨t4, x4, hn2.1, fun q => hx (hn2.2.symm.trans q)⟩)
      rintro (n | n | n) ⟨k1, k2, k3⟩
      · exact qO_some (k1 n rfl)
      · have hs := k2 n rfl
        refine qO_if (fun _ => jc n hs) (fun _ => qO_bd (q_fail (f := 1) (by omega) (by omega)) (fun n2 hn => jc n2 ?_))
        obtain ⟨t, x, hp, -⟩ := hs
        exact ⟨t, x, hp.mv hn.1 hn.2.1 hn.2.2.1 hn.2.2.2.1 hn.2.2.2.2.1, fun q => absurd q hn.2.2.2.2.2⟩
      · exact qO_some (k3 n rfl)
  obtain ⟨t, x, ⟨c, -, -, -, -, -, -, -, -, -, h10⟩, -⟩ := key n he
  exact h10
