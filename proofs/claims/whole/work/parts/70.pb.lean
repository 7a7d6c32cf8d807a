/-! the pure side: functions that have a value -/
def wO {α : Type} (o : Option α) (P : α → Prop) : Prop := ∃ x, o = some x ∧ P x
theorem wO_some {α : Type} {x : α} {P : α → Prop} (h : P x) : wO (some x) P := ⟨x, rfl, h⟩
theorem wO_inv {α : Type} {o : Option α} {P : α → Prop} (h : wO o P) : ∃ x, o = some x ∧ P x := h
theorem wO_bd {α β : Type} {o : Option α} {f : α → Option β} {Q : α → Prop} {P : β → Prop} (h : wO o Q) (k : ∀ x, Q x → wO (f x) P) : wO (o.bind f) P := by
  obtain ⟨x, rfl, hx⟩ := h
  obtain ⟨y, hy, hP⟩ := k x hx
  exact ⟨y, hy, hP⟩
theorem wO_eq {α β : Type} {o : Option α} {x : α} {f : α → Option β} {P : β → Prop} (h : o = some x) (k : wO (f x) P) : wO (o.bind f) P := by
  subst h
  exact k
theorem wO_mono {α : Type} {o : Option α} {P Q : α → Prop} (h : wO o P) (k : ∀ x, P x → Q x) : wO o Q := by
  obtain ⟨x, hx, hP⟩ := h
  exact ⟨x, hx, k x hP⟩
theorem wO_pos {α : Type} {c : Prop} [Decidable c] {a b : Option α} {P : α → Prop} (h : c) (k : wO a P) : wO (if c then a else b) P := by rw [if_pos h]; exact k
theorem wO_neg {α : Type} {c : Prop} [Decidable c] {a b : Option α} {P : α → Prop} (h : ¬ c) (k : wO b P) : wO (if c then a else b) P := by rw [if_neg h]; exact k
theorem wO_ite {α : Type} {c : Prop} [Decidable c] {a b : Option α} {P : α → Prop} (h : c → wO a P) (k : ¬ c → wO b P) : wO (if c then a else b) P := by
  by_cases hc : c
  · rw [if_pos hc]; exact h hc
  · rw [if_neg hc]; exact k hc
theorem pu_in {i : Int32} {k n : Nat} (hi : i = nI k) (h : k < n) (hn : n < 2 ^ 31) : mo_in i n = true := by
  subst hi
  exact mo_in_of (vp_in_nI h hn)
theorem wO_in {α : Type} {i : Int32} {k n : Nat} {a : Option α} {P : α → Prop} (hi : i = nI k) (h : k < n) (hn : n < 2 ^ 31) (kk : wO a P) : wO (bif mo_in i n then a else none) P := by
  rw [pu_in hi h hn]
  exact kk
theorem pu_ag {f : Nat → Int32} {i : Int32} {k n : Nat} (hi : i = nI k) (h : k < n) (hn : n < 2 ^ 31) : mo_ag n f i = some (f k) := by
  unfold mo_ag
  rw [pu_in hi h hn, hi, nI_clamp (by omega)]
  rfl
theorem pu_al {f : Nat → Int64} {i : Int32} {k n : Nat} (hi : i = nI k) (h : k < n) (hn : n < 2 ^ 31) : mo_al n f i = some (f k) := by
  unfold mo_al
  rw [pu_in hi h hn, hi, nI_clamp (by omega)]
  rfl
theorem wO_ag {β : Type} {f : Nat → Int32} {i : Int32} {k n : Nat} {g : Int32 → Option β} {P : β → Prop} (hi : i = nI k) (h : k < n) (hn : n < 2 ^ 31) (kk : wO (g (f k)) P) : wO ((mo_ag n f i).bind g) P := wO_eq (pu_ag hi h hn) kk
theorem wO_al {β : Type} {f : Nat → Int64} {i : Int32} {k n : Nat} {g : Int64 → Option β} {P : β → Prop} (hi : i = nI k) (h : k < n) (hn : n < 2 ^ 31) (kk : wO (g (f k)) P) : wO ((mo_al n f i).bind g) P := wO_eq (pu_al hi h hn) kk
/-- a loop: a measure falls -/
theorem wO_loop {S X : Type} {step : S → Option (S ⊕ X)} {P : X → Prop} (I : Nat → S → Prop) (hs : ∀ n s, I n s → wO (step s) (mo_sum (fun s2 => ∃ k, k < n ∧ I k s2) P)) : ∀ n s, I n s → wO (mo_loop step s) P := by
  intro n
  induction n using Nat.strongRecOn with
  | ind n ih =>
    intro s hI
    obtain ⟨r, hr, hQ⟩ := hs n s hI
    cases r with
    | inr x => exact ⟨x, mo_loop_iff.mpr ⟨1, by simp [mo_it, hr]⟩, hQ⟩
    | inl s2 =>
      obtain ⟨k, hk, hI2⟩ := hQ
      obtain ⟨x, hx, hP⟩ := ih k hk s2 hI2
      obtain ⟨m, hm⟩ := mo_loop_iff.mp hx
      exact ⟨x, mo_loop_iff.mpr ⟨m + 1, by simp [mo_it, hr, hm]⟩, hP⟩
/-- a loop that counts: I i s ahead of the turn i, N turns -/
theorem wO_count {S X : Type} {step : S → Option (S ⊕ X)} {P : X → Prop} (I : Nat → S → Prop) (N : Nat) (hs : ∀ i s, i < N → I i s → wO (step s) (mo_sum (I (i + 1)) P)) (he : ∀ s, I N s → wO (step s) (mo_sum (fun _ => False) P)) : ∀ s, I 0 s → wO (mo_loop step s) P := by
  intro s h0
  refine wO_loop (fun n s => n ≤ N ∧ I (N - n) s) ?_ N s ⟨Nat.le_refl N, by rw [Nat.sub_self]; exact h0⟩
  rintro n s ⟨hn, hI⟩
  cases n with
  | zero =>
    refine wO_mono (he s hI) ?_
    rintro (x | x) hx
    · exact False.elim hx
    · exact hx
  | succ n =>
    refine wO_mono (hs (N - (n + 1)) s (by omega) hI) ?_
    rintro (x | x) hx
    · refine ⟨n, by omega, by omega, ?_⟩
      rw [show N - n = N - (n + 1) + 1 by omega]
      exact hx
    · exact hx
theorem pu_lit (n : Nat) : Int32.ofNat n = nI n := rfl
theorem pu_mul (a b : Nat) : nI a * nI b = nI (a * b) := (Int32.ofNat_mul a b).symm
theorem pu_sub {a b : Nat} (h : b ≤ a) : nI a - nI b = nI (a - b) := by
  obtain ⟨c, rfl⟩ : ∃ c, a = c + b := ⟨a - b, by omega⟩
  rw [Nat.add_sub_cancel, ← nI_add, Int32.add_sub_cancel]
theorem pu_div {a b : Nat} (ha : a < 2 ^ 31) (hb : b < 2 ^ 31) : nI a / nI b = nI (a / b) := by
  apply Int32.toInt.inj
  have h1 : a / b ≤ a := Nat.div_le_self a b
  rw [Int32.toInt_div, nI_toInt ha, nI_toInt hb, nI_toInt (by omega)]
  have h2 : (a : Int).tdiv (b : Int) = ((a / b : Nat) : Int) := by
    rw [Int.tdiv_eq_ediv_of_nonneg (by omega)]
    rfl
  rw [h2]
  generalize a / b = q at h1
  exact Int.bmod_eq_of_le (by omega) (by omega)
/-- the reference's fields outside K are as they were -/
def msF (K : List Nat) (s t : ms_S) : Prop := (∀ j, ¬ j ∈ K → t.1 j = s.1 j ∧ t.2.1 j = s.2.1 j) ∧ t.2.2 = s.2.2
theorem msF.rf {K : List Nat} {s : ms_S} : msF K s s := ⟨fun _ _ => ⟨rfl, rfl⟩, rfl⟩
theorem msF.tr {K : List Nat} {s t u : ms_S} (h : msF K s t) (h2 : msF K t u) : msF K s u := ⟨fun j hj => ⟨(h2.1 j hj).1.trans (h.1 j hj).1, (h2.1 j hj).2.trans (h.1 j hj).2⟩, h2.2.trans h.2⟩
theorem msF.wk {K K2 : List Nat} {s t : ms_S} (h : msF K s t) (hK : ∀ j ∈ K, j ∈ K2) : msF K2 s t := ⟨fun j hj => h.1 j (fun h3 => hj (hK j h3)), h.2⟩
theorem mm_up_ne {α : Type} {f : Nat → α} {k j : Nat} {v : α} (h : ¬ j = k) : mm_up f k v j = f j := by
  unfold mm_up
  cases hb : Nat.beq j k with
  | false => rfl
  | true => exact absurd (Nat.eq_of_beq_eq_true hb) h
theorem mm_up_eq {α : Type} {f : Nat → α} {k : Nat} {v : α} : mm_up f k v k = v := by
  unfold mm_up
  rw [show Nat.beq k k = true from Nat.beq_refl k]
  rfl
theorem msF.sI {K : List Nat} {s : ms_S} {j : Nat} {v : Int32} (h : j ∈ K) : msF K s (ms_sI s j v) := ⟨fun i hi => ⟨mm_up_ne (fun e => hi (e ▸ h)), rfl⟩, rfl⟩
theorem msF.sA {K : List Nat} {s : ms_S} {j : Nat} {v : Nat → Int32} (h : j ∈ K) : msF K s (ms_sA s j v) := ⟨fun i hi => ⟨rfl, mm_up_ne (fun e => hi (e ▸ h))⟩, rfl⟩
theorem msF.i {K : List Nat} {s t : ms_S} (h : msF K s t) (j : Nat) (hj : ¬ j ∈ K) : t.1 j = s.1 j := (h.1 j hj).1
theorem msF.a {K : List Nat} {s t : ms_S} (h : msF K s t) (j : Nat) (hj : ¬ j ∈ K) : t.2.1 j = s.2.1 j := (h.1 j hj).2
theorem upd_eq {f : Nat → Int32} {k : Nat} {x : Int32} : upd f k x k = x := by simp [upd]
theorem upd_ne {f : Nat → Int32} {k j : Nat} {x : Int32} (h : ¬ j = k) : upd f k x j = f j := by simp [upd, h]
theorem pu_agv {f : Nat → Int32} {i v : Int32} {k n : Nat} (hi : i = nI k) (h : k < n) (hn : n < 2 ^ 31) (hv : f k = v) : mo_ag n f i = some v := by rw [pu_ag hi h hn, hv]
theorem wO_agv {β : Type} {f : Nat → Int32} {i v : Int32} {k n : Nat} {g : Int32 → Option β} {P : β → Prop} (hi : i = nI k) (h : k < n) (hn : n < 2 ^ 31) (hv : f k = v) (kk : wO (g v) P) : wO ((mo_ag n f i).bind g) P := wO_eq (pu_agv hi h hn hv) kk
theorem mm_up_up {α : Type} {f : Nat → α} {k : Nat} {a b : α} : mm_up (mm_up f k a) k b = mm_up f k b := by
  funext j
  unfold mm_up
  cases Nat.beq j k <;> rfl
theorem ms_sA_sA {s : ms_S} {j : Nat} {a b : Nat → Int32} : ms_sA (ms_sA s j a) j b = ms_sA s j b := by
  unfold ms_sA
  rw [mm_up_up]
theorem wO_iff {α : Type} {o : Option α} {x : α} : wO o (fun y => y = x) ↔ o = some x := ⟨fun ⟨_, h, e⟩ => e ▸ h, fun h => ⟨x, h, rfl⟩⟩
