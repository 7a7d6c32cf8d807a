/-! reading: names -/
theorem lg0 {x y : Int64} : lg_cmp x y = 0 ↔ x = y := by
  unfold lg_cmp
  constructor
  · intro h
    split at h
    · exact absurd h (by decide)
    · split at h
      · assumption
      · exact absurd h (by decide)
  · intro h
    subst h
    simp
/-- the names told so far, the same on both sides; A i is the speaker's number, 10 for a word -/
def gNm (ns nw : Nat) (s : xs_S) (m : ms_S) : Prop := ns ≤ 5 ∧ nw ≤ 6 ∧ s.1 275 = nI ns ∧ s.1 276 = nI nw ∧ m.1 20 = nI (ns + nw) ∧ ∃ A : Nat → Nat, (∀ i, i < ns + nw → m.2.1 22 i = nI (A i) ∧ ((A i < ns ∧ m.2.2 21 i = s.2.2.1 7 (A i)) ∨ (A i = 10 ∧ ∃ b, b < nw ∧ m.2.2 21 i = s.2.2.1 8 b))) ∧ (∀ a, a < ns → ∃ i, i < ns + nw ∧ A i = a) ∧ (∀ b, b < nw → ∃ i, i < ns + nw ∧ m.2.2 21 i = s.2.2.1 8 b) ∧ ∀ i j, i < j → j < ns + nw → A i < 10 → A j < 10 → A i < A j
/-- the first speaker of that name -/
def gIsn (ns : Nat) (s : xs_S) (x : Int64) (o : Option Nat) : Prop := match o with
  | some a => a < ns ∧ s.2.2.1 7 a = x ∧ ∀ a2, a2 < a → ¬ s.2.2.1 7 a2 = x
  | none => ∀ a, a < ns → ¬ s.2.2.1 7 a = x
def gOi (o : Option Nat) : Int32 := match o with
  | some a => nI a
  | none => -1
theorem x_named {ns : Nat} {s : xs_S} (hn : ns ≤ 5) (h : s.1 275 = nI ns) (x : Int64) : ∃ o, gIsn ns s x o ∧ xf_6_speakerNamed s x = some (gOi o, s) := by
  have key : ∀ n w, n + w = ns → (∀ a, a < w → ¬ s.2.2.1 7 a = x) → (∃ a, gIsn ns s x (some a) ∧ mo_loop (xf_6_speakerNamed_l2 x) (nI w, s) = some (.inl (nI a, s))) ∨ (gIsn ns s x none ∧ mo_loop (xf_6_speakerNamed_l2 x) (nI w, s) = some (.inr s)) := by
    intro n
    induction n with
    | zero =>
      intro w hw hb
      have hw : w = ns := by omega
      subst hw
      refine Or.inr ⟨hb, mo_loop_inr (wO_iff.mp ?_)⟩
      unfold xf_6_speakerNamed_l2
      exact wO_pos (by rw [h]; exact nI_le (Nat.le_refl _) (by omega)) (wO_some rfl)
    | succ n ih =>
      intro w hw hb
      have hle : ¬ s.1 275 ≤ nI w := by rw [h]; exact nI_ge (by omega) (by omega)
      by_cases c : s.2.2.1 7 w = x
      · refine Or.inl ⟨w, ⟨by omega, c, hb⟩, mo_loop_inr (wO_iff.mp ?_)⟩
        unfold xf_6_speakerNamed_l2
        exact wO_neg hle (wO_al (k := w) rfl (by omega) (by omega) (wO_pos (lg0.mpr c) (wO_some rfl)))
      · have st : xf_6_speakerNamed_l2 x (nI w, s) = some (.inl (nI (w + 1), s)) := by
          refine wO_iff.mp ?_
          unfold xf_6_speakerNamed_l2
          refine wO_neg hle (wO_al (k := w) rfl (by omega) (by omega) (wO_neg (fun e => c (lg0.mp e)) (wO_some ?_)))
          rw [nI_1]
        rw [mo_loop_inl st]
        exact ih (w + 1) (by omega) (fun a ha => by
          by_cases e : a = w
          · rw [e]; exact c
          · exact hb a (by omega))
  rcases key ns 0 (by omega) (fun a ha => by omega) with ⟨a, h1, h2⟩ | ⟨h1, h2⟩
  · refine ⟨some a, h1, ?_⟩
    unfold xf_6_speakerNamed
    rw [show (0 : Int32) = nI 0 from rfl, h2]
    rfl
  · refine ⟨none, h1, ?_⟩
    unfold xf_6_speakerNamed
    rw [show (0 : Int32) = nI 0 from rfl, h2]
    rfl
theorem x_told {ns nw : Nat} {s : xs_S} (hn : ns ≤ 5) (hw6 : nw ≤ 6) (h : s.1 275 = nI ns) (h2 : s.1 276 = nI nw) (x : Int64) : ∃ r : Int32, xf_6_isTold s x = some (r, s) ∧ ((r = 1 ∧ ((∃ a, a < ns ∧ s.2.2.1 7 a = x) ∨ ∃ b, b < nw ∧ s.2.2.1 8 b = x)) ∨ (r = 0 ∧ (∀ a, a < ns → ¬ s.2.2.1 7 a = x) ∧ ∀ b, b < nw → ¬ s.2.2.1 8 b = x)) := by
  have key : ∀ n w, n + w = nw → (∀ a, a < w → ¬ s.2.2.1 8 a = x) → ((∃ b, b < nw ∧ s.2.2.1 8 b = x) ∧ mo_loop (xf_6_isTold_l2 x) (nI w, s) = some (.inl s)) ∨ ((∀ b, b < nw → ¬ s.2.2.1 8 b = x) ∧ mo_loop (xf_6_isTold_l2 x) (nI w, s) = some (.inr s)) := by
    intro n
    induction n with
    | zero =>
      intro w hw hb
      have hw : w = nw := by omega
      subst hw
      refine Or.inr ⟨hb, mo_loop_inr (wO_iff.mp ?_)⟩
      unfold xf_6_isTold_l2
      exact wO_pos (by rw [h2]; exact nI_le (Nat.le_refl _) (by omega)) (wO_some rfl)
    | succ n ih =>
      intro w hw hb
      have hle : ¬ s.1 276 ≤ nI w := by rw [h2]; exact nI_ge (by omega) (by omega)
      by_cases c : s.2.2.1 8 w = x
      · refine Or.inl ⟨⟨w, by omega, c⟩, mo_loop_inr (wO_iff.mp ?_)⟩
        unfold xf_6_isTold_l2
        exact wO_neg hle (wO_al (k := w) rfl (by omega) (by omega) (wO_pos (lg0.mpr c) (wO_some rfl)))
      · have st : xf_6_isTold_l2 x (nI w, s) = some (.inl (nI (w + 1), s)) := by
          refine wO_iff.mp ?_
          unfold xf_6_isTold_l2
          refine wO_neg hle (wO_al (k := w) rfl (by omega) (by omega) (wO_neg (fun e => c (lg0.mp e)) (wO_some ?_)))
          rw [nI_1]
        rw [mo_loop_inl st]
        exact ih (w + 1) (by omega) (fun a ha => by
          by_cases e : a = w
          · rw [e]; exact c
          · exact hb a (by omega))
  unfold xf_6_isTold
  rcases key nw 0 (by omega) (fun a ha => by omega) with ⟨k1, k2⟩ | ⟨k1, k2⟩
  · refine ⟨1, ?_, Or.inl ⟨rfl, Or.inr k1⟩⟩
    rw [show (0 : Int32) = nI 0 from rfl, k2]
    rfl
  · obtain ⟨o, o1, o2⟩ := x_named hn h x
    cases o with
    | none =>
      refine ⟨0, ?_, Or.inr ⟨rfl, o1, k1⟩⟩
      rw [show mo_loop (xf_6_isTold_l2 x) ((0 : Int32), s) = some (.inr s) from k2]
      show (xf_6_speakerNamed s x).bind (fun q => if q.1 = (-1 : Int32) then some ((0 : Int32), q.2) else some ((1 : Int32), q.2)) = _
      rw [o2]
      rfl
    | some a =>
      refine ⟨1, ?_, Or.inl ⟨rfl, Or.inl ⟨a, o1.1, o1.2.1⟩⟩⟩
      rw [show mo_loop (xf_6_isTold_l2 x) ((0 : Int32), s) = some (.inr s) from k2]
      show (xf_6_speakerNamed s x).bind (fun q => if q.1 = (-1 : Int32) then some ((0 : Int32), q.2) else some ((1 : Int32), q.2)) = _
      rw [o2]
      show (if nI a = (-1 : Int32) then some ((0 : Int32), s) else some ((1 : Int32), s)) = _
      have q : ∀ a, a < 5 → ¬ nI a = (-1 : Int32) := by decide
      rw [if_neg (q a (by have := o1.1; omega))]
/-- the reference finds the same speaker -/
theorem m_knownl {ns nw t : Nat} {s : xs_S} {m : ms_S} {x : Int64} (h : gNm ns nw s m) (ht : t ≤ 400) (hx : m.2.2 8 t = x) : (∃ i a, gIsn ns s x (some a) ∧ i < 11 ∧ m.2.1 22 i = nI a ∧ mo_loop (mf_known_l13 (nI t)) (nI 0, m) = some (.inl (nI i, m))) ∨ (gIsn ns s x none ∧ mo_loop (mf_known_l13 (nI t)) (nI 0, m) = some (.inr m)) := by
  obtain ⟨h1, h2, h3, h4, h5, A, a1, a2, a3, a4⟩ := h
  have key : ∀ n w, n + w = ns + nw → (∀ i, i < w → ¬ (A i < 10 ∧ m.2.2 21 i = x)) → (∃ i a, gIsn ns s x (some a) ∧ i < 11 ∧ m.2.1 22 i = nI a ∧ mo_loop (mf_known_l13 (nI t)) (nI w, m) = some (.inl (nI i, m))) ∨ (gIsn ns s x none ∧ mo_loop (mf_known_l13 (nI t)) (nI w, m) = some (.inr m)) := by
    intro n
    induction n with
    | zero =>
      intro w hw hb
      have hw : w = ns + nw := by omega
      subst hw
      refine Or.inr ⟨fun a ha e => ?_, mo_loop_inr (wO_iff.mp ?_)⟩
      · obtain ⟨i, i1, i2⟩ := a2 a ha
        rcases (a1 i i1).2 with ⟨q1, q2⟩ | ⟨q1, -⟩
        · exact hb i i1 ⟨by omega, by rw [q2, i2, e]⟩
        · omega
      · unfold mf_known_l13
        exact wO_pos (by rw [h5]; exact nI_le (Nat.le_refl _) (by omega)) (wO_some rfl)
    | succ n ih =>
      intro w hw hb
      have hle : ¬ m.1 20 ≤ nI w := by rw [h5]; exact nI_ge (by omega) (by omega)
      obtain ⟨b1, b2⟩ := a1 w (by omega)
      have nx : mf_known_l13 (nI t) (nI w, m) = some (.inl (nI (w + 1), m)) → ¬ (A w < 10 ∧ m.2.2 21 w = x) → (∃ i a, gIsn ns s x (some a) ∧ i < 11 ∧ m.2.1 22 i = nI a ∧ mo_loop (mf_known_l13 (nI t)) (nI w, m) = some (.inl (nI i, m))) ∨ (gIsn ns s x none ∧ mo_loop (mf_known_l13 (nI t)) (nI w, m) = some (.inr m)) := by
        intro st hc
        rw [mo_loop_inl st]
        exact ih (w + 1) (by omega) (fun a ha => by
          by_cases e : a = w
          · rw [e]; exact hc
          · exact hb a (by omega))
      have j38 : mf_known_j38 m (nI t) (nI w) = some (.inl (nI (w + 1), m)) := by
        unfold mf_known_j38
        rw [nI_1]
      by_cases c : m.2.2 21 w = x
      · rcases b2 with ⟨q1, q2⟩ | ⟨q1, -⟩
        · refine Or.inl ⟨w, A w, ⟨q1, by rw [← q2]; exact c, fun a3 ha e => ?_⟩, by omega, b1, mo_loop_inr (wO_iff.mp ?_)⟩
          · obtain ⟨i, i1, i2⟩ := a2 a3 (by omega)
            rcases Nat.lt_trichotomy i w with q | q | q
            · refine hb i q ⟨by omega, ?_⟩
              rcases (a1 i i1).2 with ⟨-, r2⟩ | ⟨r1, -⟩
              · rw [r2, i2, e]
              · omega
            · subst q
              omega
            · have := a4 w i q i1 (by omega) (by omega)
              omega
          · unfold mf_known_l13
            refine wO_neg hle (wO_al (k := w) rfl (by omega) (by omega) (wO_al (k := t) rfl (by omega) (by omega) (wO_pos (lg0.mpr (c.trans hx.symm)) (wO_agv (k := w) rfl (by omega) (by omega) b1 (wO_neg ?_ (wO_some rfl))))))
            rw [show (10 : Int32) = nI 10 from rfl]
            exact nI_ge (by omega) (by omega)
        · refine nx (wO_iff.mp ?_) (fun e => by omega)
          unfold mf_known_l13
          refine wO_neg hle (wO_al (k := w) rfl (by omega) (by omega) (wO_al (k := t) rfl (by omega) (by omega) (wO_pos (lg0.mpr (c.trans hx.symm)) (wO_agv (k := w) rfl (by omega) (by omega) b1 (wO_pos ?_ (wO_iff.mpr j38))))))
          rw [show (10 : Int32) = nI 10 from rfl]
          exact nI_le (by omega) (by omega)
      · refine nx (wO_iff.mp ?_) (fun e => c e.2)
        unfold mf_known_l13
        exact wO_neg hle (wO_al (k := w) rfl (by omega) (by omega) (wO_al (k := t) rfl (by omega) (by omega) (wO_neg (fun e => c ((lg0.mp e).trans hx)) (wO_iff.mpr j38))))
  exact key (ns + nw) 0 (by omega) (fun i hi => by omega)
