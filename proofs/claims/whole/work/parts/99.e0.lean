/-! laws: rows of items, what they come to; the reference -/
abbrev gIt : Type := Nat × Nat
def gItk (x : gIt) : Prop := (x.1 = 0 ∧ x.2 < 10000) ∨ (x.1 = 1 ∧ x.2 < 9) ∨ (2 ≤ x.1 ∧ x.1 ≤ 5)
def gOpv (k : Nat) (a b : Int32) : Int32 := if k = 2 then a + b else if k = 3 then a - b else if k = 4 then a * b else a / b
def gRun (v : Nat → Int32) : List gIt → List Int32 → Option (List Int32)
  | [], st => some st
  | x :: X, st => if x.1 < 2 then gRun v X ((if x.1 = 0 then nI x.2 else v x.2) :: st) else match st with
    | b :: a :: st2 => if x.1 = 5 ∧ b = 0 then none else gRun v X (gOpv x.1 a b :: st2)
    | _ => none
/-- from a height to a height, never above D -/
def gWfr (D : Nat) : List gIt → Nat → Nat → Prop
  | [], h, h2 => h = h2
  | x :: X, h, h2 => gItk x ∧ (if x.1 < 2 then h + 1 ≤ D ∧ gWfr D X (h + 1) h2 else 2 ≤ h ∧ gWfr D X (h - 1) h2)
theorem gWfr_app {D : Nat} : ∀ {X Y : List gIt} {h h1 h2 : Nat}, gWfr D X h h1 → gWfr D Y h1 h2 → gWfr D (X ++ Y) h h2
  | [], _, _, _, _, e, k => by
    have e : _ = _ := e
    subst e
    exact k
  | x :: X, Y, h, h1, h2, e, k => by
    refine ⟨e.1, ?_⟩
    have e2 := e.2
    by_cases c : x.1 < 2
    · rw [if_pos c] at e2 ⊢
      exact ⟨e2.1, gWfr_app e2.2 k⟩
    · rw [if_neg c] at e2 ⊢
      exact ⟨e2.1, gWfr_app e2.2 k⟩
theorem gWfr_up {D D2 : Nat} (hD : D ≤ D2) : ∀ {X : List gIt} {h h2 : Nat}, gWfr D X h h2 → gWfr D2 X h h2
  | [], _, _, e => e
  | x :: X, h, h2, e => by
    refine ⟨e.1, ?_⟩
    have e2 := e.2
    by_cases c : x.1 < 2
    · rw [if_pos c] at e2 ⊢
      exact ⟨by omega, gWfr_up hD e2.2⟩
    · rw [if_neg c] at e2 ⊢
      exact ⟨e2.1, gWfr_up hD e2.2⟩
theorem gWfr_sh {D j : Nat} : ∀ {X : List gIt} {h h2 : Nat}, gWfr D X h h2 → gWfr (D + j) X (h + j) (h2 + j)
  | [], _, _, e => congrArg (· + j) (show _ = _ from e)
  | x :: X, h, h2, e => by
    refine ⟨e.1, ?_⟩
    have e2 := e.2
    by_cases c : x.1 < 2
    · rw [if_pos c] at e2 ⊢
      refine ⟨by omega, ?_⟩
      have := gWfr_sh (j := j) e2.2
      rw [show h + j + 1 = h + 1 + j by omega]
      exact this
    · rw [if_neg c] at e2 ⊢
      refine ⟨by omega, ?_⟩
      have := gWfr_sh (j := j) e2.2
      rw [show h + j - 1 = h - 1 + j by omega]
      exact this
/-- what lies below is left as it is -/
theorem gRun_below {D : Nat} {v : Nat → Int32} : ∀ {X : List gIt} {st r : List Int32} {h2 : Nat}, gWfr D X st.length h2 → gRun v X (st ++ r) = (gRun v X st).map (· ++ r)
  | [], _, _, _, _ => rfl
  | x :: X, st, r, h2, e => by
    have e2 := e.2
    unfold gRun
    by_cases c : x.1 < 2
    · rw [if_pos c] at e2
      rw [if_pos c, if_pos c]
      exact gRun_below (st := (if x.1 = 0 then nI x.2 else v x.2) :: st) e2.2
    · rw [if_neg c] at e2
      rw [if_neg c, if_neg c]
      match st, e2 with
      | b :: a :: st2, e2 =>
        show (if x.1 = 5 ∧ b = 0 then none else gRun v X (gOpv x.1 a b :: (st2 ++ r))) = (if x.1 = 5 ∧ b = 0 then none else gRun v X (gOpv x.1 a b :: st2)).map (· ++ r)
        by_cases c2 : x.1 = 5 ∧ b = 0
        · rw [if_pos c2, if_pos c2]
          rfl
        · rw [if_neg c2, if_neg c2]
          exact gRun_below (st := gOpv x.1 a b :: st2) e2.2
      | [b], e2 => exact absurd e2.1 (by simp)
      | [], e2 => exact absurd e2.1 (by simp)
theorem gRun_len {D : Nat} {v : Nat → Int32} : ∀ {X : List gIt} {st st2 : List Int32} {h2 : Nat}, gWfr D X st.length h2 → gRun v X st = some st2 → st2.length = h2
  | [], st, st2, h2, e, k => by
    have e : st.length = h2 := e
    cases k
    exact e
  | x :: X, st, st2, h2, e, k => by
    have e2 := e.2
    unfold gRun at k
    by_cases c : x.1 < 2
    · rw [if_pos c] at e2 k
      exact gRun_len (st := (if x.1 = 0 then nI x.2 else v x.2) :: st) e2.2 k
    · rw [if_neg c] at e2 k
      match st, e2, k with
      | b :: a :: st3, e2, k =>
        have k : (if x.1 = 5 ∧ b = 0 then none else gRun v X (gOpv x.1 a b :: st3)) = some st2 := k
        by_cases c2 : x.1 = 5 ∧ b = 0
        · rw [if_pos c2] at k; cases k
        · rw [if_neg c2] at k
          exact gRun_len (st := gOpv x.1 a b :: st3) e2.2 k
      | [b], e2, k => exact absurd e2.1 (by simp)
      | [], e2, k => exact absurd e2.1 (by simp)
theorem gRun_app {v : Nat → Int32} : ∀ {X Y : List gIt} {st : List Int32}, gRun v (X ++ Y) st = (gRun v X st).bind (gRun v Y)
  | [], _, _ => rfl
  | x :: X, Y, st => by
    show (if x.1 < 2 then gRun v (X ++ Y) ((if x.1 = 0 then nI x.2 else v x.2) :: st) else match st with
      | b :: a :: st2 => if x.1 = 5 ∧ b = 0 then none else gRun v (X ++ Y) (gOpv x.1 a b :: st2)
      | _ => none) = (if x.1 < 2 then gRun v X ((if x.1 = 0 then nI x.2 else v x.2) :: st) else match st with
      | b :: a :: st2 => if x.1 = 5 ∧ b = 0 then none else gRun v X (gOpv x.1 a b :: st2)
      | _ => none).bind (gRun v Y)
    by_cases c : x.1 < 2
    · rw [if_pos c, if_pos c]
      exact gRun_app
    · rw [if_neg c, if_neg c]
      match st with
      | b :: a :: st2 =>
        show (if x.1 = 5 ∧ b = 0 then none else gRun v (X ++ Y) (gOpv x.1 a b :: st2)) = (if x.1 = 5 ∧ b = 0 then none else gRun v X (gOpv x.1 a b :: st2)).bind (gRun v Y)
        by_cases c2 : x.1 = 5 ∧ b = 0
        · rw [if_pos c2, if_pos c2]; rfl
        · rw [if_neg c2, if_neg c2]; exact gRun_app
      | [b] => rfl
      | [] => rfl
def gEvl (v : Nat → Int32) (X : List gIt) : Option Int32 := (gRun v X []).bind List.head?
theorem gEvl_some {D : Nat} {v : Nat → Int32} {X : List gIt} (h : gWfr D X 0 1) : gRun v X [] = (gEvl v X).map (fun a => [a]) := by
  unfold gEvl
  cases hr : gRun v X [] with
  | none => rfl
  | some st =>
    have := gRun_len (st := []) h hr
    match st, this with
    | [a], _ => rfl
theorem gRun_cg {v v2 : Nat → Int32} (hv : ∀ i, i < 9 → v i = v2 i) {D : Nat} : ∀ {X : List gIt} {h h2 : Nat} {st : List Int32}, gWfr D X h h2 → gRun v X st = gRun v2 X st
  | [], _, _, _, _ => rfl
  | x :: X, h, h2, st, e => by
    have e2 := e.2
    unfold gRun
    by_cases c : x.1 < 2
    · rw [if_pos c] at e2
      rw [if_pos c, if_pos c]
      have ev : (if x.1 = 0 then nI x.2 else v x.2) = (if x.1 = 0 then nI x.2 else v2 x.2) := by
        by_cases c0 : x.1 = 0
        · rw [if_pos c0, if_pos c0]
        · rw [if_neg c0, if_neg c0]
          rcases e.1 with q | q | q
          · exact absurd q.1 c0
          · exact hv _ q.2
          · omega
      rw [ev]
      exact gRun_cg hv e2.2
    · rw [if_neg c] at e2
      rw [if_neg c, if_neg c]
      match st with
      | b :: a :: st2 =>
        show (if x.1 = 5 ∧ b = 0 then none else gRun v X (gOpv x.1 a b :: st2)) = (if x.1 = 5 ∧ b = 0 then none else gRun v2 X (gOpv x.1 a b :: st2))
        rw [gRun_cg hv e2.2]
      | [b] => rfl
      | [] => rfl
/-- a stack as a row -/
def gPil (st : List Int32) (A : Nat → Int32) : Prop := ∀ (j : Nat) (a : Int32), st[j]? = some a → A (st.length - 1 - j) = a
theorem gPil_push {st : List Int32} {A : Nat → Int32} {a : Int32} (h : gPil st A) : gPil (a :: st) (upd A st.length a) := by
  intro j b hj
  cases j with
  | zero =>
    have : a = b := by simpa using hj
    subst this
    show upd A st.length a (st.length + 1 - 1 - 0) = a
    rw [show st.length + 1 - 1 - 0 = st.length by omega]
    exact upd_eq
  | succ j =>
    have hj : st[j]? = some b := by simpa using hj
    have hlt : j < st.length := by
      rcases Nat.lt_or_ge j st.length with q | q
      · exact q
      · rw [List.getElem?_eq_none q] at hj; cases hj
    show upd A st.length a (st.length + 1 - 1 - (j + 1)) = b
    rw [show st.length + 1 - 1 - (j + 1) = st.length - 1 - j by omega, upd_ne (by omega)]
    exact h j b hj
theorem gPil_op {st : List Int32} {A : Nat → Int32} {a b c : Int32} (h : gPil (b :: a :: st) A) : gPil (c :: st) (upd A st.length c) := by
  refine gPil_push (fun j x hj => ?_)
  have hlt : j < st.length := by
    rcases Nat.lt_or_ge j st.length with q | q
    · exact q
    · rw [List.getElem?_eq_none q] at hj; cases hj
  have := h (j + 2) x (by simpa using hj)
  have e : (b :: a :: st).length - 1 - (j + 2) = st.length - 1 - j := by
    show st.length + 1 + 1 - 1 - (j + 2) = _
    omega
  rw [e] at this
  exact this
theorem gPil_top {st : List Int32} {A : Nat → Int32} {a b : Int32} (h : gPil (b :: a :: st) A) : A (st.length + 1) = b ∧ A st.length = a := by
  have h0 := h 0 b rfl
  have h1 := h 1 a rfl
  exact ⟨h0, h1⟩
/-- the codes from f on are the items -/
def gCds (X : List gIt) (f : Nat) (s : ms_S) : Prop := ∀ (i : Nat) (x : gIt), X[i]? = some x → s.2.1 40 (f + i) = nI x.1 ∧ s.2.1 41 (f + i) = nI x.2
theorem gCds_cons {x : gIt} {X : List gIt} {f : Nat} {s : ms_S} (h : gCds (x :: X) f s) : s.2.1 40 f = nI x.1 ∧ s.2.1 41 f = nI x.2 ∧ gCds X (f + 1) s := by
  obtain ⟨h1, h2⟩ := h 0 x rfl
  refine ⟨h1, h2, fun i y hy => ?_⟩
  have := h (i + 1) y (by simpa using hy)
  rw [show f + 1 + i = f + (i + 1) by omega]
  exact this
theorem gCds.mv {X : List gIt} {f : Nat} {s t : ms_S} (h : gCds X f s) (h1 : t.2.1 40 = s.2.1 40) (h2 : t.2.1 41 = s.2.1 41) : gCds X f t := fun i x hx => by
  rw [h1, h2]
  exact h i x hx
theorem gCds_app {X Y : List gIt} {f : Nat} {s : ms_S} (h : gCds (X ++ Y) f s) : gCds X f s ∧ gCds Y (f + X.length) s := by
  refine ⟨fun i x hx => h i x ?_, fun i x hx => ?_⟩
  · have hlt : i < X.length := by
      rcases Nat.lt_or_ge i X.length with q | q
      · exact q
      · rw [List.getElem?_eq_none q] at hx; cases hx
    rw [List.getElem?_append_left hlt]
    exact hx
  · have := h (X.length + i) x (by rw [List.getElem?_append_right (by omega), Nat.add_sub_cancel_left]; exact hx)
    rw [show f + X.length + i = f + (X.length + i) by omega]
    exact this
theorem gItk_le {x : gIt} (h : gItk x) : x.1 ≤ 5 := by
  rcases h with q | q | q <;> omega
theorem m_term_go {D to : Nat} (hD : D ≤ 400) (hto : to ≤ 840) : ∀ (X : List gIt) (f : Nat) (st : List Int32) (s : ms_S) (h2 : Nat), f + X.length = to → st.length ≤ D → gWfr D X st.length h2 → gCds X f s → gPil st (s.2.1 45) → wO (mo_loop (mf_termOf_l4 (nI to)) (nI st.length, nI f, s)) (fun r => ∃ t, msF [45] s t ∧ ((r = .inl t ∧ gRun (s.2.1 44) X st = none) ∨ (r = .inr t ∧ ∃ st2, gRun (s.2.1 44) X st = some st2 ∧ gPil st2 (t.2.1 45)))) := by
  intro X
  induction X with
  | nil =>
    intro f st s h2 hf hsd hw hc hp
    have hf : f = to := by simpa using hf
    subst hf
    refine wO_step ?_
    unfold mf_termOf_l4
    exact wO_pos (Int32.le_refl _) (wO_some ⟨s, msF.rf, Or.inr ⟨rfl, st, rfl, hp⟩⟩)
  | cons x X ih =>
    intro f st s h2 hf hsd hw hc hp
    have hlen : f + 1 + X.length = to := by
      have : (x :: X).length = X.length + 1 := rfl
      omega
    obtain ⟨c1, c2, c3⟩ := gCds_cons hc
    have hx5 := gItk_le hw.1
    have hw2 := hw.2
    refine wO_step ?_
    unfold mf_termOf_l4
    refine wO_neg (nI_ge (show f < to by omega) (by omega)) (wO_agv (k := f) rfl (by omega) (by omega) c1 ?_)
    by_cases c : x.1 < 2
    · rw [if_pos c] at hw2
      have hpush : ∀ a : Int32, a = (if x.1 = 0 then nI x.2 else s.2.1 44 x.2) → wO (mf_termOf_j32 s (nI to) (nI st.length) (nI f) a (nI st.length)) (mo_sum (fun s2 => wO (mo_loop (mf_termOf_l4 (nI to)) s2) (fun r => ∃ t, msF [45] s t ∧ ((r = .inl t ∧ gRun (s.2.1 44) (x :: X) st = none) ∨ (r = .inr t ∧ ∃ st2, gRun (s.2.1 44) (x :: X) st = some st2 ∧ gPil st2 (t.2.1 45))))) (fun r => ∃ t, msF [45] s t ∧ ((r = .inl t ∧ gRun (s.2.1 44) (x :: X) st = none) ∨ (r = .inr t ∧ ∃ st2, gRun (s.2.1 44) (x :: X) st = some st2 ∧ gPil st2 (t.2.1 45))))) := fun a ha => by
        unfold mf_termOf_j32 mf_termOf_j88
        refine wO_in (k := st.length) rfl (by omega) (by omega) ?_
        rw [nI_clamp (by omega), nI_1, nI_1]
        have hF : msF [45] s (ms_sA s 45 (upd (s.2.1 45) st.length a)) := msF.sA (by decide)
        have er : gRun (s.2.1 44) (x :: X) st = gRun (s.2.1 44) X (a :: st) := by
          rw [ha]
          exact if_pos c
        rw [er]
        refine wO_some ?_
        have := ih (f + 1) (a :: st) (ms_sA s 45 (upd (s.2.1 45) st.length a)) h2 hlen hw2.1 hw2.2 (c3.mv rfl rfl) (gPil_push hp)
        refine wO_mono this ?_
        rintro r ⟨t, ft, hr⟩
        exact ⟨t, hF.tr ft, hr⟩
      refine wO_neg (show ¬ (2 : Int32) ≤ nI x.1 from nI_ge (b := 2) c (by omega)) ?_
      by_cases c0 : x.1 = 0
      · refine wO_pos (by rw [c0]; rfl) (wO_agv (k := f) rfl (by omega) (by omega) c2 (hpush _ (by rw [if_pos c0])))
      · have hx9 : x.2 < 9 := by
          rcases hw.1 with q | q | q
          · exact absurd q.1 c0
          · exact q.2
          · omega
        exact wO_neg (fun e => c0 ((nI_eq (b := 0) (by omega) (by omega)).mp e)) (wO_agv (k := f) rfl (by omega) (by omega) c2 (wO_ag (k := x.2) rfl hx9 (by omega) (hpush _ (by rw [if_neg c0]))))
    · rw [if_neg c] at hw2
      refine wO_pos (show (2 : Int32) ≤ nI x.1 from nI_le (a := 2) (by omega) (by omega)) ?_
      match st, hsd, hw2, hp with
      | b :: a :: st3, hsd, hw2, hp =>
        obtain ⟨t1, t2⟩ := gPil_top hp
        have hlen3 : (b :: a :: st3).length = st3.length + 2 := rfl
        have hsd : st3.length + 2 ≤ D := hsd
        have e1 : nI (b :: a :: st3).length + (-1 : Int32) = nI (st3.length + 1) := by
          rw [hlen3, show st3.length + 2 = st3.length + 1 + 1 by omega, ← nI_1 (st3.length + 1), Int32.add_assoc, show (1 : Int32) + (-1) = 0 by decide, Int32.add_zero]
        have e2 : nI (st3.length + 1) - (1 : Int32) = nI st3.length := pu_sub (a := st3.length + 1) (b := 1) (by omega)
        rw [e1, e2]
        have hop : ¬ (x.1 = 5 ∧ b = 0) → wO (mf_termOf_j58 s (nI to) (nI (st3.length + 1)) (nI f) (nI x.1) a b) (mo_sum (fun s2 => wO (mo_loop (mf_termOf_l4 (nI to)) s2) (fun r => ∃ t, msF [45] s t ∧ ((r = .inl t ∧ gRun (s.2.1 44) (x :: X) (b :: a :: st3) = none) ∨ (r = .inr t ∧ ∃ st2, gRun (s.2.1 44) (x :: X) (b :: a :: st3) = some st2 ∧ gPil st2 (t.2.1 45))))) (fun r => ∃ t, msF [45] s t ∧ ((r = .inl t ∧ gRun (s.2.1 44) (x :: X) (b :: a :: st3) = none) ∨ (r = .inr t ∧ ∃ st2, gRun (s.2.1 44) (x :: X) (b :: a :: st3) = some st2 ∧ gPil st2 (t.2.1 45))))) := fun hnd => by
          have er : gRun (s.2.1 44) (x :: X) (b :: a :: st3) = gRun (s.2.1 44) X (gOpv x.1 a b :: st3) := (if_neg c).trans (if_neg hnd)
          rw [er]
          have done : ∀ w : Int32, w = gOpv x.1 a b → wO (mf_termOf_j87 s (nI to) (nI (st3.length + 1)) (nI f) w (nI (st3.length + 1) - (1 : Int32))) (mo_sum (fun s2 => wO (mo_loop (mf_termOf_l4 (nI to)) s2) (fun r => ∃ t, msF [45] s t ∧ ((r = .inl t ∧ gRun (s.2.1 44) X (gOpv x.1 a b :: st3) = none) ∨ (r = .inr t ∧ ∃ st2, gRun (s.2.1 44) X (gOpv x.1 a b :: st3) = some st2 ∧ gPil st2 (t.2.1 45))))) (fun r => ∃ t, msF [45] s t ∧ ((r = .inl t ∧ gRun (s.2.1 44) X (gOpv x.1 a b :: st3) = none) ∨ (r = .inr t ∧ ∃ st2, gRun (s.2.1 44) X (gOpv x.1 a b :: st3) = some st2 ∧ gPil st2 (t.2.1 45))))) := fun w hw3 => by
            subst hw3
            unfold mf_termOf_j87 mf_termOf_j88
            rw [e2]
            refine wO_in (k := st3.length) rfl (by omega) (by omega) ?_
            rw [nI_clamp (by omega), nI_1]
            have hF : msF [45] s (ms_sA s 45 (upd (s.2.1 45) st3.length (gOpv x.1 a b))) := msF.sA (by decide)
            refine wO_some ?_
            have := ih (f + 1) (gOpv x.1 a b :: st3) (ms_sA s 45 (upd (s.2.1 45) st3.length (gOpv x.1 a b))) h2 hlen (by show st3.length + 1 ≤ D; omega) hw2.2 (c3.mv rfl rfl) (gPil_op hp)
            refine wO_mono this ?_
            rintro r ⟨t, ft, hr⟩
            exact ⟨t, hF.tr ft, hr⟩
          unfold mf_termOf_j58
          rcases (show x.1 = 2 ∨ x.1 = 3 ∨ x.1 = 4 ∨ x.1 = 5 by omega) with q | q | q | q
          · exact wO_pos (by rw [q]; rfl) (done _ (by unfold gOpv; rw [if_pos q]))
          · exact wO_neg (by rw [q]; decide) (wO_pos (by rw [q]; rfl) (done _ (by unfold gOpv; rw [if_neg (by omega), if_pos q])))
          · exact wO_neg (by rw [q]; decide) (wO_neg (by rw [q]; decide) (wO_pos (by rw [q]; rfl) (done _ (by unfold gOpv; rw [if_neg (by omega), if_neg (by omega), if_pos q]))))
          · exact wO_neg (by rw [q]; decide) (wO_neg (by rw [q]; decide) (wO_neg (by rw [q]; decide) (wO_neg (fun e => hnd ⟨q, e⟩) (done _ (by unfold gOpv; rw [if_neg (by omega), if_neg (by omega), if_neg (by omega)])))))
        refine wO_agv (k := st3.length) rfl (by omega) (by omega) t2 (wO_agv (k := st3.length + 1) rfl (by omega) (by omega) t1 ?_)
        refine wO_ite (fun q5 => ?_) (fun q5 => hop (fun q => q5 (by rw [q.1]; rfl)))
        have q5 : x.1 = 5 := (nI_eq (b := 5) (by omega) (by omega)).mp q5
        refine wO_ite (fun q0 => ?_) (fun q0 => hop (fun q => q0 q.2))
        exact wO_some ⟨s, msF.rf, Or.inl ⟨rfl, (if_neg c).trans (if_pos ⟨q5, q0⟩)⟩⟩
      | [b], hsd, hw2, hp => exact absurd hw2.1 (by simp)
      | [], hsd, hw2, hp => exact absurd hw2.1 (by simp)
theorem m_termOf {D f : Nat} {X : List gIt} {s : ms_S} (hD : D ≤ 400) (hto : f + X.length ≤ 840) (hw : gWfr D X 0 1) (hc : gCds X f s) : wO (mf_termOf s (nI f) (nI (f + X.length))) (fun q => (∃ a, gEvl (s.2.1 44) X = some a ∧ q.1 = a ∧ msF [45] s q.2) ∨ (gEvl (s.2.1 44) X = none ∧ q.1 = 0 ∧ msF [45, 46] s q.2 ∧ q.2.1 46 = 1)) := by
  unfold mf_termOf
  refine wO_bd (m_term_go hD hto X f [] s 1 rfl (Nat.zero_le _) hw hc (fun j a h => by simp at h)) ?_
  have es := gEvl_some (v := s.2.1 44) hw
  rintro r ⟨t, ft, ⟨rfl, hn⟩ | ⟨rfl, st2, hs2, hp2⟩⟩
  · refine wO_some (Or.inr ⟨?_, rfl, (ft.wk (by decide)).tr (msF.sI (by decide)), rfl⟩)
    rw [hn] at es
    cases he : gEvl (s.2.1 44) X with
    | none => rfl
    | some a => rw [he] at es; cases es
  · rw [hs2] at es
    cases he : gEvl (s.2.1 44) X with
    | none => rw [he] at es; cases es
    | some a =>
      rw [he] at es
      have es : st2 = [a] := Option.some.inj es
      subst es
      exact wO_some (Or.inl ⟨a, rfl, hp2 0 a rfl, ft⟩)
/-- a law: tests with their terms, the last term -/
abbrev gLd : Type := List (List gIt × List gIt × List gIt) × List gIt
def gLaw (v : Nat → Int32) : List (List gIt × List gIt × List gIt) → List gIt → Int32
  | [], F => (gEvl v F).getD 0
  | b :: L, F => match gEvl v b.1, gEvl v b.2.1 with
    | some x, some y => if x < y then (gEvl v b.2.2).getD 0 else gLaw v L F
    | _, _ => 0
/-- one branch of the reference -/
def gBr1 (t : Bool) (U V T : List gIt) (b : Nat) (s : ms_S) : Prop := ∃ c, c + U.length + V.length + T.length ≤ 840 ∧ (s.2.1 34 b = bif t then 1 else 0) ∧ (t = true → s.2.1 35 b = nI c ∧ s.2.1 36 b = nI (c + U.length)) ∧ s.2.1 37 b = nI (c + U.length + V.length) ∧ s.2.1 38 b = nI (c + U.length + V.length + T.length) ∧ gCds U c s ∧ gCds V (c + U.length) s ∧ gCds T (c + U.length + V.length) s
def gBrs : List (List gIt × List gIt × List gIt) → List gIt → Nat → ms_S → Prop
  | [], F, b, s => gBr1 false [] [] F b s
  | x :: L, F, b, s => gBr1 true x.1 x.2.1 x.2.2 b s ∧ gBrs L F (b + 1) s
def gLwf (D : Nat) : List (List gIt × List gIt × List gIt) → List gIt → Prop
  | [], F => gWfr D F 0 1
  | x :: L, F => gWfr D x.1 0 1 ∧ gWfr D x.2.1 0 1 ∧ gWfr D x.2.2 0 1 ∧ gLwf D L F
