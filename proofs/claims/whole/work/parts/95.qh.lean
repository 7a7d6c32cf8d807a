/-! questions: ways, waking -/
def gpi (i : Nat) : Nat := 7 * (i / 7) + (if i % 7 = 0 then 6 else i % 7 - 1)
theorem gpi_gph (st : Nat) : gpi (gph st) = st := by
  unfold gpi
  rw [gph_7, gph_m]
  split <;> split <;> omega
def gVs (nx : Nat → Nat → Option Nat) (e : Int32) (c : Nat → Int32) (x : Nat) : Nat → Int32
  | 0 => 0
  | k + 1 => gVs nx e c x k + (match nx x k with
    | none => 0
    | some u => bif gCm u then c u else e)
def gV (nx : Nat → Nat → Option Nat) (e : Int32) (b : Nat → Int32) : Nat → Nat → Int32
  | 0 => b
  | k + 1 => fun x => gVs nx e (gV nx e b k) x 7
theorem gVs_1 {nx : Nat → Nat → Option Nat} {e : Int32} {c : Nat → Int32} {x k : Nat} (h : nx x k = none) : gVs nx e c x (k + 1) = gVs nx e c x k := by
  simp only [gVs, h, Int32.add_zero]
theorem gVs_2 {nx : Nat → Nat → Option Nat} {e : Int32} {c : Nat → Int32} {x k u : Nat} (h : nx x k = some u) (hc : gCm u = true) : gVs nx e c x (k + 1) = gVs nx e c x k + c u := by
  simp only [gVs, h, hc, cond_true]
theorem gVs_3 {nx : Nat → Nat → Option Nat} {e : Int32} {c : Nat → Int32} {x k u : Nat} (h : nx x k = some u) (hc : gCm u = false) : gVs nx e c x (k + 1) = gVs nx e c x k + e := by
  simp only [gVs, h, hc, cond_false]
theorem gVs_0 {nx : Nat → Nat → Option Nat} {e : Int32} {c : Nat → Int32} {x : Nat} : ∀ {k : Nat}, (∀ w, w < k → nx x w = none) → gVs nx e c x k = 0
  | 0, _ => rfl
  | k + 1, h => by rw [gVs_1 (h k (by omega))]; exact gVs_0 (fun w hw => h w (by omega))
def gDn (A c : Nat → Int32) : Nat → Int32
  | 0 => 0
  | n + 1 => gDn A c n + A n * c (gpi n)
theorem gDn_hi {A c : Nat → Int32} {i : Nat} {v : Int32} : ∀ {n : Nat}, n ≤ i → gDn (upd A i v) c n = gDn A c n
  | 0, _ => rfl
  | n + 1, h => by
    simp only [gDn]
    rw [gDn_hi (n := n) (by omega), upd_ne (by omega)]
theorem gDn_add {A c : Nat → Int32} {i : Nat} {d : Int32} : ∀ {n : Nat}, i < n → gDn (upd A i (A i + d)) c n = gDn A c n + d * c (gpi i)
  | 0, h => absurd h (by omega)
  | n + 1, h => by
    simp only [gDn]
    by_cases he : i = n
    · subst he
      rw [gDn_hi (Nat.le_refl _), upd_eq, Int32.add_mul, Int32.add_assoc]
    · rw [gDn_add (n := n) (by omega), upd_ne (fun e => he e.symm), Int32.add_assoc, Int32.add_assoc, Int32.add_comm (d * c (gpi i))]
theorem gDn_0 {A c : Nat → Int32} : ∀ {n : Nat}, (∀ i, i < n → A i = 0) → gDn A c n = 0
  | 0, _ => rfl
  | n + 1, h => by
    simp only [gDn]
    rw [gDn_0 (n := n) (fun i hi => h i (by omega)), h n (by omega), Int32.zero_mul, Int32.add_zero]
/-- fields outside, the flag left open -/
def xsG (Ki Ka : List Nat) (s t : xs_S) : Prop := (∀ j, ¬ j ∈ Ki → t.1 j = s.1 j) ∧ (∀ j, ¬ j ∈ Ka → t.2.1 j = s.2.1 j) ∧ t.2.2.1 = s.2.2.1
theorem xsG.rf {Ki Ka : List Nat} {s : xs_S} : xsG Ki Ka s s := ⟨fun _ _ => rfl, fun _ _ => rfl, rfl⟩
theorem xsG.tr {Ki Ka : List Nat} {s t u : xs_S} (h : xsG Ki Ka s t) (h2 : xsG Ki Ka t u) : xsG Ki Ka s u := ⟨fun j hj => (h2.1 j hj).trans (h.1 j hj), fun j hj => (h2.2.1 j hj).trans (h.2.1 j hj), h2.2.2.trans h.2.2⟩
theorem xsF.g {Ki Ka Ki2 Ka2 : List Nat} {s t : xs_S} (h : xsF Ki Ka s t) (h1 : ∀ j ∈ Ki, j ∈ Ki2) (h2 : ∀ j ∈ Ka, j ∈ Ka2) : xsG Ki2 Ka2 s t := ⟨fun j hj => h.1 j (fun h3 => hj (h1 j h3)), fun j hj => h.2.1 j (fun h3 => hj (h2 j h3)), h.2.2.1⟩
def xQi2 : List Nat := [2018, 2022, 2023, 2024, 2099]
def xQa2 : List Nat := [15, 16, 118, 119, 127, 128, 129, 130, 132, 133]
theorem xs_sw_g {Ki Ka : List Nat} {s : xs_S} (h1 : 132 ∈ Ka) (h2 : 133 ∈ Ka) : xsG Ki Ka s (xs_sw s) := by
  refine ⟨fun _ _ => rfl, fun j hj => ?_, rfl⟩
  have a1 : ¬ j = 132 := fun e => hj (e ▸ h1)
  have a2 : ¬ j = 133 := fun e => hj (e ▸ h2)
  show (bif Nat.beq j 132 then s.2.1 133 else bif Nat.beq j 133 then s.2.1 132 else s.2.1 j) = s.2.1 j
  cases b1 : Nat.beq j 132 with
  | true => exact absurd (Nat.eq_of_beq_eq_true b1) a1
  | false =>
    cases b2 : Nat.beq j 133 with
    | true => exact absurd (Nat.eq_of_beq_eq_true b2) a2
    | false => rfl
theorem XC.fr {g : gT} {Ki Ka : List Nat} {po : Option (Nat × Nat)} {st : Nat} {s t : xs_S} (h : XC g po st s) (hF : xsF Ki Ka s t) (h1 : ∀ j ∈ [147, 148, 193, 1873, 1874, 400, 2018, 2022, 2023, 2024, 1875], ¬ j ∈ Ki) (h2 : ∀ j ∈ [10, 11, 13, 14, 118, 119, 127, 128, 129, 130], ¬ j ∈ Ka) : XC g po st t := by
  have r : ∀ j, j ∈ [10, 11, 13, 14, 118, 119, 127, 128, 129, 130] → t.2.1 j = s.2.1 j := fun j hj => hF.2.1 j (h2 j hj)
  have i : ∀ j, j ∈ [147, 148, 193, 1873, 1874, 400, 2018, 2022, 2023, 2024, 1875] → t.1 j = s.1 j := fun j hj => hF.1 j (h1 j hj)
  refine ⟨h.1.mv hF (fun j hj => h1 j ?_) (fun j hj => h2 j ?_) ?_, ?_, (i 400 (by decide)).trans h.2.2.1, h.2.2.2⟩
  · have : ∀ j ∈ [147, 148, 193, 1873, 1874], j ∈ [147, 148, 193, 1873, 1874, 400, 2018, 2022, 2023, 2024, 1875] := by decide
    exact this j hj
  · have : ∀ j ∈ xTa, j ∈ [10, 11, 13, 14, 118, 119, 127, 128, 129, 130] := by decide
    exact this j hj
  · rw [r 118 (by decide), r 119 (by decide)]; exact h.1.2.2
  · unfold gFs gLy gFc
    rw [i 2024 (by decide), i 2023 (by decide), i 1875 (by decide), i 2022 (by decide), i 2018 (by decide), r 118 (by decide), r 119 (by decide), r 127 (by decide), r 128 (by decide), r 129 (by decide), r 130 (by decide)]
    exact h.2.1
theorem XC.sw {g : gT} {po : Option (Nat × Nat)} {st : Nat} {s : xs_S} (h : XC g po st s) : XC g po st (xs_sw s) := h
/-- the rows of the walk: who is there at all -/
def gHv (nw : Nat) (cal : Bool) (A : Nat → Int32) : Prop := ∀ i, i < 294 → ¬ A i = 0 → ∃ u, gSt nw u ∧ gph u = i ∧ (cal = true → gCm u = true)
