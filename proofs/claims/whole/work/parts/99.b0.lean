/-! the relation between class and reference -/
/-- the pair in the reference's row -/
def gAr (po : Option (Nat × Nat)) (n : Nat) (a b : Int32) : Prop := match po with
  | none => a = -2 ∧ b = -2
  | some (l, r) => a = nI l ∧ b = nI r ∧ l < n ∧ r < n
/-- one thing that goes on: c the class's numbers, hr who was hired how often, row the reference's -/
def GS (g : gT) (po : Option (Nat × Nat)) (st : Nat) (c hr row : Nat → Int32) : Prop := gSt g.1.2 st ∧ c 0 = nI (gph st) ∧ gAp po g.1.1 (c 1) (c 2) ∧ row 0 = nI (st / 14) ∧ row 1 = nI (st / 7 % 2) ∧ row 2 = nI (st % 7) ∧ gAr po g.1.1 (row 3) (row 4) ∧ c 3 = row 5 ∧ c 4 = row 6 ∧ ∀ j, j < 5 → hr j = row (7 + j)
theorem GS.cg {g : gT} {po : Option (Nat × Nat)} {st : Nat} {c hr row c2 hr2 row2 : Nat → Int32} (h : GS g po st c hr row) (h1 : ∀ k, k < 5 → c2 k = c k) (h2 : ∀ k, k < 5 → hr2 k = hr k) (h3 : ∀ k, k < 12 → row2 k = row k) : GS g po st c2 hr2 row2 := by
  obtain ⟨a1, a2, a3, a4, a5, a6, a7, a8, a9, a10⟩ := h
  refine ⟨a1, (h1 0 (by omega)).trans a2, ?_, (h3 0 (by omega)).trans a4, (h3 1 (by omega)).trans a5, (h3 2 (by omega)).trans a6, ?_, ?_, ?_, fun j hj => ?_⟩
  · rw [h1 1 (by omega), h1 2 (by omega)]; exact a3
  · rw [h3 3 (by omega), h3 4 (by omega)]; exact a7
  · rw [h1 3 (by omega), h3 5 (by omega)]; exact a8
  · rw [h1 4 (by omega), h3 6 (by omega)]; exact a9
  · rw [h2 j hj, h3 (7 + j) (by omega)]; exact a10 j hj
def RG (g : gT) (po : Option (Nat × Nat)) (st : Nat) (s : xs_S) (m : ms_S) : Prop := GS g po st (fun k => s.1 (400 + k)) (s.2.1 26) (m.2.1 47)
def gpos (x z i : Nat) : Nat := (x + 40 - z + i) % 40
def RP (g : gT) (s : xs_S) (m : ms_S) : Prop := ∃ x z, s.1 433 = nI x ∧ x < 40 ∧ s.1 434 = nI z ∧ m.1 54 = nI z ∧ z ≤ 40 ∧ ∀ i, i < z → ∃ po st, GS g po st (fun k => s.1 (464 + 32 * gpos x z i + k)) (s.2.1 (30 + 2 * gpos x z i)) (fun k => m.2.1 55 (12 * i + k))
def RH (g : gT) (s : xs_S) (m : ms_S) : Prop := ∀ i, i < 3 → m.2.1 70 i = s.2.1 116 i ∧ (s.2.1 116 i = 0 ∨ (s.2.1 116 i = 1 ∧ ∃ po st, GS g po st (fun k => s.1 (1760 + 32 * i + k)) (s.2.1 (111 + 2 * i)) (fun k => m.2.1 71 (12 * i + k))))
def RT (s : xs_S) (m : ms_S) : Prop := ∃ z, z ≤ 20 ∧ s.1 1924 = nI z ∧ m.1 63 = nI z ∧ ∀ i, i < z → (∃ k, 1 ≤ k ∧ k ≤ 5 ∧ s.2.1 121 i = nI k ∧ m.2.1 64 i = nI k) ∧ (∃ v, v ≤ 20 ∧ s.2.1 122 i = nI v ∧ m.2.1 65 i = nI v) ∧ s.2.1 123 i = m.2.1 66 i ∧ (s.2.1 123 i = 0 ∨ s.2.1 123 i = 1)
/-- a byte as an int -/
def gSb8 (b : Nat) : Int32 := if b < 128 then nI b else nI b - 256
def RB (s : xs_S) (m : ms_S) : Prop := ∃ z, z ≤ 2000 ∧ s.1 17 = nI z ∧ m.1 2 = nI z ∧ ∀ i, i < z → ∃ b, b < 256 ∧ s.2.1 2 i = gSb8 b ∧ m.2.1 1 i = gSb8 b
/-- a word's letters as a number -/
def gKv : List Nat → Nat
  | l => l.foldl (fun a c => 27 * a + c) 0
def gKys : List (List Nat) := [[19, 16, 5, 1, 11, 5, 18], [23, 15, 18, 4], [16, 1, 9, 18], [16, 21, 19, 8, 5, 19], [23, 1, 7, 5, 19], [18, 5, 19, 20, 19], [2, 1, 18, 19], [20, 9, 12, 20], [19, 5, 5, 4], [9, 6], [20, 8, 5, 14], [5, 12, 19, 5], [6, 15, 18, 3, 5], [20, 15, 14, 7, 21, 5], [19, 12, 15, 16, 5], [12, 1, 19, 20], [19, 9, 4, 5], [23, 8, 9, 3, 8], [15, 20, 8, 5, 18], [23, 15, 18, 4, 19], [19, 1, 13, 5]]
def RY (m : ms_S) : Prop := ∀ k, k < 21 → m.2.2 9 k = Int64.ofNat (gKv (gKys.getD k []))
/-- all that both keep -/
def RS (g : gT) (lv : Nat) (po : Option (Nat × Nat)) (st ti : Nat) (s : xs_S) (m : ms_S) : Prop := MT g lv m ∧ m.2.1 29 lv = nI ti ∧ s.1 152 = m.2.1 30 lv ∧ s.1 4 = m.1 17 ∧ RG g po st s m ∧ RP g s m ∧ RH g s m ∧ RT s m ∧ RB s m ∧ RY m
def RR (n : Nat) (s : xs_S) (m : ms_S) : Prop := ∃ g lv po st ti, XC g po st s ∧ XK g po ti (64 * n + 8) s ∧ RS g lv po st ti s m
theorem RG.mv {g : gT} {po : Option (Nat × Nat)} {st : Nat} {s t : xs_S} {m n : ms_S} (h : RG g po st s m) (h1 : ∀ k, k < 5 → t.1 (400 + k) = s.1 (400 + k)) (h2 : t.2.1 26 = s.2.1 26) (h3 : n.2.1 47 = m.2.1 47) : RG g po st t n := GS.cg h h1 (fun k _ => by rw [h2]) (fun k _ => by rw [h3])
theorem RP.mv {g : gT} {s t : xs_S} {m n : ms_S} (h : RP g s m) (h1 : ∀ j, 433 ≤ j → j < 1760 → t.1 j = s.1 j) (h2 : ∀ j, 30 ≤ j → j < 111 → t.2.1 j = s.2.1 j) (h3 : n.1 54 = m.1 54) (h4 : n.2.1 55 = m.2.1 55) : RP g t n := by
  obtain ⟨x, z, a1, a2, a3, a4, a5, a6⟩ := h
  refine ⟨x, z, (h1 433 (by omega) (by omega)).trans a1, a2, (h1 434 (by omega) (by omega)).trans a3, h3.trans a4, a5, fun i hi => ?_⟩
  obtain ⟨po, st, hg⟩ := a6 i hi
  have hp : gpos x z i < 40 := Nat.mod_lt _ (by omega)
  exact ⟨po, st, hg.cg (fun k hk => h1 _ (by omega) (by omega)) (fun k _ => by rw [h2 _ (by omega) (by omega)]) (fun k _ => by rw [h4])⟩
theorem RH.mv {g : gT} {s t : xs_S} {m n : ms_S} (h : RH g s m) (h1 : ∀ j, 1760 ≤ j → j < 1840 → t.1 j = s.1 j) (h2 : ∀ j, 111 ≤ j → j < 117 → t.2.1 j = s.2.1 j) (h3 : n.2.1 70 = m.2.1 70) (h4 : n.2.1 71 = m.2.1 71) : RH g t n := by
  intro i hi
  obtain ⟨a1, a2⟩ := h i hi
  rw [h3, h2 116 (by omega) (by omega)]
  refine ⟨a1, a2.imp id (fun ⟨b1, po, st, hg⟩ => ⟨b1, po, st, ?_⟩)⟩
  exact hg.cg (fun k hk => h1 _ (by omega) (by omega)) (fun k _ => by rw [h2 _ (by omega) (by omega)]) (fun k _ => by rw [h4])
theorem RT.mv {s t : xs_S} {m n : ms_S} (h : RT s m) (h1 : t.1 1924 = s.1 1924) (h2 : ∀ j, 121 ≤ j → j < 124 → t.2.1 j = s.2.1 j) (h3 : n.1 63 = m.1 63) (h4 : ∀ j, 64 ≤ j → j < 67 → n.2.1 j = m.2.1 j) : RT t n := by
  obtain ⟨z, a1, a2, a3, a4⟩ := h
  refine ⟨z, a1, h1.trans a2, h3.trans a3, fun i hi => ?_⟩
  rw [h2 121 (by omega) (by omega), h2 122 (by omega) (by omega), h2 123 (by omega) (by omega), h4 64 (by omega) (by omega), h4 65 (by omega) (by omega), h4 66 (by omega) (by omega)]
  exact a4 i hi
theorem RB.mv {s t : xs_S} {m n : ms_S} (h : RB s m) (h1 : t.1 17 = s.1 17) (h2 : t.2.1 2 = s.2.1 2) (h3 : n.1 2 = m.1 2) (h4 : n.2.1 1 = m.2.1 1) : RB t n := by
  obtain ⟨z, a1, a2, a3, a4⟩ := h
  refine ⟨z, a1, h1.trans a2, h3.trans a3, fun i hi => ?_⟩
  rw [h2, h4]
  exact a4 i hi
def xqI : List Nat := [2018, 2022, 2023, 2024, 2099, 1873, 1874, 1875, 1925, 1926, 1927, 1928, 1929, 2147, 2148]
def xqA : List Nat := [15, 16, 118, 119, 124, 125, 127, 128, 129, 130, 132, 133, 135, 136, 137, 138]
def mqA : List Nat := [44, 45, 46, 48, 49, 50, 51, 52, 53, 56, 57, 58, 59, 60, 61, 62, 67, 68, 69]
theorem xqI_hi : ∀ j ∈ xqI, 1840 ≤ j ∧ ¬ j = 1924 := by decide
theorem xqA_out : ∀ j ∈ xqA, (j = 15 ∨ j = 16 ∨ 118 ≤ j) ∧ ¬ (121 ≤ j ∧ j < 124) := by decide
theorem RS.mv {g : gT} {lv : Nat} {po : Option (Nat × Nat)} {st ti : Nat} {s t : xs_S} {m n : ms_S} (h : RS g lv po st ti s m) (hx : xsG xqI xqA s t) (hm : msF mqA m n) : RS g lv po st ti t n := by
  obtain ⟨b1, b2, b3, b4, b5, b6, b7, b8, b9, b10⟩ := h
  have hi : ∀ j, j < 1840 → t.1 j = s.1 j := fun j hj => hx.1 j (fun hm => by have := xqI_hi j hm; omega)
  have ha : ∀ j, j < 118 → ¬ j = 15 → ¬ j = 16 → t.2.1 j = s.2.1 j := fun j h1 h2 h3 => hx.2.1 j (fun hm => by have := xqA_out j hm; omega)
  refine ⟨b1.mv hm (by decide), by rw [hm.a 29 (by decide)]; exact b2, by rw [hi 152 (by omega), hm.a 30 (by decide)]; exact b3, by rw [hi 4 (by omega), hm.i 17 (by decide)]; exact b4, ?_, ?_, ?_, ?_, ?_, ?_⟩
  · exact b5.mv (fun k hk => hi _ (by omega)) (ha 26 (by omega) (by omega) (by omega)) (hm.a 47 (by decide))
  · exact b6.mv (fun j h1 h2 => hi j (by omega)) (fun j h1 h2 => ha j (by omega) (by omega) (by omega)) (hm.i 54 (by decide)) (hm.a 55 (by decide))
  · exact b7.mv (fun j h1 h2 => hi j (by omega)) (fun j h1 h2 => ha j (by omega) (by omega) (by omega)) (hm.a 70 (by decide)) (hm.a 71 (by decide))
  · refine b8.mv (hx.1 1924 (by decide)) (fun j h1 h2 => hx.2.1 j (fun hm => by have := xqA_out j hm; omega)) (hm.i 63 (by decide)) (fun j h1 h2 => ?_)
    rcases (show j = 64 ∨ j = 65 ∨ j = 66 by omega) with rfl | rfl | rfl
    · exact hm.a 64 (by decide)
    · exact hm.a 65 (by decide)
    · exact hm.a 66 (by decide)
  · exact b9.mv (hi 17 (by omega)) (ha 2 (by omega) (by omega) (by omega)) (hm.i 2 (by decide)) (hm.a 1 (by decide))
  · intro k hk
    rw [hm.2]
    exact b10 k hk
theorem gAr_pn {po : Option (Nat × Nat)} {n : Nat} {m : ms_S} : gPN m po n ↔ gAr po n (m.2.1 47 3) (m.2.1 47 4) := by
  cases po with
  | none => exact Iff.rfl
  | some p => exact Iff.rfl
theorem RS.mn {g : gT} {lv : Nat} {po : Option (Nat × Nat)} {st ti : Nat} {s : xs_S} {m : ms_S} (h : RS g lv po st ti s m) : MN g lv m po st := by
  obtain ⟨b1, b2, b3, b4, b5, -⟩ := h
  obtain ⟨a1, a2, a3, a4, a5, a6, a7, -⟩ := b5
  exact ⟨b1, a1, a4, a5, a6, gAr_pn.mpr a7⟩
theorem XK.up {g : gT} {po : Option (Nat × Nat)} {ti b b2 : Nat} {s : xs_S} (h : XK g po ti b s) (hb : b ≤ b2) : XK g po ti b2 s := by
  obtain ⟨k1, k2, k3, k4, c, k5, k6⟩ := h
  exact ⟨k1, k2, k3, k4, c, by omega, k6⟩
theorem XK.fr {g : gT} {po : Option (Nat × Nat)} {ti b : Nat} {s t : xs_S} (h : XK g po ti b s) (h1 : t.1 151 = s.1 151) (h2 : t.1 401 = s.1 401) (h3 : t.1 402 = s.1 402) (h4 : t.2.1 138 = s.2.1 138) (h5 : t.1 1875 = s.1 1875) : XK g po ti b t := by
  obtain ⟨k1, k2, k3, k4, c, k5, k6⟩ := h
  refine ⟨h1.trans k1, k2, by rw [h2, h3]; exact k3, by rw [h4]; exact k4, c, k5, h5.trans k6⟩
theorem xsG.wk {Ki Ka Ki2 Ka2 : List Nat} {s t : xs_S} (h : xsG Ki Ka s t) (h1 : ∀ j ∈ Ki, j ∈ Ki2) (h2 : ∀ j ∈ Ka, j ∈ Ka2) : xsG Ki2 Ka2 s t := ⟨fun j hj => h.1 j (fun h3 => hj (h1 j h3)), fun j hj => h.2.1 j (fun h3 => hj (h2 j h3)), h.2.2⟩
def gAns (n : Nat) (xo : Option (Int32 × xs_S)) (mo : Option (Int32 × ms_S)) : Prop := ∃ (v : Int32) (s2 : xs_S) (m2 : ms_S), xo = some (v, s2) ∧ mo = some (v, m2) ∧ RR (n + 1) s2 m2
/-- a question: nothing that lasts has changed -/
theorem RR_q {n : Nat} {s : xs_S} {m : ms_S} {xo : Option (Int32 × xs_S)} {mo : Option (Int32 × ms_S)} (h : RR n s m) (k : ∀ g lv po st ti, XC g po st s → XK g po ti (64 * n + 8) s → MN g lv m po st → m.2.1 29 lv = nI ti → RS g lv po st ti s m → ∃ a s2 m2, xo = some (a, s2) ∧ mo = some (a, m2) ∧ xsG xqI xqA s s2 ∧ XC g po st s2 ∧ XK g po ti (64 * (n + 1) + 8) s2 ∧ msF mqA m m2) : gAns n xo mo := by
  obtain ⟨g, lv, po, st, ti, h1, h2, h3⟩ := h
  obtain ⟨a, s2, m2, e1, e2, f1, f2, f3, f4⟩ := k g lv po st ti h1 h2 h3.mn h3.2.1 h3
  exact ⟨a, s2, m2, e1, e2, g, lv, po, st, ti, f2, f3, h3.mv f1 f4⟩
theorem RR_q2 {n : Nat} {s : xs_S} {m : ms_S} {xo : Option (Int32 × xs_S)} {mo : Option (Int32 × ms_S)} (h : RR n s m) (k : ∀ g lv po st, XC g po st s → MN g lv m po st → gQ2 g po st s m xo mo) : gAns n xo mo := by
  refine RR_q h (fun g lv po st ti h1 h2 h3 h4 _ => ?_)
  obtain ⟨a, s2, m2, e1, e2, f1, f2, f3⟩ := k g lv po st h1 h3
  exact ⟨a, s2, m2, e1, e2, f1.wk (by decide) (by decide), f2, (h2.fr (f1.1 151 (by decide)) (f1.1 401 (by decide)) (f1.1 402 (by decide)) (f1.2.1 138 (by decide)) (f1.1 1875 (by decide))).up (by omega), f3.wk (by decide)⟩
theorem RR_q1 {n : Nat} {s : xs_S} {m : ms_S} {xo : Option (Int32 × xs_S)} {mo : Option (Int32 × ms_S)} (h : RR n s m) (k : ∀ g lv po st, XC g po st s → MN g lv m po st → gQ g po st s m xo mo) : gAns n xo mo := RR_q2 h (fun g lv po st h1 h2 => (k g lv po st h1 h2).two)
theorem R_up {n : Nat} {s : xs_S} {m : ms_S} (h : RR n s m) : RR (n + 1) s m := by
  obtain ⟨g, lv, po, st, ti, h1, h2, h3⟩ := h
  exact ⟨g, lv, po, st, ti, h1, h2.up (by omega), h3⟩
theorem R_s12 : lw_s12 RR := fun _ _ _ h _ => RR_q1 h (fun _ _ _ _ hx hm => q_who hx hm)
theorem R_s13 : lw_s13 RR := fun _ _ _ h _ => RR_q1 h (fun _ _ _ _ hx hm => q_soon hx hm)
theorem R_s14 : lw_s14 RR := fun _ _ _ h _ => RR_q1 h (fun _ _ _ _ hx hm => q_best hx hm)
theorem R_s15 : lw_s15 RR := fun _ _ _ h _ => RR_q1 h (fun _ _ _ _ hx hm => q_together hx hm)
theorem R_s16 : lw_s16 RR := fun _ _ _ a h _ => RR_q2 h (fun _ _ _ _ hx hm => q_even a hx hm)
theorem R_s17 : lw_s17 RR := fun _ _ _ a h _ => RR_q2 h (fun _ _ _ _ hx hm => q_ways a hx hm)
theorem R_s18 : lw_s18 RR := fun _ _ _ a h _ => RR_q2 h (fun _ _ _ _ hx hm => q_waking a hx hm)
theorem R_s19 : lw_s19 RR := fun _ _ _ h _ => RR_q1 h (fun _ _ _ _ hx hm => q_ring hx hm)
theorem R_s20 : lw_s20 RR := fun _ _ _ h _ => RR_q1 h (fun _ _ _ _ hx hm => q_reach hx hm)
theorem R_s21 : lw_s21 RR := fun _ _ _ h _ => RR_q1 h (fun _ _ _ _ hx hm => q_slopes hx hm)
theorem R_s22 : lw_s22 RR := fun _ _ _ h _ => RR_q1 h (fun _ _ _ _ hx hm => q_hangs hx hm)
theorem R_s23 : lw_s23 RR := fun _ _ _ a h _ => RR_q1 h (fun _ _ _ _ hx hm => q_scale a hx hm)
theorem R_s24 : lw_s24 RR := fun n _ _ a1 a2 h hn => RR_q h (fun _ _ _ _ _ hx hk hm h29 _ => by
  obtain ⟨a, s2, m2, e1, e2, f1, f2, f3, f4⟩ := q_calm a1 a2 hx hk (by omega) hm h29
  exact ⟨a, s2, m2, e1, e2, f1.g (by decide) (by decide), f2, f3.up (by omega), f4.wk (by decide)⟩)
/-! calls that change little -/
theorem R_s3 : lw_s3 RR := fun n s m h hn => by
  obtain ⟨g, lv, po, st, ti, h1, h2, h3⟩ := id h
  exact ⟨s.1 4, s, m, rfl, congrArg (fun v => some (v, m)) h3.2.2.2.1.symm, R_up h⟩
theorem XC.sI {g : gT} {po : Option (Nat × Nat)} {st j : Nat} {s : xs_S} {v : Int32} (h : XC g po st s) (hj : ∀ i ∈ [147, 148, 193, 1873, 1874, 400, 2018, 2022, 2023, 2024, 1875], ¬ i = j) : XC g po st (xs_sI s j v) := h.fr (xsF.sI (Ki := [j]) (Ka := []) (List.mem_singleton.mpr rfl)) (fun i hi hm => hj i hi (List.mem_singleton.mp hm)) (fun i _ hm => by cases hm)
theorem R_s30 : lw_s30 RR := fun n s m h hn => by
  obtain ⟨g, lv, po, st, ti, h1, h2, b1, b2, b3, b4, b5, b6, b7, ⟨z, b8⟩, b9, b10⟩ := id h
  refine ⟨s.1 1924, xs_sI s 1924 0, ms_sI m 63 0, rfl, ?_, g, lv, po, st, ti, h1.sI (by decide), (XK.fr (t := xs_sI s 1924 0) h2 rfl rfl rfl rfl rfl).up (by omega), ?_⟩
  · rw [b8.2.1, ← b8.2.2.1]; rfl
  · have hm : msF [63] m (ms_sI m 63 0) := msF.sI (by decide)
    have hi : ∀ j, ¬ j = 1924 → (xs_sI s 1924 0).1 j = s.1 j := fun j hj => mm_up_ne hj
    refine ⟨b1.mv hm (by decide), b2, b3, b4, b5.mv (fun k hk => hi _ (by omega)) rfl rfl, b6.mv (fun j _ _ => hi j (by omega)) (fun _ _ _ => rfl) rfl rfl, b7.mv (fun j _ _ => hi j (by omega)) (fun _ _ _ => rfl) rfl rfl, ⟨0, by omega, rfl, rfl, fun i hi => absurd hi (by omega)⟩, b9.mv rfl rfl rfl rfl, b10⟩
theorem R_s1 : lw_s1 RR := fun n s m a h hn => by
  obtain ⟨g, lv, po, st, ti, h1, h2, b1, b2, b3, b4, b5, b6, b7, b8, ⟨z, z1, z2, z3, z4⟩, b10⟩ := id h
  by_cases c1 : a < 0
  · exact ⟨-1, s, m, if_pos c1, if_pos c1, R_up h⟩
  · by_cases c2 : a ≤ nI z
    · obtain ⟨k, hk, rfl⟩ := nI_of c1
      rw [nI_leI hk (by omega)] at c2
      have e1 : s.1 17 - nI k = nI (z - k) := by rw [z2]; exact pu_sub c2
      have e2 : m.1 2 - nI k = nI (z - k) := by rw [z3]; exact pu_sub c2
      refine ⟨nI (z - k), xs_sI s 17 (nI (z - k)), ms_sI m 2 (nI (z - k)), ?_, ?_, g, lv, po, st, ti, h1.sI (by decide), (XK.fr (t := xs_sI s 17 (nI (z - k))) h2 rfl rfl rfl rfl rfl).up (by omega), ?_⟩
      · refine (if_neg c1).trans ((if_pos (by rw [z2]; exact nI_le c2 (by omega))).trans ?_)
        rw [e1]
      · refine (if_neg c1).trans ((if_pos (by rw [z3]; exact nI_le c2 (by omega))).trans ?_)
        rw [e2]
      · have hm : msF [2] m (ms_sI m 2 (nI (z - k))) := msF.sI (by decide)
        have hi : ∀ j, ¬ j = 17 → (xs_sI s 17 (nI (z - k))).1 j = s.1 j := fun j hj => mm_up_ne hj
        exact ⟨b1.mv hm (by decide), b2, b3, b4, b5.mv (fun k hk => hi _ (by omega)) rfl rfl, b6.mv (fun j _ _ => hi j (by omega)) (fun _ _ _ => rfl) rfl rfl, b7.mv (fun j _ _ => hi j (by omega)) (fun _ _ _ => rfl) rfl rfl, b8.mv rfl (fun _ _ _ => rfl) rfl (fun _ _ _ => rfl), ⟨z - k, by omega, rfl, rfl, fun i hi => z4 i (by omega)⟩, b10⟩
    · refine ⟨-1, s, m, (if_neg c1).trans (if_neg (by rw [z2]; exact c2)), (if_neg c1).trans (if_neg (by rw [z3]; exact c2)), R_up h⟩
