/-! what the law asks of a relation between the two, and the law from it -/
def xs_sgI (j : Nat) : Nat := bif Nat.ble 144 j && Nat.ble j 271 then j + 128 else bif Nat.ble 272 j && Nat.ble j 399 then j - 128 else j
def xs_sgA (k : Nat) : Nat := bif Nat.ble 9 k && Nat.ble k 16 then k + 8 else bif Nat.ble 17 k && Nat.ble k 24 then k - 8 else k
/-- text and spare change their names -/
def xs_sg (s : xs_S) : xs_S := ((fun j => s.1 (xs_sgI j)), (fun k => s.2.1 (xs_sgA k)), s.2.2.1, s.2.2.2)
def xs_ren (v : Int32) (s : xs_S) : xs_S := if v = 0 then xs_sg s else s
def lw_s0 (R : Nat → xs_S → ms_S → Prop) : Prop := ∀ (n : Nat) (s : xs_S) (m : ms_S) (a0 a1 a2 a3 a4 : Int32), R n s m → n < 512 → ∃ (v : Int32) (s2 : xs_S) (m2 : ms_S), xf_11_feed s a0 a1 a2 a3 a4 = some (v, s2) ∧ mf_feed m a0 a1 a2 a3 a4 = some (v, m2) ∧ R (n + 1) s2 m2
def lw_s1 (R : Nat → xs_S → ms_S → Prop) : Prop := ∀ (n : Nat) (s : xs_S) (m : ms_S) (a0 : Int32), R n s m → n < 512 → ∃ (v : Int32) (s2 : xs_S) (m2 : ms_S), xf_11_back s a0 = some (v, s2) ∧ mf_back m a0 = some (v, m2) ∧ R (n + 1) s2 m2
def lw_s2 (R : Nat → xs_S → ms_S → Prop) : Prop := ∀ (n : Nat) (s : xs_S) (m : ms_S) , R n s m → n < 512 → ∃ (v : Int32) (s2 : xs_S) (m2 : ms_S), xf_11_read_u s  = some (v, s2) ∧ mf_read m  = some (v, m2) ∧ R (n + 1) (xs_ren v s2) m2
def lw_s3 (R : Nat → xs_S → ms_S → Prop) : Prop := ∀ (n : Nat) (s : xs_S) (m : ms_S) , R n s m → n < 512 → ∃ (v : Int32) (s2 : xs_S) (m2 : ms_S), xf_11_place s  = some (v, s2) ∧ mf_place m  = some (v, m2) ∧ R (n + 1) s2 m2
def lw_s4 (R : Nat → xs_S → ms_S → Prop) : Prop := ∀ (n : Nat) (s : xs_S) (m : ms_S) (a0 a1 : Int32), R n s m → n < 512 → ∃ (v : Int32) (s2 : xs_S) (m2 : ms_S), xf_11_speaker s a0 a1 = some (v, s2) ∧ mf_speaker m a0 a1 = some (v, m2) ∧ R (n + 1) s2 m2
def lw_s5 (R : Nat → xs_S → ms_S → Prop) : Prop := ∀ (n : Nat) (s : xs_S) (m : ms_S) (a0 a1 : Int32), R n s m → n < 512 → ∃ (v : Int32) (s2 : xs_S) (m2 : ms_S), xf_11_word s a0 a1 = some (v, s2) ∧ mf_word m a0 a1 = some (v, m2) ∧ R (n + 1) s2 m2
def lw_s6 (R : Nat → xs_S → ms_S → Prop) : Prop := ∀ (n : Nat) (s : xs_S) (m : ms_S) (a0 : Int32), R n s m → n < 512 → ∃ (v : Int32) (s2 : xs_S) (m2 : ms_S), xf_11_say s a0 = some (v, s2) ∧ mf_say m a0 = some (v, m2) ∧ R (n + 1) s2 m2
def lw_s7 (R : Nat → xs_S → ms_S → Prop) : Prop := ∀ (n : Nat) (s : xs_S) (m : ms_S) , R n s m → n < 512 → ∃ (v : Int32) (s2 : xs_S) (m2 : ms_S), xf_11_pass s  = some (v, s2) ∧ mf_pass m  = some (v, m2) ∧ R (n + 1) s2 m2
def lw_s8 (R : Nat → xs_S → ms_S → Prop) : Prop := ∀ (n : Nat) (s : xs_S) (m : ms_S) (a0 a1 : Int32), R n s m → n < 512 → ∃ (v : Int32) (s2 : xs_S) (m2 : ms_S), xf_11_hire s a0 a1 = some (v, s2) ∧ mf_hire m a0 a1 = some (v, m2) ∧ R (n + 1) s2 m2
def lw_s9 (R : Nat → xs_S → ms_S → Prop) : Prop := ∀ (n : Nat) (s : xs_S) (m : ms_S) , R n s m → n < 512 → ∃ (v : Int32) (s2 : xs_S) (m2 : ms_S), xf_11_set s  = some (v, s2) ∧ mf_set m  = some (v, m2) ∧ R (n + 1) s2 m2
def lw_s10 (R : Nat → xs_S → ms_S → Prop) : Prop := ∀ (n : Nat) (s : xs_S) (m : ms_S) (a0 : Int32), R n s m → n < 512 → ∃ (v : Int32) (s2 : xs_S) (m2 : ms_S), xf_11_minutes s a0 = some (v, s2) ∧ mf_minutes m a0 = some (v, m2) ∧ R (n + 1) s2 m2
def lw_s11 (R : Nat → xs_S → ms_S → Prop) : Prop := ∀ (n : Nat) (s : xs_S) (m : ms_S) , R n s m → n < 512 → ∃ (v : Int32) (s2 : xs_S) (m2 : ms_S), xf_11_undo s  = some (v, s2) ∧ mf_undo m  = some (v, m2) ∧ R (n + 1) s2 m2
def lw_s12 (R : Nat → xs_S → ms_S → Prop) : Prop := ∀ (n : Nat) (s : xs_S) (m : ms_S) , R n s m → n < 512 → ∃ (v : Int32) (s2 : xs_S) (m2 : ms_S), xf_11_who s  = some (v, s2) ∧ mf_who m  = some (v, m2) ∧ R (n + 1) s2 m2
def lw_s13 (R : Nat → xs_S → ms_S → Prop) : Prop := ∀ (n : Nat) (s : xs_S) (m : ms_S) , R n s m → n < 512 → ∃ (v : Int32) (s2 : xs_S) (m2 : ms_S), xf_11_soon s  = some (v, s2) ∧ mf_soon m  = some (v, m2) ∧ R (n + 1) s2 m2
def lw_s14 (R : Nat → xs_S → ms_S → Prop) : Prop := ∀ (n : Nat) (s : xs_S) (m : ms_S) , R n s m → n < 512 → ∃ (v : Int32) (s2 : xs_S) (m2 : ms_S), xf_11_best s  = some (v, s2) ∧ mf_best m  = some (v, m2) ∧ R (n + 1) s2 m2
def lw_s15 (R : Nat → xs_S → ms_S → Prop) : Prop := ∀ (n : Nat) (s : xs_S) (m : ms_S) , R n s m → n < 512 → ∃ (v : Int32) (s2 : xs_S) (m2 : ms_S), xf_11_together s  = some (v, s2) ∧ mf_together m  = some (v, m2) ∧ R (n + 1) s2 m2
def lw_s16 (R : Nat → xs_S → ms_S → Prop) : Prop := ∀ (n : Nat) (s : xs_S) (m : ms_S) (a0 : Int32), R n s m → n < 512 → ∃ (v : Int32) (s2 : xs_S) (m2 : ms_S), xf_11_even s a0 = some (v, s2) ∧ mf_even m a0 = some (v, m2) ∧ R (n + 1) s2 m2
def lw_s17 (R : Nat → xs_S → ms_S → Prop) : Prop := ∀ (n : Nat) (s : xs_S) (m : ms_S) (a0 : Int32), R n s m → n < 512 → ∃ (v : Int32) (s2 : xs_S) (m2 : ms_S), xf_11_ways s a0 = some (v, s2) ∧ mf_ways m a0 = some (v, m2) ∧ R (n + 1) s2 m2
def lw_s18 (R : Nat → xs_S → ms_S → Prop) : Prop := ∀ (n : Nat) (s : xs_S) (m : ms_S) (a0 : Int32), R n s m → n < 512 → ∃ (v : Int32) (s2 : xs_S) (m2 : ms_S), xf_11_waking s a0 = some (v, s2) ∧ mf_waking m a0 = some (v, m2) ∧ R (n + 1) s2 m2
def lw_s19 (R : Nat → xs_S → ms_S → Prop) : Prop := ∀ (n : Nat) (s : xs_S) (m : ms_S) , R n s m → n < 512 → ∃ (v : Int32) (s2 : xs_S) (m2 : ms_S), xf_11_ring s  = some (v, s2) ∧ mf_ring m  = some (v, m2) ∧ R (n + 1) s2 m2
def lw_s20 (R : Nat → xs_S → ms_S → Prop) : Prop := ∀ (n : Nat) (s : xs_S) (m : ms_S) , R n s m → n < 512 → ∃ (v : Int32) (s2 : xs_S) (m2 : ms_S), xf_11_reach s  = some (v, s2) ∧ mf_reach m  = some (v, m2) ∧ R (n + 1) s2 m2
def lw_s21 (R : Nat → xs_S → ms_S → Prop) : Prop := ∀ (n : Nat) (s : xs_S) (m : ms_S) , R n s m → n < 512 → ∃ (v : Int32) (s2 : xs_S) (m2 : ms_S), xf_11_slopes s  = some (v, s2) ∧ mf_slopes m  = some (v, m2) ∧ R (n + 1) s2 m2
def lw_s22 (R : Nat → xs_S → ms_S → Prop) : Prop := ∀ (n : Nat) (s : xs_S) (m : ms_S) , R n s m → n < 512 → ∃ (v : Int32) (s2 : xs_S) (m2 : ms_S), xf_11_hangs s  = some (v, s2) ∧ mf_hangs m  = some (v, m2) ∧ R (n + 1) s2 m2
def lw_s23 (R : Nat → xs_S → ms_S → Prop) : Prop := ∀ (n : Nat) (s : xs_S) (m : ms_S) (a0 : Int32), R n s m → n < 512 → ∃ (v : Int32) (s2 : xs_S) (m2 : ms_S), xf_11_scale s a0 = some (v, s2) ∧ mf_scale m a0 = some (v, m2) ∧ R (n + 1) s2 m2
def lw_s24 (R : Nat → xs_S → ms_S → Prop) : Prop := ∀ (n : Nat) (s : xs_S) (m : ms_S) (a0 a1 : Int32), R n s m → n < 512 → ∃ (v : Int32) (s2 : xs_S) (m2 : ms_S), xf_11_calm s a0 a1 = some (v, s2) ∧ mf_calm m a0 a1 = some (v, m2) ∧ R (n + 1) s2 m2
def lw_s25 (R : Nat → xs_S → ms_S → Prop) : Prop := ∀ (n : Nat) (s : xs_S) (m : ms_S) (a0 : Int32), R n s m → n < 512 → ∃ (v : Int32) (s2 : xs_S) (m2 : ms_S), xf_11_couples s a0 = some (v, s2) ∧ mf_couples m a0 = some (v, m2) ∧ R (n + 1) s2 m2
def lw_s26 (R : Nat → xs_S → ms_S → Prop) : Prop := ∀ (n : Nat) (s : xs_S) (m : ms_S) (a0 : Int32), R n s m → n < 512 → ∃ (v : Int32) (s2 : xs_S) (m2 : ms_S), xf_11_cheapest s a0 = some (v, s2) ∧ mf_cheapest m a0 = some (v, m2) ∧ R (n + 1) s2 m2
def lw_s27 (R : Nat → xs_S → ms_S → Prop) : Prop := ∀ (n : Nat) (s : xs_S) (m : ms_S) (a0 : Int32), R n s m → n < 512 → ∃ (v : Int32) (s2 : xs_S) (m2 : ms_S), xf_11_slopeIn s a0 = some (v, s2) ∧ mf_slopeIn m a0 = some (v, m2) ∧ R (n + 1) s2 m2
def lw_s28 (R : Nat → xs_S → ms_S → Prop) : Prop := ∀ (n : Nat) (s : xs_S) (m : ms_S) (a0 a1 : Int32), R n s m → n < 512 → ∃ (v : Int32) (s2 : xs_S) (m2 : ms_S), xf_11_year s a0 a1 = some (v, s2) ∧ mf_year m a0 a1 = some (v, m2) ∧ R (n + 1) s2 m2
def lw_s29 (R : Nat → xs_S → ms_S → Prop) : Prop := ∀ (n : Nat) (s : xs_S) (m : ms_S) (a0 a1 a2 : Int32), R n s m → n < 512 → (a2 = 0 ∨ a2 = 1) → ∃ (v : Int32) (s2 : xs_S) (m2 : ms_S), xf_11_tell s a0 a1 a2 = some (v, s2) ∧ mf_tell m a0 a1 a2 = some (v, m2) ∧ R (n + 1) s2 m2
def lw_s30 (R : Nat → xs_S → ms_S → Prop) : Prop := ∀ (n : Nat) (s : xs_S) (m : ms_S) , R n s m → n < 512 → ∃ (v : Int32) (s2 : xs_S) (m2 : ms_S), xf_11_forget s  = some (v, s2) ∧ mf_forget m  = some (v, m2) ∧ R (n + 1) s2 m2
def lw_s31 (R : Nat → xs_S → ms_S → Prop) : Prop := ∀ (n : Nat) (s : xs_S) (m : ms_S) (a0 a1 a2 : Int32), R n s m → n < 512 → ∃ (v : Int32) (s2 : xs_S) (m2 : ms_S), xf_11_rows s a0 a1 a2 = some (v, s2) ∧ mf_rows m a0 a1 a2 = some (v, m2) ∧ R (n + 1) s2 m2
def lw_s32 (R : Nat → xs_S → ms_S → Prop) : Prop := ∀ (n : Nat) (s : xs_S) (m : ms_S) (a0 a1 a2 : Int32), R n s m → n < 512 → ∃ (v : Int32) (s2 : xs_S) (m2 : ms_S), xf_11_listen s a0 a1 a2 = some (v, s2) ∧ mf_listen m a0 a1 a2 = some (v, m2) ∧ R (n + 1) s2 m2
def lw_s33 (R : Nat → xs_S → ms_S → Prop) : Prop := ∀ (n : Nat) (s : xs_S) (m : ms_S) (a0 : Int32), R n s m → n < 512 → ∃ (v : Int32) (s2 : xs_S) (m2 : ms_S), xf_11_hold s a0 = some (v, s2) ∧ mf_hold m a0 = some (v, m2) ∧ R (n + 1) s2 m2
def lw_s34 (R : Nat → xs_S → ms_S → Prop) : Prop := ∀ (n : Nat) (s : xs_S) (m : ms_S) (a0 : Int32), R n s m → n < 512 → ∃ (v : Int32) (s2 : xs_S) (m2 : ms_S), xf_11_restore s a0 = some (v, s2) ∧ mf_restore m a0 = some (v, m2) ∧ R (n + 1) s2 m2
def lw_s35 (R : Nat → xs_S → ms_S → Prop) : Prop := ∀ (n : Nat) (s : xs_S) (m : ms_S) (a0 : Int32), R n s m → n < 512 → ∃ (v : Int32) (s2 : xs_S) (m2 : ms_S), xf_11_count s a0 = some (v, s2) ∧ mf_count m a0 = some (v, m2) ∧ R (n + 1) s2 m2
def lw_sims (R : Nat → xs_S → ms_S → Prop) : Prop := (∃ (s2 : xs_S) (m2 : ms_S), xf_11_beginAnew_p2n xs_0 = some s2 ∧ mf_initT ms_0 = some m2 ∧ R 0 s2 m2) ∧ lw_s0 R ∧ lw_s1 R ∧ lw_s2 R ∧ lw_s3 R ∧ lw_s4 R ∧ lw_s5 R ∧ lw_s6 R ∧ lw_s7 R ∧ lw_s8 R ∧ lw_s9 R ∧ lw_s10 R ∧ lw_s11 R ∧ lw_s12 R ∧ lw_s13 R ∧ lw_s14 R ∧ lw_s15 R ∧ lw_s16 R ∧ lw_s17 R ∧ lw_s18 R ∧ lw_s19 R ∧ lw_s20 R ∧ lw_s21 R ∧ lw_s22 R ∧ lw_s23 R ∧ lw_s24 R ∧ lw_s25 R ∧ lw_s26 R ∧ lw_s27 R ∧ lw_s28 R ∧ lw_s29 R ∧ lw_s30 R ∧ lw_s31 R ∧ lw_s32 R ∧ lw_s33 R ∧ lw_s34 R ∧ lw_s35 R
theorem lw_arg1 {p : Program} {l : Launch} {e : Env} {s : State} {m : MethodId} {below : List Frame} {meth : Method} {c : Code} {b L : Nat} {xs : Nat → Int32} {Z : State → Prop} (C0 : lw_At p s m meth c b L xs) {H : Heap} {locs : List Loc} {cells slots pc i : Nat} {ls : Array Slot} {st : List Value} {q1 q2 : Nat} (hL : L ≤ 3072) (hi : i + 6 ≤ L) (hS : va_S (fun q : Nat => s.heap.size ≤ q) s.heap H locs) (hl : lv_has ls 4 [(0, .ref b), (1, .ref q1), (2, .ref q2), (3, .int (nI i))])
    (d0 : decode code pc = .ok (.aload_n 0, 1)) (d1 : decode code (pc + 1) = .ok (.iload_n 3, 1)) (d2 : decode code (pc + 2) = .ok (.iconst 1, 1)) (d3 : decode code (pc + 3) = .ok (.iadd, 1)) (d4 : decode code (pc + 4) = .ok (.iaload, 1))
    (k : W p l e room_1 s m #[Value.ref b] below meth c H locs cells slots Z (F0 m (pc + 5) ls (.int (xs (i + 1)) :: st))) : W p l e room_1 s m #[Value.ref b] below meth c H locs cells slots Z (F0 m pc ls st) := by
  obtain ⟨hx, hb, hr, hml, hown, hts, hX, hbl, hlocks, hgv⟩ := C0
  have hbA : ¬ (fun q : Nat => s.heap.size ≤ q) b := Nat.not_le.mpr hbl
  have e1 : nI i + (1 : Int32) = nI (i + 1) := (Int32.ofNat_add i 1).symm
  refine lv_aload_n hx hb d0 rfl (lv_at hl 0 rfl) ?_
  refine lv_iload_n hx hb d1 rfl (lv_at hl 3 rfl) ?_
  refine lv_iconst (v := 1) hx hb d2 (by decide) ?_
  refine lv_iadd hx hb d3 ?_
  rw [e1]
  refine va_sld hx hb hX hbl hbA hS (vp_in_nI (by omega) (by omega)) d4 ?_
  rw [nI_clamp (by omega)]
  exact k
theorem lw_arg2 {p : Program} {l : Launch} {e : Env} {s : State} {m : MethodId} {below : List Frame} {meth : Method} {c : Code} {b L : Nat} {xs : Nat → Int32} {Z : State → Prop} (C0 : lw_At p s m meth c b L xs) {H : Heap} {locs : List Loc} {cells slots pc i : Nat} {ls : Array Slot} {st : List Value} {q1 q2 : Nat} (hL : L ≤ 3072) (hi : i + 6 ≤ L) (hS : va_S (fun q : Nat => s.heap.size ≤ q) s.heap H locs) (hl : lv_has ls 4 [(0, .ref b), (1, .ref q1), (2, .ref q2), (3, .int (nI i))])
    (d0 : decode code pc = .ok (.aload_n 0, 1)) (d1 : decode code (pc + 1) = .ok (.iload_n 3, 1)) (d2 : decode code (pc + 2) = .ok (.iconst 2, 1)) (d3 : decode code (pc + 3) = .ok (.iadd, 1)) (d4 : decode code (pc + 4) = .ok (.iaload, 1))
    (k : W p l e room_1 s m #[Value.ref b] below meth c H locs cells slots Z (F0 m (pc + 5) ls (.int (xs (i + 2)) :: st))) : W p l e room_1 s m #[Value.ref b] below meth c H locs cells slots Z (F0 m pc ls st) := by
  obtain ⟨hx, hb, hr, hml, hown, hts, hX, hbl, hlocks, hgv⟩ := C0
  have hbA : ¬ (fun q : Nat => s.heap.size ≤ q) b := Nat.not_le.mpr hbl
  have e1 : nI i + (2 : Int32) = nI (i + 2) := (Int32.ofNat_add i 2).symm
  refine lv_aload_n hx hb d0 rfl (lv_at hl 0 rfl) ?_
  refine lv_iload_n hx hb d1 rfl (lv_at hl 3 rfl) ?_
  refine lv_iconst (v := 2) hx hb d2 (by decide) ?_
  refine lv_iadd hx hb d3 ?_
  rw [e1]
  refine va_sld hx hb hX hbl hbA hS (vp_in_nI (by omega) (by omega)) d4 ?_
  rw [nI_clamp (by omega)]
  exact k
theorem lw_arg3 {p : Program} {l : Launch} {e : Env} {s : State} {m : MethodId} {below : List Frame} {meth : Method} {c : Code} {b L : Nat} {xs : Nat → Int32} {Z : State → Prop} (C0 : lw_At p s m meth c b L xs) {H : Heap} {locs : List Loc} {cells slots pc i : Nat} {ls : Array Slot} {st : List Value} {q1 q2 : Nat} (hL : L ≤ 3072) (hi : i + 6 ≤ L) (hS : va_S (fun q : Nat => s.heap.size ≤ q) s.heap H locs) (hl : lv_has ls 4 [(0, .ref b), (1, .ref q1), (2, .ref q2), (3, .int (nI i))])
    (d0 : decode code pc = .ok (.aload_n 0, 1)) (d1 : decode code (pc + 1) = .ok (.iload_n 3, 1)) (d2 : decode code (pc + 2) = .ok (.iconst 3, 1)) (d3 : decode code (pc + 3) = .ok (.iadd, 1)) (d4 : decode code (pc + 4) = .ok (.iaload, 1))
    (k : W p l e room_1 s m #[Value.ref b] below meth c H locs cells slots Z (F0 m (pc + 5) ls (.int (xs (i + 3)) :: st))) : W p l e room_1 s m #[Value.ref b] below meth c H locs cells slots Z (F0 m pc ls st) := by
  obtain ⟨hx, hb, hr, hml, hown, hts, hX, hbl, hlocks, hgv⟩ := C0
  have hbA : ¬ (fun q : Nat => s.heap.size ≤ q) b := Nat.not_le.mpr hbl
  have e1 : nI i + (3 : Int32) = nI (i + 3) := (Int32.ofNat_add i 3).symm
  refine lv_aload_n hx hb d0 rfl (lv_at hl 0 rfl) ?_
  refine lv_iload_n hx hb d1 rfl (lv_at hl 3 rfl) ?_
  refine lv_iconst (v := 3) hx hb d2 (by decide) ?_
  refine lv_iadd hx hb d3 ?_
  rw [e1]
  refine va_sld hx hb hX hbl hbA hS (vp_in_nI (by omega) (by omega)) d4 ?_
  rw [nI_clamp (by omega)]
  exact k
theorem lw_arg4 {p : Program} {l : Launch} {e : Env} {s : State} {m : MethodId} {below : List Frame} {meth : Method} {c : Code} {b L : Nat} {xs : Nat → Int32} {Z : State → Prop} (C0 : lw_At p s m meth c b L xs) {H : Heap} {locs : List Loc} {cells slots pc i : Nat} {ls : Array Slot} {st : List Value} {q1 q2 : Nat} (hL : L ≤ 3072) (hi : i + 6 ≤ L) (hS : va_S (fun q : Nat => s.heap.size ≤ q) s.heap H locs) (hl : lv_has ls 4 [(0, .ref b), (1, .ref q1), (2, .ref q2), (3, .int (nI i))])
    (d0 : decode code pc = .ok (.aload_n 0, 1)) (d1 : decode code (pc + 1) = .ok (.iload_n 3, 1)) (d2 : decode code (pc + 2) = .ok (.iconst 4, 1)) (d3 : decode code (pc + 3) = .ok (.iadd, 1)) (d4 : decode code (pc + 4) = .ok (.iaload, 1))
    (k : W p l e room_1 s m #[Value.ref b] below meth c H locs cells slots Z (F0 m (pc + 5) ls (.int (xs (i + 4)) :: st))) : W p l e room_1 s m #[Value.ref b] below meth c H locs cells slots Z (F0 m pc ls st) := by
  obtain ⟨hx, hb, hr, hml, hown, hts, hX, hbl, hlocks, hgv⟩ := C0
  have hbA : ¬ (fun q : Nat => s.heap.size ≤ q) b := Nat.not_le.mpr hbl
  have e1 : nI i + (4 : Int32) = nI (i + 4) := (Int32.ofNat_add i 4).symm
  refine lv_aload_n hx hb d0 rfl (lv_at hl 0 rfl) ?_
  refine lv_iload_n hx hb d1 rfl (lv_at hl 3 rfl) ?_
  refine lv_iconst (v := 4) hx hb d2 (by decide) ?_
  refine lv_iadd hx hb d3 ?_
  rw [e1]
  refine va_sld hx hb hX hbl hbA hS (vp_in_nI (by omega) (by omega)) d4 ?_
  rw [nI_clamp (by omega)]
  exact k
theorem lw_arg5 {p : Program} {l : Launch} {e : Env} {s : State} {m : MethodId} {below : List Frame} {meth : Method} {c : Code} {b L : Nat} {xs : Nat → Int32} {Z : State → Prop} (C0 : lw_At p s m meth c b L xs) {H : Heap} {locs : List Loc} {cells slots pc i : Nat} {ls : Array Slot} {st : List Value} {q1 q2 : Nat} (hL : L ≤ 3072) (hi : i + 6 ≤ L) (hS : va_S (fun q : Nat => s.heap.size ≤ q) s.heap H locs) (hl : lv_has ls 4 [(0, .ref b), (1, .ref q1), (2, .ref q2), (3, .int (nI i))])
    (d0 : decode code pc = .ok (.aload_n 0, 1)) (d1 : decode code (pc + 1) = .ok (.iload_n 3, 1)) (d2 : decode code (pc + 2) = .ok (.iconst 5, 1)) (d3 : decode code (pc + 3) = .ok (.iadd, 1)) (d4 : decode code (pc + 4) = .ok (.iaload, 1))
    (k : W p l e room_1 s m #[Value.ref b] below meth c H locs cells slots Z (F0 m (pc + 5) ls (.int (xs (i + 5)) :: st))) : W p l e room_1 s m #[Value.ref b] below meth c H locs cells slots Z (F0 m pc ls st) := by
  obtain ⟨hx, hb, hr, hml, hown, hts, hX, hbl, hlocks, hgv⟩ := C0
  have hbA : ¬ (fun q : Nat => s.heap.size ≤ q) b := Nat.not_le.mpr hbl
  have e1 : nI i + (5 : Int32) = nI (i + 5) := (Int32.ofNat_add i 5).symm
  refine lv_aload_n hx hb d0 rfl (lv_at hl 0 rfl) ?_
  refine lv_iload_n hx hb d1 rfl (lv_at hl 3 rfl) ?_
  refine lv_iconst (v := 5) hx hb d2 (by decide) ?_
  refine lv_iadd hx hb d3 ?_
  rw [e1]
  refine va_sld hx hb hX hbl hbA hS (vp_in_nI (by omega) (by omega)) d4 ?_
  rw [nI_clamp (by omega)]
  exact k
def mm_wl (E : Nat → ClassId) (ad : Nat → Nat) : Nat → mm_H → va_W
  | _, [] => []
  | i, e :: r => (ad i, mm_er E ad e) :: mm_wl E ad (i + 1) r
theorem mm_wl_eq {E : Nat → ClassId} {ad : Nat → Nat} : ∀ (h : mm_H) (i : Nat), h.mapIdx (fun k e => (ad (i + k), mm_er E ad e)) = mm_wl E ad i h
  | [], _ => rfl
  | e :: r, i => by
    rw [List.mapIdx_cons, mm_wl, ← mm_wl_eq r (i + 1)]
    simp only [Nat.add_zero, List.cons.injEq, true_and]
    congr 1
    funext k e
    rw [show i + (k + 1) = i + 1 + k from by omega]
theorem mm_wr_wl {E : Nat → ClassId} {ad : Nat → Nat} {h : mm_H} : mm_wr E ad h = mm_wl E ad 0 h := by
  rw [← mm_wl_eq]
  simp only [Nat.zero_add]
  rfl
def lw_is : List Nat := [0, 1, 2, 3, 4, 5, 6, 7, 8, 17, 18, 19, 20, 21, 22, 23, 24, 9, 10, 11, 12, 13, 14, 15, 16, 25, 26, 27, 28, 29, 30, 31, 32, 33, 34, 35, 36, 37, 38, 39, 40, 41, 42, 43, 44, 45, 46, 47, 48, 49, 50, 51, 52, 53, 54, 55, 56, 57, 58, 59, 60, 61, 62, 63, 64, 65, 66, 67, 68, 69, 70, 71, 72, 73, 74, 75, 76, 77, 78, 79, 80, 81, 82, 83, 84, 85, 86, 87, 88, 89, 90, 91, 92, 93, 94, 95, 96, 97, 98, 99, 100, 101, 102, 103, 104, 105, 106, 107, 108, 109, 110, 111, 112, 113, 114, 115, 116, 117, 118, 119, 120, 121, 122, 123, 124, 125, 126, 127, 128, 129, 130, 131, 132, 133, 134, 135, 136, 137, 138]
set_option maxRecDepth 100000 in
set_option maxHeartbeats 4000000 in
theorem lw_ren {E : Nat → ClassId} {ad : Nat → Nat} {s : xs_S} : lw_is.map (fun i => (mm_wr E ad (xs_H (.ref 17) (.ref 9) (.ref 17) (.ref 17) s))[i]?) = (mm_wr E (fun k => ad (xs_sgA k)) (xs_H (.ref 9) (.ref 17) (.ref 9) (.ref 9) (xs_sg s))).map some := by
  have e1 : ∀ (f g : Nat → Nat) (n a0 : Nat), 25 ≤ a0 → mm_er E (fun k => ad (xs_sgA k)) (.inl (4, n, .inr (.inr (.inr (.inr (fun i => bif Nat.blt i n then some (a0 + 2 * i) else none)))))) = mm_er E ad (.inl (4, n, .inr (.inr (.inr (.inr (fun i => bif Nat.blt i n then some (a0 + 2 * i) else none)))))) := by
    intro f g n a0 h0
    simp only [mm_er]
    congr 7
    funext i
    by_cases hi : i < n
    · rw [if_pos hi, if_pos hi]
      have hb : Nat.blt i n = true := Nat.ble_eq_true_of_le hi
      rw [hb]
      simp only [cond_true, Option.map_some]
      have e2 : xs_sgA (a0 + 2 * i) = a0 + 2 * i := by
        unfold xs_sgA
        have h1 : Nat.ble (a0 + 2 * i) 16 = false := by
          cases hq : Nat.ble (a0 + 2 * i) 16 with
          | false => rfl
          | true => exact absurd (Nat.le_of_ble_eq_true hq) (by omega)
        have h2 : Nat.ble (a0 + 2 * i) 24 = false := by
          cases hq : Nat.ble (a0 + 2 * i) 24 with
          | false => rfl
          | true => exact absurd (Nat.le_of_ble_eq_true hq) (by omega)
        rw [h1, h2, Bool.and_false, Bool.and_false]
        rfl
      rw [e2]
    · rw [if_neg hi, if_neg hi]
  have e2 := e1 id id 40 29 (by decide)
  have e3 := e1 id id 3 110 (by decide)
  rw [mm_wr_wl, mm_wr_wl]
  have f1 : mm_wl E (fun k => ad (xs_sgA k)) 0 (xs_H (.ref 9) (.ref 17) (.ref 9) (.ref 9) (xs_sg s)) = ((mm_wl E (fun k => ad (xs_sgA k)) 0 (xs_H (.ref 9) (.ref 17) (.ref 9) (.ref 9) (xs_sg s))).set 28 (ad 28, mm_er E (fun k => ad (xs_sgA k)) (.inl (4, 40, .inr (.inr (.inr (.inr (fun i => bif Nat.blt i 40 then some (29 + 2 * i) else none)))))))).set 109 (ad 109, mm_er E (fun k => ad (xs_sgA k)) (.inl (4, 3, .inr (.inr (.inr (.inr (fun i => bif Nat.blt i 3 then some (110 + 2 * i) else none))))))) := rfl
  rw [f1, e2, e3]
  clear f1 e1 e2 e3
  obtain ⟨sI, sA, sL, w⟩ := s
  cases w
  · rfl
  · rfl
theorem lw_ln_13 : Cond.methodLink R_law 13 (mm_y 225) ∈ lw_tbl := List.mem_of_getElem? (i := 583) (by decide +kernel)
theorem lw_ln_17 : Cond.methodLink R_law 17 (mm_y 1) ∈ lw_tbl := List.mem_of_getElem? (i := 1518) (by decide +kernel)
theorem lw_ln_18 : Cond.methodLink R_law 18 (mm_y 226) ∈ lw_tbl := List.mem_of_getElem? (i := 591) (by decide +kernel)
theorem lw_ln_22 : Cond.methodLink R_law 22 (mm_y 3) ∈ lw_tbl := List.mem_of_getElem? (i := 1526) (by decide +kernel)
theorem lw_ln_23 : Cond.methodLink R_law 23 (mm_y 227) ∈ lw_tbl := List.mem_of_getElem? (i := 595) (by decide +kernel)
theorem lw_ln_27 : Cond.methodLink R_law 27 (mm_y 18) ∈ lw_tbl := List.mem_of_getElem? (i := 1530) (by decide +kernel)
theorem lw_ln_28 : Cond.methodLink R_law 28 (mm_y 228) ∈ lw_tbl := List.mem_of_getElem? (i := 845) (by decide +kernel)
theorem lw_ln_31 : Cond.methodLink R_law 31 (mm_y 19) ∈ lw_tbl := List.mem_of_getElem? (i := 1624) (by decide +kernel)
theorem lw_ln_32 : Cond.methodLink R_law 32 (mm_y 229) ∈ lw_tbl := List.mem_of_getElem? (i := 849) (by decide +kernel)
theorem lw_ln_36 : Cond.methodLink R_law 36 (mm_y 69) ∈ lw_tbl := List.mem_of_getElem? (i := 1628) (by decide +kernel)
theorem lw_ln_37 : Cond.methodLink R_law 37 (mm_y 230) ∈ lw_tbl := List.mem_of_getElem? (i := 857) (by decide +kernel)
theorem lw_ln_40 : Cond.methodLink R_law 40 (mm_y 70) ∈ lw_tbl := List.mem_of_getElem? (i := 1639) (by decide +kernel)
theorem lw_ln_41 : Cond.methodLink R_law 41 (mm_y 231) ∈ lw_tbl := List.mem_of_getElem? (i := 934) (by decide +kernel)
theorem lw_ln_44 : Cond.methodLink R_law 44 (mm_y 72) ∈ lw_tbl := List.mem_of_getElem? (i := 1694) (by decide +kernel)
theorem lw_ln_45 : Cond.methodLink R_law 45 (mm_y 232) ∈ lw_tbl := List.mem_of_getElem? (i := 958) (by decide +kernel)
theorem lw_ln_48 : Cond.methodLink R_law 48 (mm_y 74) ∈ lw_tbl := List.mem_of_getElem? (i := 1706) (by decide +kernel)
theorem lw_ln_49 : Cond.methodLink R_law 49 (mm_y 233) ∈ lw_tbl := List.mem_of_getElem? (i := 962) (by decide +kernel)
theorem lw_ln_52 : Cond.methodLink R_law 52 (mm_y 75) ∈ lw_tbl := List.mem_of_getElem? (i := 1726) (by decide +kernel)
theorem lw_ln_53 : Cond.methodLink R_law 53 (mm_y 234) ∈ lw_tbl := List.mem_of_getElem? (i := 977) (by decide +kernel)
theorem lw_ln_57 : Cond.methodLink R_law 57 (mm_y 76) ∈ lw_tbl := List.mem_of_getElem? (i := 1734) (by decide +kernel)
theorem lw_ln_58 : Cond.methodLink R_law 58 (mm_y 235) ∈ lw_tbl := List.mem_of_getElem? (i := 981) (by decide +kernel)
theorem lw_ln_61 : Cond.methodLink R_law 61 (mm_y 78) ∈ lw_tbl := List.mem_of_getElem? (i := 1738) (by decide +kernel)
theorem lw_ln_62 : Cond.methodLink R_law 62 (mm_y 236) ∈ lw_tbl := List.mem_of_getElem? (i := 1007) (by decide +kernel)
theorem lw_ln_65 : Cond.methodLink R_law 65 (mm_y 79) ∈ lw_tbl := List.mem_of_getElem? (i := 1764) (by decide +kernel)
theorem lw_ln_66 : Cond.methodLink R_law 66 (mm_y 237) ∈ lw_tbl := List.mem_of_getElem? (i := 1015) (by decide +kernel)
theorem lw_ln_69 : Cond.methodLink R_law 69 (mm_y 80) ∈ lw_tbl := List.mem_of_getElem? (i := 1768) (by decide +kernel)
theorem lw_ln_70 : Cond.methodLink R_law 70 (mm_y 238) ∈ lw_tbl := List.mem_of_getElem? (i := 1040) (by decide +kernel)
theorem lw_ln_73 : Cond.methodLink R_law 73 (mm_y 81) ∈ lw_tbl := List.mem_of_getElem? (i := 1803) (by decide +kernel)
theorem lw_ln_74 : Cond.methodLink R_law 74 (mm_y 239) ∈ lw_tbl := List.mem_of_getElem? (i := 1044) (by decide +kernel)
theorem lw_ln_77 : Cond.methodLink R_law 77 (mm_y 83) ∈ lw_tbl := List.mem_of_getElem? (i := 1807) (by decide +kernel)
theorem lw_ln_78 : Cond.methodLink R_law 78 (mm_y 240) ∈ lw_tbl := List.mem_of_getElem? (i := 1057) (by decide +kernel)
theorem lw_ln_81 : Cond.methodLink R_law 81 (mm_y 88) ∈ lw_tbl := List.mem_of_getElem? (i := 1825) (by decide +kernel)
theorem lw_ln_82 : Cond.methodLink R_law 82 (mm_y 241) ∈ lw_tbl := List.mem_of_getElem? (i := 1072) (by decide +kernel)
theorem lw_ln_85 : Cond.methodLink R_law 85 (mm_y 90) ∈ lw_tbl := List.mem_of_getElem? (i := 1836) (by decide +kernel)
theorem lw_ln_86 : Cond.methodLink R_law 86 (mm_y 242) ∈ lw_tbl := List.mem_of_getElem? (i := 1104) (by decide +kernel)
theorem lw_ln_89 : Cond.methodLink R_law 89 (mm_y 93) ∈ lw_tbl := List.mem_of_getElem? (i := 1847) (by decide +kernel)
theorem lw_ln_90 : Cond.methodLink R_law 90 (mm_y 243) ∈ lw_tbl := List.mem_of_getElem? (i := 1116) (by decide +kernel)
theorem lw_ln_93 : Cond.methodLink R_law 93 (mm_y 94) ∈ lw_tbl := List.mem_of_getElem? (i := 1858) (by decide +kernel)
theorem lw_ln_94 : Cond.methodLink R_law 94 (mm_y 244) ∈ lw_tbl := List.mem_of_getElem? (i := 1124) (by decide +kernel)
theorem lw_ln_97 : Cond.methodLink R_law 97 (mm_y 96) ∈ lw_tbl := List.mem_of_getElem? (i := 1862) (by decide +kernel)
theorem lw_ln_98 : Cond.methodLink R_law 98 (mm_y 245) ∈ lw_tbl := List.mem_of_getElem? (i := 1132) (by decide +kernel)
theorem lw_ln_101 : Cond.methodLink R_law 101 (mm_y 97) ∈ lw_tbl := List.mem_of_getElem? (i := 1870) (by decide +kernel)
theorem lw_ln_102 : Cond.methodLink R_law 102 (mm_y 246) ∈ lw_tbl := List.mem_of_getElem? (i := 1137) (by decide +kernel)
theorem lw_ln_105 : Cond.methodLink R_law 105 (mm_y 98) ∈ lw_tbl := List.mem_of_getElem? (i := 1874) (by decide +kernel)
theorem lw_ln_106 : Cond.methodLink R_law 106 (mm_y 247) ∈ lw_tbl := List.mem_of_getElem? (i := 1145) (by decide +kernel)
theorem lw_ln_109 : Cond.methodLink R_law 109 (mm_y 84) ∈ lw_tbl := List.mem_of_getElem? (i := 1817) (by decide +kernel)
theorem lw_ln_110 : Cond.methodLink R_law 110 (mm_y 248) ∈ lw_tbl := List.mem_of_getElem? (i := 1149) (by decide +kernel)
theorem lw_ln_113 : Cond.methodLink R_law 113 (mm_y 85) ∈ lw_tbl := List.mem_of_getElem? (i := 1821) (by decide +kernel)
theorem lw_ln_114 : Cond.methodLink R_law 114 (mm_y 249) ∈ lw_tbl := List.mem_of_getElem? (i := 1153) (by decide +kernel)
theorem lw_ln_117 : Cond.methodLink R_law 117 (mm_y 100) ∈ lw_tbl := List.mem_of_getElem? (i := 1878) (by decide +kernel)
theorem lw_ln_118 : Cond.methodLink R_law 118 (mm_y 250) ∈ lw_tbl := List.mem_of_getElem? (i := 1161) (by decide +kernel)
theorem lw_ln_121 : Cond.methodLink R_law 121 (mm_y 107) ∈ lw_tbl := List.mem_of_getElem? (i := 1886) (by decide +kernel)
theorem lw_ln_122 : Cond.methodLink R_law 122 (mm_y 251) ∈ lw_tbl := List.mem_of_getElem? (i := 1184) (by decide +kernel)
theorem lw_ln_125 : Cond.methodLink R_law 125 (mm_y 109) ∈ lw_tbl := List.mem_of_getElem? (i := 1913) (by decide +kernel)
theorem lw_ln_126 : Cond.methodLink R_law 126 (mm_y 252) ∈ lw_tbl := List.mem_of_getElem? (i := 1188) (by decide +kernel)
theorem lw_ln_129 : Cond.methodLink R_law 129 (mm_y 110) ∈ lw_tbl := List.mem_of_getElem? (i := 1921) (by decide +kernel)
theorem lw_ln_130 : Cond.methodLink R_law 130 (mm_y 253) ∈ lw_tbl := List.mem_of_getElem? (i := 1192) (by decide +kernel)
theorem lw_ln_133 : Cond.methodLink R_law 133 (mm_y 111) ∈ lw_tbl := List.mem_of_getElem? (i := 1925) (by decide +kernel)
theorem lw_ln_134 : Cond.methodLink R_law 134 (mm_y 254) ∈ lw_tbl := List.mem_of_getElem? (i := 1197) (by decide +kernel)
theorem lw_ln_138 : Cond.methodLink R_law 138 (mm_y 112) ∈ lw_tbl := List.mem_of_getElem? (i := 1929) (by decide +kernel)
theorem lw_ln_139 : Cond.methodLink R_law 139 (mm_y 255) ∈ lw_tbl := List.mem_of_getElem? (i := 1205) (by decide +kernel)
theorem lw_ln_142 : Cond.methodLink R_law 142 (mm_y 113) ∈ lw_tbl := List.mem_of_getElem? (i := 1933) (by decide +kernel)
theorem lw_ln_143 : Cond.methodLink R_law 143 (mm_y 256) ∈ lw_tbl := List.mem_of_getElem? (i := 1209) (by decide +kernel)
theorem lw_ln_147 : Cond.methodLink R_law 147 (mm_y 117) ∈ lw_tbl := List.mem_of_getElem? (i := 1937) (by decide +kernel)
theorem lw_ln_148 : Cond.methodLink R_law 148 (mm_y 257) ∈ lw_tbl := List.mem_of_getElem? (i := 1242) (by decide +kernel)
theorem lw_ln_151 : Cond.methodLink R_law 151 (mm_y 118) ∈ lw_tbl := List.mem_of_getElem? (i := 1952) (by decide +kernel)
theorem lw_ln_152 : Cond.methodLink R_law 152 (mm_y 258) ∈ lw_tbl := List.mem_of_getElem? (i := 1251) (by decide +kernel)
theorem lw_ln_156 : Cond.methodLink R_law 156 (mm_y 119) ∈ lw_tbl := List.mem_of_getElem? (i := 1956) (by decide +kernel)
theorem lw_ln_157 : Cond.methodLink R_law 157 (mm_y 259) ∈ lw_tbl := List.mem_of_getElem? (i := 1256) (by decide +kernel)
theorem lw_ln_160 : Cond.methodLink R_law 160 (mm_y 120) ∈ lw_tbl := List.mem_of_getElem? (i := 1960) (by decide +kernel)
theorem lw_ln_161 : Cond.methodLink R_law 161 (mm_y 260) ∈ lw_tbl := List.mem_of_getElem? (i := 1260) (by decide +kernel)
theorem lw_ln_164 : Cond.methodLink R_law 164 (mm_y 121) ∈ lw_tbl := List.mem_of_getElem? (i := 1964) (by decide +kernel)
