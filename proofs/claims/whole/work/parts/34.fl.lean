/-! Arrays.fill over any row of ints; rows that change places; the two ends of read -/
def xs_fl (n : Nat) (v : Int32) (f : Nat → Int32) : Nat → Int32 := fun i => bif Nat.blt i n then v else f i
def xs_sw (s : xs_S) : xs_S := (s.1, (fun j => bif Nat.beq j 132 then s.2.1 133 else bif Nat.beq j 133 then s.2.1 132 else s.2.1 j), s.2.2.1, !s.2.2.2)
def xr_end (v : Int32) (s : xs_S) : mm_H := if v = 0 then xs_H (.ref 17) (.ref 9) (.ref 17) (.ref 17) s else xs_H (.ref 9) (.ref 17) (.ref 9) (.ref 17) s
theorem xr_pos {Q : mm_R} {v : Int32} {s : xs_S} (h : v = 0) (hK : Q (some (.int v)) (xr_end v s)) : Q (some (.int v)) (xs_H (.ref 17) (.ref 9) (.ref 17) (.ref 17) s) := by
  unfold xr_end at hK
  rwa [if_pos h] at hK
theorem xr_neg {Q : mm_R} {v : Int32} {s : xs_S} (h : ¬ v = 0) (hK : Q (some (.int v)) (xr_end v s)) : Q (some (.int v)) (xs_H (.ref 9) (.ref 17) (.ref 9) (.ref 17) s) := by
  unfold xr_end at hK
  rwa [if_neg h] at hK
theorem mm_gl {C : mm_C} {M : mm_M} {F : mm_F} {P : List mm_En} {Q : mm_R} {cs cs' : List mm_En} {e : mm_En} {l : mm_L} {h : mm_H} {bc bs : Nat} {a t : Nat} {x : vp_A} {r : List Value} (he : cs = e :: cs') (h1 : e.2.1 = .arraylength) (h2 : e.2.2.2.2 = none) (ha : mm_at h a = some (.inl (t, x))) (ht : Nat.ble t 4 = true) (g : mm_go C M F P Q cs' l (.int (Int32.ofNat x.1) :: r) h bc bs) : mm_go C M F P Q cs l (.ref a :: r) h bc bs := by
  obtain ⟨k, g⟩ := g
  subst he
  refine ⟨k + 1, ?_⟩
  simp only [mm_wp, h1, h2, mm_msk, mm_i, mm_alen, ha, ht, cond_true]
  exact g
theorem mm_gs {C : mm_C} {M : mm_M} {F : mm_F} {P : List mm_En} {Q : mm_R} {cs cs' : List mm_En} {e : mm_En} {l : mm_L} {h : mm_H} {bc bs : Nat} {a n : Nat} {f : Nat → Int32} {i v : Int32} {r : List Value} (he : cs = e :: cs') (h1 : e.2.1 = .iastore) (h2 : e.2.2.2.2 = none) (ha : mm_at h a = some (.inl (0, n, .inl f))) (hi : vp_in i n) (g : mm_go C M F P Q cs' l r (mm_set h a (.inl (0, n, .inl (upd f i.toNatClampNeg v)))) bc bs) : mm_go C M F P Q cs l (.int v :: .int i :: .ref a :: r) h bc bs := by
  obtain ⟨k, g⟩ := g
  subst he
  refine ⟨k + 1, ?_⟩
  simp only [mm_wp, h1, h2, mm_msk, mm_i, mm_iast, ha]
  exact And.intro hi g
theorem mm_at_set {α : Type} : ∀ (l : List α) (n : Nat) (x y : α), mm_at l n = some y → mm_at (mm_set l n x) n = some x
  | [], _, _, _, h => by cases h
  | _ :: _, 0, _, _, _ => rfl
  | _ :: r, n + 1, x, y, h => mm_at_set r n x y h
theorem mm_set_set {α : Type} : ∀ (l : List α) (n : Nat) (x y : α), mm_set (mm_set l n x) n y = mm_set l n y
  | [], _, _, _ => rfl
  | _ :: _, 0, _, _ => rfl
  | e :: r, n + 1, x, y => congrArg (fun q => e :: q) (mm_set_set r n x y)
theorem mm_set_same {α : Type} : ∀ (l : List α) (n : Nat) (x : α), mm_at l n = some x → mm_set l n x = l
  | [], _, _, h => by cases h
  | _ :: _, 0, _, h => by
    have h2 := Option.some.inj h
    rw [← h2]; rfl
  | e :: r, n + 1, x, h => congrArg (fun q => e :: q) (mm_set_same r n x h)
theorem xb_fillg_l {C : mm_C} {Q : mm_R} {a n : Nat} {v : Int32} (hn : n < 2147483648) : ∀ (k i : Nat) (h : mm_H) (f : Nat → Int32), n = i + k → mm_at h a = some (.inl (0, n, .inl f)) → (Q none (mm_set h a (.inl (0, n, .inl (fun j => if i ≤ j ∧ j < n then v else f j))))) → mm_go C mm_Mk mm_Fk P_J7_fill_53178 Q (P_J7_fill_53178.drop 5) [(0, .ref a), (1, .int v), (2, .int (Int32.ofNat i)), (3, .int (Int32.ofNat n))] [] h 0 0 := by
  intro k
  induction k with
  | zero =>
    intro i h f hk ha hQ
    have hi : i = n := by omega
    subst hi
    have e1 : (fun j => if i ≤ j ∧ j < i then v else f j) = f := by
      funext j
      exact if_neg (by omega)
    rw [e1, mm_set_same _ _ _ ha] at hQ
    exact ⟨4, And.intro (fun _ => hQ) (fun q => absurd (Int32.le_refl _) q)⟩
  | succ k ih =>
    intro i h f hk ha hQ
    have hlt : i < n := by omega
    have hin : ¬ (Int32.ofNat n ≤ Int32.ofNat i) := by
      rw [Int32.le_iff_toInt_le, Int32.toInt_ofNat_of_lt (by omega), Int32.toInt_ofNat_of_lt (by omega)]
      omega
    have hc : (Int32.ofNat i).toNatClampNeg = i := by
      unfold Int32.toNatClampNeg
      rw [Int32.toInt_ofNat_of_lt (by omega)]
      omega
    have hv : vp_in (Int32.ofNat i) n := by
      unfold vp_in
      rw [hc, Int32.lt_iff_toInt_lt, Int32.toInt_ofNat_of_lt (by omega), Int32.toInt_zero]
      omega
    refine mm_adv 6 (cs' := P_J7_fill_53178.drop 11) (l' := [(0, .ref a), (1, .int v), (2, .int (Int32.ofNat i)), (3, .int (Int32.ofNat n))]) (st' := [.int v, .int (Int32.ofNat i), .ref a]) (h' := h) (bc' := 0) (bs' := 0) (fun n g => And.intro (fun q => absurd q hin) (fun _ => g)) ?_
    refine mm_gs (cs' := P_J7_fill_53178.drop 12) rfl rfl rfl ha hv ?_
    rw [hc]
    refine mm_adv 2 (cs' := P_J7_fill_53178.drop 5) (l' := [(2, .int (Int32.ofNat i + 1)), (0, .ref a), (1, .int v), (3, .int (Int32.ofNat n))]) (st' := []) (h' := mm_set h a (.inl (0, n, .inl (upd f i v)))) (bc' := 0) (bs' := 0) (fun n g => g) ?_
    have e2 : Int32.ofNat i + 1 = Int32.ofNat (i + 1) := by rw [Int32.ofNat_add]; rfl
    rw [e2]
    refine mm_re (c := [(0, .ref a), (1, .int v), (2, .int (Int32.ofNat (i + 1))), (3, .int (Int32.ofNat n))]) (ih (i + 1) _ (upd f i v) (by omega) (mm_at_set _ _ _ _ ha) ?_) rfl rfl
    rw [mm_set_set]
    have e1 : (fun j => if i + 1 ≤ j ∧ j < n then v else upd f i v j) = (fun j => if i ≤ j ∧ j < n then v else f j) := by
      funext j
      by_cases hj : j = i
      · subst hj
        rw [if_neg (by omega), if_pos (by omega)]
        simp [upd]
      · by_cases h2 : i + 1 ≤ j ∧ j < n
        · rw [if_pos h2, if_pos (by omega)]
        · rw [if_neg h2, if_neg (by omega)]
          simp [upd, hj]
    rw [e1]
    exact hQ
def xk_fillg (C : mm_C) : Prop := ∀ (h : mm_H) (a n : Nat) (f : Nat → Int32) (v : Int32) (Q : mm_R), mm_at h a = some (.inl (0, n, .inl f)) → n < 2147483648 → Q none (mm_set h a (.inl (0, n, .inl (xs_fl n v f)))) → C 123 [.ref a, .int v] h Q
theorem xb_fillg {C : mm_C} (h : mm_H) (a n : Nat) (f : Nat → Int32) (v : Int32) (Q : mm_R) (ha : mm_at h a = some (.inl (0, n, .inl f))) (hn : n < 2147483648) (hQ : Q none (mm_set h a (.inl (0, n, .inl (xs_fl n v f))))) : mm_go C mm_Mk mm_Fk P_J7_fill_53178 Q P_J7_fill_53178 [(0, .ref a), (1, .int v)] [] h 0 0 := by
  refine mm_adv 3 (cs' := P_J7_fill_53178.drop 3) (l' := [(2, .int 0), (0, .ref a), (1, .int v)]) (st' := [.ref a]) (h' := h) (bc' := 0) (bs' := 0) (fun n g => g) ?_
  refine mm_gl (cs' := P_J7_fill_53178.drop 4) rfl rfl rfl ha rfl ?_
  refine mm_adv 1 (cs' := P_J7_fill_53178.drop 5) (l' := [(3, .int (Int32.ofNat n)), (2, .int 0), (0, .ref a), (1, .int v)]) (st' := []) (h' := h) (bc' := 0) (bs' := 0) (fun n g => g) ?_
  refine mm_re (c := [(0, .ref a), (1, .int v), (2, .int (Int32.ofNat 0)), (3, .int (Int32.ofNat n))]) (xb_fillg_l hn n 0 h f (by omega) ha ?_) rfl rfl
  have e1 : (fun j => if 0 ≤ j ∧ j < n then v else f j) = xs_fl n v f := by
    funext j
    unfold xs_fl
    by_cases hj : j < n
    · rw [if_pos ⟨Nat.zero_le _, hj⟩, show Nat.blt j n = true from Nat.ble_eq_true_of_le hj]
      rfl
    · rw [if_neg (by omega)]
      cases hb : Nat.blt j n with
      | false => rfl
      | true => exact absurd (Nat.le_of_ble_eq_true hb) hj
  rw [e1]
  exact hQ
set_option maxRecDepth 100000 in
theorem xt_fillg (B : mm_C) (d : Nat) : xk_fillg (mm_ct B mm_Mk mm_Fk mm_PC (d + 1)) := fun h a n f v Q ha hn hQ => Or.inr (xb_fillg h a n f v Q ha hn hQ)
