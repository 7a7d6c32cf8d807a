theorem tt_in {B : mm_C} {F : mm_F} {d : Nat} {Q : mm_R} (x a b : Int32) (h : mm_H) (g : Q (some (.int (if x < a then 0 else if b < x then 0 else 1))) h) : mm_ct B (fun _ => (0, 0)) F mm_PCt (d + 1) 33 [.int x, .int a, .int b] h Q := by
  refine Or.inr ?_
  by_cases c1 : x < a
  · rw [if_pos c1] at g
    refine mm_adv 3 (cs' := P_X12_in.drop 8) (l' := []) (st' := []) (h' := h) (bc' := 0) (bs' := 0) (fun n g => And.intro (fun _ => g) (fun hn => absurd c1 hn)) ?_
    exact ⟨2, And.intro rfl g⟩
  · rw [if_neg c1] at g
    refine mm_adv 3 (cs' := P_X12_in.drop 3) (l' := [(0, .int x), (1, .int a), (2, .int b)]) (st' := []) (h' := h) (bc' := 0) (bs' := 0) (fun n g => And.intro (fun hp => absurd hp c1) (fun _ => g)) ?_
    by_cases c2 : b < x
    · rw [if_pos c2] at g
      refine mm_adv 3 (cs' := P_X12_in.drop 8) (l' := []) (st' := []) (h' := h) (bc' := 0) (bs' := 0) (fun n g => And.intro (fun _ => g) (fun hn => absurd c2 hn)) ?_
      exact ⟨2, And.intro rfl g⟩
    · rw [if_neg c2] at g
      refine mm_adv 3 (cs' := P_X12_in.drop 6) (l' := []) (st' := []) (h' := h) (bc' := 0) (bs' := 0) (fun n g => And.intro (fun hp => absurd hp c2) (fun _ => g)) ?_
      exact ⟨3, And.intro rfl g⟩
theorem tt_setsRow {B : mm_C} {F : mm_F} {d : Nat} {Q : mm_R} (s : ms_S) (h1 : vp_in (s.1 18) 2)
   (g : Q none (ms_H (ms_sA s 48 (upd (upd (upd (s.2.1 48) 0 (s.2.1 29 (s.1 18).toNatClampNeg)) 1 0) 2 6)))) : mm_ct B (fun _ => (0, 0)) F mm_PCt (d + 1) 39 [.ref 0] (ms_H s) Q := by
  refine Or.inr ?_
  refine mm_adv 8 (cs' := P_X12_setsRow.drop 8) (l' := [(0, .ref 0)]) (st' := [.int (s.2.1 29 (s.1 18).toNatClampNeg), .int 0, .ref 31]) (h' := ms_H s) (bc' := 0) (bs' := 0) (fun n g => And.intro h1 g) ?_
  refine mm_adv 1 (cs' := P_X12_setsRow.drop 9) (l' := [(0, .ref 0)]) (st' := []) (h' := ms_H (ms_sA s 48 (upd (s.2.1 48) 0 (s.2.1 29 (s.1 18).toNatClampNeg)))) (bc' := 0) (bs' := 0) (fun n g => And.intro (by decide) g) ?_
  refine mm_adv 5 (cs' := P_X12_setsRow.drop 14) (l' := [(0, .ref 0)]) (st' := []) (h' := ms_H (ms_sA s 48 (upd (upd (s.2.1 48) 0 (s.2.1 29 (s.1 18).toNatClampNeg)) 1 0))) (bc' := 0) (bs' := 0) (fun n g => And.intro (by decide) g) ?_
  refine mm_adv 5 (cs' := P_X12_setsRow.drop 19) (l' := [(0, .ref 0)]) (st' := []) (h' := ms_H (ms_sA s 48 (upd (upd (upd (s.2.1 48) 0 (s.2.1 29 (s.1 18).toNatClampNeg)) 1 0) 2 6))) (bc' := 0) (bs' := 0) (fun n g => And.intro (by decide) g) ?_
  exact ⟨1, g⟩
