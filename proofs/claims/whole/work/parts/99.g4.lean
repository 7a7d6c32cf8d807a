/-! reading: the pair -/
theorem m_wrong28 {m m2 : ms_S} {a b : Int32} {A : Nat → Int32} (h : mf_wrong m a b = some m2) : mf_wrong (ms_sA m 28 A) a b = some (ms_sA m2 28 A) := by
  unfold mf_wrong at h ⊢
  show (mo_ag 403 (m.2.1 6) b).bind (fun x_1 => if (0 : Int32) < m.1 13 then some (ms_sA m 28 A) else if m.1 15 = 0 then some (ms_sI (ms_sI (ms_sA m 28 A) 15 a) 16 x_1) else if m.1 16 < x_1 then some (ms_sA m 28 A) else if x_1 = m.1 16 then (if a < m.1 15 then some (ms_sI (ms_sI (ms_sA m 28 A) 15 a) 16 x_1) else some (ms_sA m 28 A)) else some (ms_sI (ms_sI (ms_sA m 28 A) 15 a) 16 x_1)) = _
  cases hx : mo_ag 403 (m.2.1 6) b with
  | none => rw [hx] at h; cases h
  | some x =>
    rw [hx] at h
    have h : (if (0 : Int32) < m.1 13 then some m else if m.1 15 = 0 then some (ms_sI (ms_sI m 15 a) 16 x) else if m.1 16 < x then some m else if x = m.1 16 then (if a < m.1 15 then some (ms_sI (ms_sI m 15 a) 16 x) else some m) else some (ms_sI (ms_sI m 15 a) 16 x)) = some m2 := h
    show (if (0 : Int32) < m.1 13 then some (ms_sA m 28 A) else if m.1 15 = 0 then some (ms_sI (ms_sI (ms_sA m 28 A) 15 a) 16 x) else if m.1 16 < x then some (ms_sA m 28 A) else if x = m.1 16 then (if a < m.1 15 then some (ms_sI (ms_sI (ms_sA m 28 A) 15 a) 16 x) else some (ms_sA m 28 A)) else some (ms_sI (ms_sI (ms_sA m 28 A) 15 a) 16 x)) = some (ms_sA m2 28 A)
    have e1 : some m = some m2 → some (ms_sA m 28 A) = some (ms_sA m2 28 A) := fun e => by rw [Option.some.inj e]
    have e2 : some (ms_sI (ms_sI m 15 a) 16 x) = some m2 → some (ms_sI (ms_sI (ms_sA m 28 A) 15 a) 16 x) = some (ms_sA m2 28 A) := fun e => by
      rw [← Option.some.inj e]
      rfl
    split at h
    · rename_i c
      rw [if_pos c]
      exact e1 h
    · rename_i c
      rw [if_neg c]
      split at h
      · rename_i c
        rw [if_pos c]
        exact e2 h
      · rename_i c
        rw [if_neg c]
        split at h
        · rename_i c
          rw [if_pos c]
          exact e1 h
        · rename_i c
          rw [if_neg c]
          split at h
          · rename_i c
            rw [if_pos c]
            split at h
            · rename_i c
              rw [if_pos c]
              exact e2 h
            · rename_i c
              rw [if_neg c]
              exact e1 h
          · rename_i c
            rw [if_neg c]
            exact e2 h
