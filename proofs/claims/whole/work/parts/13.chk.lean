/-! every method's code is in order -/
set_option maxRecDepth 100000 in
theorem mm_k0 : ((mm_T.drop 0).take 3).all mm_okM = true := by decide +kernel
set_option maxRecDepth 100000 in
theorem mm_k3 : ((mm_T.drop 3).take 16).all mm_okM = true := by decide +kernel
set_option maxRecDepth 100000 in
theorem mm_k19 : ((mm_T.drop 19).take 9).all mm_okM = true := by decide +kernel
set_option maxRecDepth 100000 in
theorem mm_k28 : ((mm_T.drop 28).take 14).all mm_okM = true := by decide +kernel
set_option maxRecDepth 100000 in
theorem mm_k42 : ((mm_T.drop 42).take 17).all mm_okM = true := by decide +kernel
set_option maxRecDepth 100000 in
theorem mm_k59 : ((mm_T.drop 59).take 13).all mm_okM = true := by decide +kernel
set_option maxRecDepth 100000 in
theorem mm_k72 : ((mm_T.drop 72).take 17).all mm_okM = true := by decide +kernel
set_option maxRecDepth 100000 in
theorem mm_k89 : ((mm_T.drop 89).take 13).all mm_okM = true := by decide +kernel
set_option maxRecDepth 100000 in
theorem mm_k102 : ((mm_T.drop 102).take 14).all mm_okM = true := by decide +kernel
set_option maxRecDepth 100000 in
theorem mm_k116 : ((mm_T.drop 116).take 11).all mm_okM = true := by decide +kernel
set_option maxRecDepth 100000 in
theorem mm_k127 : ((mm_T.drop 127).take 12).all mm_okM = true := by decide +kernel
set_option maxRecDepth 100000 in
theorem mm_k139 : ((mm_T.drop 139).take 19).all mm_okM = true := by decide +kernel
set_option maxRecDepth 100000 in
theorem mm_k158 : ((mm_T.drop 158).take 15).all mm_okM = true := by decide +kernel
set_option maxRecDepth 100000 in
theorem mm_k173 : ((mm_T.drop 173).take 21).all mm_okM = true := by decide +kernel
set_option maxRecDepth 100000 in
theorem mm_k194 : ((mm_T.drop 194).take 18).all mm_okM = true := by decide +kernel
set_option maxRecDepth 100000 in
theorem mm_k212 : ((mm_T.drop 212).take 13).all mm_okM = true := by decide +kernel
set_option maxRecDepth 100000 in
theorem mm_k225 : ((mm_T.drop 225).take 23).all mm_okM = true := by decide +kernel
set_option maxRecDepth 100000 in
theorem mm_k248 : ((mm_T.drop 248).take 14).all mm_okM = true := by decide +kernel
set_option maxRecDepth 100000 in
theorem mm_k262 : ((mm_T.drop 262).take 16).all mm_okM = true := by decide +kernel
theorem mm_splitn {α : Type} (a n : Nat) (l : List α) : l.drop a = (l.drop a).take n ++ l.drop (a + n) := by rw [← List.drop_drop, List.take_append_drop]
set_option maxRecDepth 100000 in
theorem mm_okall : ∀ t ∈ mm_T, mm_okM t = true := by
  have e : mm_T = mm_T.drop 0 := rfl
  rw [e]
  rw [mm_splitn 0 3]
  refine List.forall_mem_append.mpr ⟨fun t ht => List.all_eq_true.mp mm_k0 t ht, ?_⟩
  rw [mm_splitn 3 16]
  refine List.forall_mem_append.mpr ⟨fun t ht => List.all_eq_true.mp mm_k3 t ht, ?_⟩
  rw [mm_splitn 19 9]
  refine List.forall_mem_append.mpr ⟨fun t ht => List.all_eq_true.mp mm_k19 t ht, ?_⟩
  rw [mm_splitn 28 14]
  refine List.forall_mem_append.mpr ⟨fun t ht => List.all_eq_true.mp mm_k28 t ht, ?_⟩
  rw [mm_splitn 42 17]
  refine List.forall_mem_append.mpr ⟨fun t ht => List.all_eq_true.mp mm_k42 t ht, ?_⟩
  rw [mm_splitn 59 13]
  refine List.forall_mem_append.mpr ⟨fun t ht => List.all_eq_true.mp mm_k59 t ht, ?_⟩
  rw [mm_splitn 72 17]
  refine List.forall_mem_append.mpr ⟨fun t ht => List.all_eq_true.mp mm_k72 t ht, ?_⟩
  rw [mm_splitn 89 13]
  refine List.forall_mem_append.mpr ⟨fun t ht => List.all_eq_true.mp mm_k89 t ht, ?_⟩
  rw [mm_splitn 102 14]
  refine List.forall_mem_append.mpr ⟨fun t ht => List.all_eq_true.mp mm_k102 t ht, ?_⟩
  rw [mm_splitn 116 11]
  refine List.forall_mem_append.mpr ⟨fun t ht => List.all_eq_true.mp mm_k116 t ht, ?_⟩
  rw [mm_splitn 127 12]
  refine List.forall_mem_append.mpr ⟨fun t ht => List.all_eq_true.mp mm_k127 t ht, ?_⟩
  rw [mm_splitn 139 19]
  refine List.forall_mem_append.mpr ⟨fun t ht => List.all_eq_true.mp mm_k139 t ht, ?_⟩
  rw [mm_splitn 158 15]
  refine List.forall_mem_append.mpr ⟨fun t ht => List.all_eq_true.mp mm_k158 t ht, ?_⟩
  rw [mm_splitn 173 21]
  refine List.forall_mem_append.mpr ⟨fun t ht => List.all_eq_true.mp mm_k173 t ht, ?_⟩
  rw [mm_splitn 194 18]
  refine List.forall_mem_append.mpr ⟨fun t ht => List.all_eq_true.mp mm_k194 t ht, ?_⟩
  rw [mm_splitn 212 13]
  refine List.forall_mem_append.mpr ⟨fun t ht => List.all_eq_true.mp mm_k212 t ht, ?_⟩
  rw [mm_splitn 225 23]
  refine List.forall_mem_append.mpr ⟨fun t ht => List.all_eq_true.mp mm_k225 t ht, ?_⟩
  rw [mm_splitn 248 14]
  refine List.forall_mem_append.mpr ⟨fun t ht => List.all_eq_true.mp mm_k248 t ht, ?_⟩
  rw [mm_splitn 262 16]
  refine List.forall_mem_append.mpr ⟨fun t ht => List.all_eq_true.mp mm_k262 t ht, ?_⟩
  intro t h
  have e : mm_T.drop (262 + 16) = [] := rfl
  rw [e] at h
  exact absurd h List.not_mem_nil
