/-! going through all standings from one -/
def gB1 (nx : Nat → Nat → Option Nat) (x w : Nat) (q : List Nat × (Nat → Nat)) : List Nat × (Nat → Nat) := match nx x w with
  | none => q
  | some u => if u ∈ q.1 then q else (q.1 ++ [u], fun y => if y = u then q.2 x + 1 else q.2 y)
def gB7 (nx : Nat → Nat → Option Nat) (x : Nat) (q : List Nat × (Nat → Nat)) : Nat → List Nat × (Nat → Nat)
  | 0 => q
  | k + 1 => gB1 nx x k (gB7 nx x q k)
def gBn (nx : Nat → Nat → Option Nat) (st0 : Nat) : Nat → List Nat × (Nat → Nat)
  | 0 => ([st0], fun _ => 0)
  | i + 1 => match (gBn nx st0 i).1[i]? with
    | none => gBn nx st0 i
    | some x => gB7 nx x (gBn nx st0 i) 7
noncomputable def gBf (nx : Nat → Nat → Option Nat) (st0 : Nat) : List Nat × (Nat → Nat) := gBn nx st0 g294
theorem gBf_eq {nx : Nat → Nat → Option Nat} {st0 N : Nat} (h : N = 294) : gBf nx st0 = gBn nx st0 N := by
  unfold gBf
  rw [g294_eq, h]
def gBo (nw : Nat) (q : List Nat × (Nat → Nat)) : Prop := q.1.Nodup ∧ ∀ u ∈ q.1, gSt nw u ∧ q.2 u < q.1.length
theorem g_nodup : ∀ {n : Nat} {L : List Nat}, L.Nodup → (∀ u ∈ L, u < n) → L.length ≤ n
  | 0, L, _, h => by
    cases L with
    | nil => exact Nat.le_refl 0
    | cons a l => exact absurd (h a (List.mem_cons_self)) (by omega)
  | n + 1, L, hd, h => by
    by_cases hm : n ∈ L
    · have h1 := @g_nodup n (L.erase n) (hd.erase n) (fun u hu => by
        rw [hd.mem_erase_iff] at hu
        have := h u hu.2
        omega)
      rw [List.length_erase_of_mem hm] at h1
      omega
    · have h1 := @g_nodup n L hd (fun u hu => by
        have := h u hu
        have hne : ¬ u = n := fun e => hm (e ▸ hu)
        omega)
      omega
theorem gBo.len {nw : Nat} {q : List Nat × (Nat → Nat)} (h : gBo nw q) : q.1.length ≤ 294 := g_nodup h.1 (fun u hu => (h.2 u hu).1.1)
theorem gBo.lt {nw u : Nat} {q : List Nat × (Nat → Nat)} (h : gBo nw q) (hu : gSt nw u) (hn : ¬ u ∈ q.1) : q.1.length < 294 := by
  have h1 : (u :: q.1).length ≤ 294 := g_nodup (List.nodup_cons.mpr ⟨hn, h.1⟩) (fun v hv => by
    rcases List.mem_cons.mp hv with rfl | hv
    · exact hu.1
    · exact (h.2 v hv).1.1)
  rw [List.length_cons] at h1
  omega
theorem gB1_ok {nx : Nat → Nat → Option Nat} {nw x w : Nat} {q : List Nat × (Nat → Nat)} (hok : ∀ u, nx x w = some u → gSt nw u) (h : gBo nw q) (hx : x ∈ q.1) : gBo nw (gB1 nx x w q) ∧ (∀ u, u ∈ q.1 → u ∈ (gB1 nx x w q).1) ∧ (∀ (j : Nat) (v : Nat), q.1[j]? = some v → (gB1 nx x w q).1[j]? = some v) ∧ (∀ u, nx x w = some u → u ∈ (gB1 nx x w q).1) := by
  unfold gB1
  cases hu : nx x w with
  | none => exact ⟨h, fun _ k => k, fun _ _ k => k, fun _ k => by cases k⟩
  | some u =>
    simp only
    by_cases hm : u ∈ q.1
    · rw [if_pos hm]
      exact ⟨h, fun _ k => k, fun _ _ k => k, fun v k => by cases k; exact hm⟩
    · rw [if_neg hm]
      refine ⟨⟨?_, fun v hv => ?_⟩, fun v hv => List.mem_append_left _ hv, fun j v hj => ?_, fun v k => by cases k; exact List.mem_append_right _ (List.mem_singleton.mpr rfl)⟩
      · refine List.nodup_append.mpr ⟨h.1, List.nodup_cons.mpr ⟨List.not_mem_nil, List.nodup_nil⟩, ?_⟩
        intro a ha b hb
        rw [List.mem_singleton] at hb
        subst hb
        intro e
        subst e
        exact hm ha
      · show gSt nw v ∧ (if v = u then q.2 x + 1 else q.2 v) < (q.1 ++ [u]).length
        rw [List.length_append]
        by_cases he : v = u
        · subst he
          rw [if_pos rfl]
          have := (h.2 x hx).2
          exact ⟨hok v hu, by show _ < _ + 1; omega⟩
        · rw [if_neg he]
          rcases List.mem_append.mp hv with k | k
          · have := (h.2 v k)
            exact ⟨this.1, by show _ < _ + 1; omega⟩
          · exact absurd (List.mem_singleton.mp k) he
      · show (q.1 ++ [u])[j]? = some v
        have hj2 : j < q.1.length := by
          rcases Nat.lt_or_ge j q.1.length with k | k
          · exact k
          · rw [List.getElem?_eq_none k] at hj; cases hj
        rw [List.getElem?_append_left hj2]
        exact hj
theorem gB7_ok {nx : Nat → Nat → Option Nat} {nw x : Nat} {q : List Nat × (Nat → Nat)} (h : gBo nw q) (hx : x ∈ q.1) : ∀ k : Nat, (∀ w u, w < k → nx x w = some u → gSt nw u) → gBo nw (gB7 nx x q k) ∧ (∀ u, u ∈ q.1 → u ∈ (gB7 nx x q k).1) ∧ (∀ (j : Nat) (v : Nat), q.1[j]? = some v → (gB7 nx x q k).1[j]? = some v) ∧ (∀ w u, w < k → nx x w = some u → u ∈ (gB7 nx x q k).1)
  | 0, _ => ⟨h, fun _ k => k, fun _ _ k => k, fun w _ k => absurd k (by omega)⟩
  | k + 1, hok => by
    obtain ⟨h1, h2, h3, h4⟩ := gB7_ok h hx k (fun w u hw => hok w u (by omega))
    obtain ⟨k1, k2, k3, k4⟩ := gB1_ok (w := k) (fun u => hok k u (by omega)) h1 (h2 x hx)
    refine ⟨k1, fun u hu => k2 u (h2 u hu), fun j v hj => k3 j v (h3 j v hj), fun w u hw hu => ?_⟩
    by_cases he : w = k
    · subst he; exact k4 u hu
    · exact k2 u (h4 w u (by omega) hu)
theorem g_mem {L : List Nat} {j v : Nat} (h : L[j]? = some v) : v ∈ L := List.mem_of_getElem? h
theorem gBn_ok {nx : Nat → Nat → Option Nat} {nw st0 : Nat} (h0 : gSt nw st0) (hok : ∀ st w u, gSt nw st → w < 7 → nx st w = some u → gSt nw u) : ∀ i, gBo nw (gBn nx st0 i) ∧ (gBn nx st0 i).1[0]? = some st0 ∧ ∀ j x, j < i → (gBn nx st0 i).1[j]? = some x → ∀ w u, w < 7 → nx x w = some u → u ∈ (gBn nx st0 i).1
  | 0 => ⟨⟨List.nodup_cons.mpr ⟨List.not_mem_nil, List.nodup_nil⟩, fun u hu => by
      rw [List.mem_singleton.mp hu]
      exact ⟨h0, Nat.zero_lt_one⟩⟩, rfl, fun j _ hj => absurd hj (by omega)⟩
  | i + 1 => by
    obtain ⟨h1, h2, h3⟩ := gBn_ok h0 hok i
    simp only [gBn]
    cases hx : (gBn nx st0 i).1[i]? with
    | none =>
      refine ⟨h1, h2, fun j x hj hxj => ?_⟩
      by_cases he : j = i
      · subst he; rw [hx] at hxj; cases hxj
      · exact h3 j x (by omega) hxj
    | some x =>
      simp only
      have hm := g_mem hx
      obtain ⟨k1, k2, k3, k4⟩ := gB7_ok h1 hm 7 (fun w u hw => hok x w u (h1.2 x hm).1 hw)
      refine ⟨k1, k3 0 st0 h2, fun j y hj hy w u hw hu => ?_⟩
      by_cases he : j = i
      · subst he
        rw [k3 j x hx] at hy
        cases hy
        exact k4 w u hw hu
      · have hlt : j < (gBn nx st0 i).1.length := by
          have : i < (gBn nx st0 i).1.length := by
            rcases Nat.lt_or_ge i (gBn nx st0 i).1.length with k | k
            · exact k
            · rw [List.getElem?_eq_none k] at hx; cases hx
          omega
        have hy2 : (gBn nx st0 i).1[j]? = some y := by
          have h4 := k3 j _ (List.getElem?_eq_getElem hlt)
          rw [h4] at hy
          rw [List.getElem?_eq_getElem hlt]
          exact hy
        exact k2 u (h3 j y (by omega) hy2 w u hw hu)
theorem gBn_st {nx : Nat → Nat → Option Nat} {st0 i : Nat} (h : (gBn nx st0 i).1.length ≤ i) : ∀ k, gBn nx st0 (i + k) = gBn nx st0 i
  | 0 => rfl
  | k + 1 => by
    have ih := gBn_st h k
    show gBn nx st0 (i + k + 1) = _
    simp only [gBn]
    rw [ih, List.getElem?_eq_none (by omega)]
theorem gBn_end {nx : Nat → Nat → Option Nat} {nw st0 i : Nat} (h0 : gSt nw st0) (hok : ∀ st w u, gSt nw st → w < 7 → nx st w = some u → gSt nw u) (h : (gBn nx st0 i).1.length ≤ i) : gBn nx st0 i = gBf nx st0 := by
  obtain ⟨N, hN⟩ : ∃ N, N = 294 := ⟨294, rfl⟩
  rw [gBf_eq hN]
  have h1 := (gBn_ok h0 hok N).1.len
  rcases Nat.le_total i N with k | k
  · have := gBn_st h (N - i)
    rw [Nat.add_sub_cancel' k] at this
    exact this.symm
  · have := gBn_st (i := N) (by omega) (i - N) (nx := nx) (st0 := st0)
    rw [Nat.add_sub_cancel' k] at this
    exact this
/-- the last list is closed -/
theorem gBf_ok {nx : Nat → Nat → Option Nat} {nw st0 : Nat} (h0 : gSt nw st0) (hok : ∀ st w u, gSt nw st → w < 7 → nx st w = some u → gSt nw u) : gBo nw (gBf nx st0) ∧ (gBf nx st0).1[0]? = some st0 ∧ ∀ x w u, x ∈ (gBf nx st0).1 → w < 7 → nx x w = some u → u ∈ (gBf nx st0).1 := by
  obtain ⟨N, hN⟩ : ∃ N, N = 294 := ⟨294, rfl⟩
  rw [gBf_eq hN]
  obtain ⟨h1, h2, h3⟩ := gBn_ok h0 hok N
  refine ⟨h1, h2, fun x w u hx hw hu => ?_⟩
  obtain ⟨j, hj⟩ := List.getElem?_of_mem hx
  refine h3 j x ?_ hj w u hw hu
  have := h1.len
  rcases Nat.lt_or_ge j (gBn nx st0 N).1.length with k | k
  · omega
  · rw [List.getElem?_eq_none k] at hj; cases hj
/-- rows that hold a list and its depths -/
def gBv (ph : Nat → Nat) (nw : Nat) (q : List Nat × (Nat → Nat)) (l d : Nat → Int32) (z : Int32) : Prop := z = nI q.1.length ∧ (∀ (j : Nat) (x : Nat), q.1[j]? = some x → l j = nI (ph x)) ∧ ∀ u, gSt nw u → d (ph u) = if u ∈ q.1 then nI (q.2 u) else -1
theorem gBv_add {ph : Nat → Nat} {nw x u : Nat} {q : List Nat × (Nat → Nat)} {l d : Nat → Int32} {z : Int32} (hph : ∀ a b, ph a = ph b → a = b) (h : gBv ph nw q l d z) (hu : ¬ u ∈ q.1) : gBv ph nw (q.1 ++ [u], fun y => if y = u then q.2 x + 1 else q.2 y) (upd l q.1.length (nI (ph u))) (upd d (ph u) (nI (q.2 x) + 1)) (z + 1) := by
  obtain ⟨h1, h2, h3⟩ := h
  refine ⟨?_, fun j y hj => ?_, fun v hv => ?_⟩
  · rw [h1, List.length_append]
    exact nI_1 _
  · rcases Nat.lt_or_ge j q.1.length with k | k
    · rw [upd_ne (by omega)]
      refine h2 j y ?_
      rw [← hj]
      exact (List.getElem?_append_left k).symm
    · have hlt : j < (q.1 ++ [u]).length := by
        rcases Nat.lt_or_ge j (q.1 ++ [u]).length with k2 | k2
        · exact k2
        · rw [List.getElem?_eq_none k2] at hj; cases hj
      rw [List.length_append] at hlt
      have he : j = q.1.length := by
        have : j < q.1.length + 1 := hlt
        omega
      subst he
      rw [upd_eq]
      have : (q.1 ++ [u])[q.1.length]? = some u := by
        rw [List.getElem?_append_right (Nat.le_refl _), Nat.sub_self]
        rfl
      rw [this] at hj
      cases hj
      rfl
  · by_cases he : v = u
    · subst he
      rw [upd_eq]
      show _ = if v ∈ q.1 ++ [v] then nI (if v = v then _ else _) else _
      rw [if_pos (List.mem_append_right _ (List.mem_singleton.mpr rfl)), if_pos rfl]
      exact nI_1 _
    · rw [upd_ne (fun e => he (hph _ _ e)), h3 v hv]
      show _ = if v ∈ q.1 ++ [u] then nI (if v = u then _ else _) else _
      rw [if_neg he]
      by_cases hm : v ∈ q.1
      · rw [if_pos hm, if_pos (List.mem_append_left _ hm)]
      · rw [if_neg hm, if_neg (fun k => by
          rcases List.mem_append.mp k with k | k
          · exact hm k
          · exact he (List.mem_singleton.mp k))]
