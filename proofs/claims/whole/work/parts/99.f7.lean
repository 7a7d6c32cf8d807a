/-! reading: the laws that were read are the reference's -/
theorem gBr2.b1 {a e : Nat} {q : Bool} {U V T : List gIt} {b : Nat} {s : ms_S} (he : e ≤ 840) (h : gBr2 a e q U V T b s) : gBr1 q U V T b s := by
  obtain ⟨c, c0, c1, c2⟩ := h
  exact ⟨c, by omega, c2⟩
theorem gBrs_of {a e : Nat} {F : List gIt} {s : ms_S} (he : e ≤ 840) : ∀ {L : List gB3} {b : Nat}, gBs2 a e L b s → gBr2 a e false [] [] F (b + L.length) s → gBrs L F b s
  | [], _, _, h => h.b1 he
  | x :: L, b, h, k => ⟨h.1.b1 he, gBrs_of he h.2 (by
      have e : b + (x :: L).length = b + 1 + L.length := by rw [List.length_cons]; omega
      rw [e] at k
      exact k)⟩
theorem gMLb.k {lv c B k : Nat} {o : Option gLd} {s n : ms_S} (hlv : lv ≤ 1) (h18 : s.1 18 = nI lv) (hc : c ≤ 420 * lv + 420) (hB : B ≤ 130 * lv + 130) (hk : k < 4) (h : gMLb lv c B k o s) (hq : gLq n s) : gMLk lv k o n := by
  obtain ⟨q1, q2, q3⟩ := hq.2 lv hlv h18
  have h31 := q1 31 (by decide) k hk
  have h32 := q1 32 (by decide) k hk
  have hr : ∀ j, j ∈ [34, 35, 36, 37, 38] → ∀ i, 130 * lv ≤ i → i < B → n.2.1 j i = s.2.1 j i := fun j hj i h1 h2 => by
    have := q2 j hj (i - 130 * lv) (by omega)
    rw [show 130 * lv + (i - 130 * lv) = i by omega] at this
    exact this
  have hcd : ∀ j, 420 * lv ≤ j → j < c → n.2.1 40 j = s.2.1 40 j ∧ n.2.1 41 j = s.2.1 41 j := fun j h1 h2 => by
    have a1 := q3 40 (by decide) (j - 420 * lv) (by omega)
    have a2 := q3 41 (by decide) (j - 420 * lv) (by omega)
    rw [show 420 * lv + (j - 420 * lv) = j by omega] at a1 a2
    exact ⟨a1, a2⟩
  cases o with
  | none =>
    have h : s.2.1 31 (4 * lv + k) = s.2.1 32 (4 * lv + k) := h
    show n.2.1 31 (4 * lv + k) = n.2.1 32 (4 * lv + k)
    rw [h31, h32, h]
  | some d =>
    obtain ⟨b, b1, b2, b3, b4, b5, b6, b7⟩ := h
    refine ⟨b, by omega, h31.trans b3, h32.trans b4, ?_, b7⟩
    exact gBrs_of (e := c) (a := 420 * lv) (by omega) (b5.mv (Nat.le_refl _) (fun j hj i h1 h2 => hr j hj i (by omega) (by omega)) hcd) (b6.mv (Nat.le_refl _) (fun j hj => hr j hj _ (by omega) (by omega)) hcd)
theorem ML_of {g : gT} {LW : Nat → Option gLd} {lv c B : Nat} {s : ms_S} (hlv : lv ≤ 1) (h18 : s.1 18 = nI lv) (hg : ∀ k v, k < 4 → g.2.2.2 k v = gLfn LW k v) (hc : c ≤ 420 * lv + 420) (hB : B ≤ 130 * lv + 130) (hk : ∀ k, k < 4 → gMLb lv c B k (LW k) s) : ML g s := by
  refine ⟨(ML_old hlv h18 hg (fun k h4 => (hk k h4).k hlv h18 hc hB h4 (gLq.of (fun j _ => ⟨rfl, rfl⟩)))).1, fun s2 hq k h4 => ?_⟩
  exact (ML_old (s := s2) hlv (hq.1.trans h18) hg (fun k h4 => (hk k h4).k hlv h18 hc hB h4 hq)).2 s2 (fun j _ => ⟨rfl, rfl⟩) k h4
