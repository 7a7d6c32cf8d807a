/-! reading: what may change, and later faults that stay -/
def xsH (Ki Ka Kl : List Nat) (s t : xs_S) : Prop := (∀ j, ¬ j ∈ Ki → t.1 j = s.1 j) ∧ (∀ j, ¬ j ∈ Ka → t.2.1 j = s.2.1 j) ∧ (∀ j, ¬ j ∈ Kl → t.2.2.1 j = s.2.2.1 j) ∧ t.2.2.2 = s.2.2.2
theorem xsH.rf {Ki Ka Kl : List Nat} {s : xs_S} : xsH Ki Ka Kl s s := ⟨fun _ _ => rfl, fun _ _ => rfl, fun _ _ => rfl, rfl⟩
theorem xsH.tr {Ki Ka Kl : List Nat} {s t u : xs_S} (h : xsH Ki Ka Kl s t) (h2 : xsH Ki Ka Kl t u) : xsH Ki Ka Kl s u := ⟨fun j hj => (h2.1 j hj).trans (h.1 j hj), fun j hj => (h2.2.1 j hj).trans (h.2.1 j hj), fun j hj => (h2.2.2.1 j hj).trans (h.2.2.1 j hj), h2.2.2.2.trans h.2.2.2⟩
theorem xsH.wk {Ki Ka Kl Ki2 Ka2 Kl2 : List Nat} {s t : xs_S} (h : xsH Ki Ka Kl s t) (h1 : ∀ j ∈ Ki, j ∈ Ki2) (h2 : ∀ j ∈ Ka, j ∈ Ka2) (h3 : ∀ j ∈ Kl, j ∈ Kl2) : xsH Ki2 Ka2 Kl2 s t := ⟨fun j hj => h.1 j (fun q => hj (h1 j q)), fun j hj => h.2.1 j (fun q => hj (h2 j q)), fun j hj => h.2.2.1 j (fun q => hj (h3 j q)), h.2.2.2⟩
theorem xsF.h {Ki Ka Ki2 Ka2 Kl : List Nat} {s t : xs_S} (h : xsF Ki Ka s t) (h1 : ∀ j ∈ Ki, j ∈ Ki2) (h2 : ∀ j ∈ Ka, j ∈ Ka2) : xsH Ki2 Ka2 Kl s t := ⟨fun j hj => h.1 j (fun q => hj (h1 j q)), fun j hj => h.2.1 j (fun q => hj (h2 j q)), fun j _ => by rw [h.2.2.1], h.2.2.2⟩
def msH (Ki Ka Kl : List Nat) (m n : ms_S) : Prop := (∀ j, ¬ j ∈ Ki → n.1 j = m.1 j) ∧ (∀ j, ¬ j ∈ Ka → n.2.1 j = m.2.1 j) ∧ (∀ j, ¬ j ∈ Kl → n.2.2 j = m.2.2 j)
theorem msH.rf {Ki Ka Kl : List Nat} {m : ms_S} : msH Ki Ka Kl m m := ⟨fun _ _ => rfl, fun _ _ => rfl, fun _ _ => rfl⟩
theorem msH.tr {Ki Ka Kl : List Nat} {m n o : ms_S} (h : msH Ki Ka Kl m n) (h2 : msH Ki Ka Kl n o) : msH Ki Ka Kl m o := ⟨fun j hj => (h2.1 j hj).trans (h.1 j hj), fun j hj => (h2.2.1 j hj).trans (h.2.1 j hj), fun j hj => (h2.2.2 j hj).trans (h.2.2 j hj)⟩
theorem msH.wk {Ki Ka Kl Ki2 Ka2 Kl2 : List Nat} {m n : ms_S} (h : msH Ki Ka Kl m n) (h1 : ∀ j ∈ Ki, j ∈ Ki2) (h2 : ∀ j ∈ Ka, j ∈ Ka2) (h3 : ∀ j ∈ Kl, j ∈ Kl2) : msH Ki2 Ka2 Kl2 m n := ⟨fun j hj => h.1 j (fun q => hj (h1 j q)), fun j hj => h.2.1 j (fun q => hj (h2 j q)), fun j hj => h.2.2 j (fun q => hj (h3 j q))⟩
theorem msF.h {K Ki Ka Kl : List Nat} {m n : ms_S} (h : msF K m n) (h1 : ∀ j ∈ K, j ∈ Ki) (h2 : ∀ j ∈ K, j ∈ Ka) : msH Ki Ka Kl m n := ⟨fun j hj => h.i j (fun q => hj (h1 j q)), fun j hj => h.a j (fun q => hj (h2 j q)), fun j _ => by rw [h.2]⟩
/-- in the reference only the side sd changes -/
def gSq (sd : Nat) (m n : ms_S) : Prop := (∀ j, j ∈ [23, 25, 27, 28, 29, 30] → ∀ i, ¬ i = sd → n.2.1 j i = m.2.1 j i) ∧ (∀ i, ¬ (5 * sd ≤ i ∧ i < 5 * sd + 5) → n.2.1 24 i = m.2.1 24 i) ∧ (∀ i, ¬ (6 * sd ≤ i ∧ i < 6 * sd + 6) → n.2.1 26 i = m.2.1 26 i) ∧ (∀ j, j ∈ [31, 32] → ∀ i, ¬ (4 * sd ≤ i ∧ i < 4 * sd + 4) → n.2.1 j i = m.2.1 j i) ∧ (∀ j, j ∈ [34, 35, 36, 37, 38] → ∀ i, ¬ (130 * sd ≤ i ∧ i < 130 * sd + 130) → n.2.1 j i = m.2.1 j i) ∧ gCq sd m n
theorem gSq.tr {sd : Nat} {m n o : ms_S} (h : gSq sd m n) (k : gSq sd n o) : gSq sd m o := ⟨fun j hj i hi => (k.1 j hj i hi).trans (h.1 j hj i hi), fun i hi => (k.2.1 i hi).trans (h.2.1 i hi), fun i hi => (k.2.2.1 i hi).trans (h.2.2.1 i hi), fun j hj i hi => (k.2.2.2.1 j hj i hi).trans (h.2.2.2.1 j hj i hi), fun j hj i hi => (k.2.2.2.2.1 j hj i hi).trans (h.2.2.2.2.1 j hj i hi), h.2.2.2.2.2.tr k.2.2.2.2.2⟩
theorem gSq.fr {sd : Nat} {m n : ms_S} (h : ∀ j, j ∈ [23, 25, 27, 28, 29, 30, 24, 26, 31, 32, 34, 35, 36, 37, 38, 40, 41] → n.2.1 j = m.2.1 j) : gSq sd m n := by
  have w : ∀ (L : List Nat), (∀ j ∈ L, j ∈ [23, 25, 27, 28, 29, 30, 24, 26, 31, 32, 34, 35, 36, 37, 38, 40, 41]) → ∀ j ∈ L, ∀ i : Nat, n.2.1 j i = m.2.1 j i := fun L hL j hj i => by rw [h j (hL j hj)]
  exact ⟨fun j hj i _ => w _ (by decide) j hj i, fun i _ => by rw [h 24 (by decide)], fun i _ => by rw [h 26 (by decide)], fun j hj i _ => w _ (by decide) j hj i, fun j hj i _ => w _ (by decide) j hj i, fun i _ => ⟨by rw [h 40 (by decide)], by rw [h 41 (by decide)]⟩⟩
theorem msF.sq {K : List Nat} {sd : Nat} {m n : ms_S} (h : msF K m n) (hK : ∀ j, j ∈ [23, 25, 27, 28, 29, 30, 24, 26, 31, 32, 34, 35, 36, 37, 38, 40, 41] → ¬ j ∈ K) : gSq sd m n := gSq.fr (fun j hj => h.a j (hK j hj))
theorem gSq.s1 {sd j : Nat} {m n : ms_S} (hj : j ∈ [23, 25, 27, 28, 29, 30]) (hr : ∀ k, ¬ k = j → n.2.1 k = m.2.1 k) (hs : ∀ i, ¬ i = sd → n.2.1 j i = m.2.1 j i) : gSq sd m n := by
  have w : ∀ (L : List Nat), (∀ k ∈ [23, 25, 27, 28, 29, 30], ¬ k ∈ L) → ∀ k ∈ L, ∀ i : Nat, n.2.1 k i = m.2.1 k i := fun L hL k hk i => by rw [hr k (fun e => hL j hj (e ▸ hk))]
  refine ⟨fun k hk i hi => ?_, fun i _ => w [24] (by decide) 24 (by decide) i, fun i _ => w [26] (by decide) 26 (by decide) i, fun j hj i _ => w _ (by decide) j hj i, fun j hj i _ => w _ (by decide) j hj i, fun i _ => ⟨w [40] (by decide) 40 (by decide) i, w [41] (by decide) 41 (by decide) i⟩⟩
  by_cases e : k = j
  · rw [e]
    exact hs i hi
  · rw [hr k e]
theorem gSq.s24 {sd : Nat} {m n : ms_S} (hr : ∀ k, ¬ k = 24 → n.2.1 k = m.2.1 k) (hs : ∀ i, ¬ (5 * sd ≤ i ∧ i < 5 * sd + 5) → n.2.1 24 i = m.2.1 24 i) : gSq sd m n := by
  have w : ∀ (L : List Nat), ¬ 24 ∈ L → ∀ k ∈ L, ∀ i : Nat, n.2.1 k i = m.2.1 k i := fun L hL k hk i => by rw [hr k (fun e => hL (e ▸ hk))]
  exact ⟨fun j hj i _ => w _ (by decide) j hj i, hs, fun i _ => w [26] (by decide) 26 (by decide) i, fun j hj i _ => w _ (by decide) j hj i, fun j hj i _ => w _ (by decide) j hj i, fun i _ => ⟨w [40] (by decide) 40 (by decide) i, w [41] (by decide) 41 (by decide) i⟩⟩
theorem gSq.s26 {sd : Nat} {m n : ms_S} (hr : ∀ k, ¬ k = 26 → n.2.1 k = m.2.1 k) (hs : ∀ i, ¬ (6 * sd ≤ i ∧ i < 6 * sd + 6) → n.2.1 26 i = m.2.1 26 i) : gSq sd m n := by
  have w : ∀ (L : List Nat), ¬ 26 ∈ L → ∀ k ∈ L, ∀ i : Nat, n.2.1 k i = m.2.1 k i := fun L hL k hk i => by rw [hr k (fun e => hL (e ▸ hk))]
  exact ⟨fun j hj i _ => w _ (by decide) j hj i, fun i _ => w [24] (by decide) 24 (by decide) i, hs, fun j hj i _ => w _ (by decide) j hj i, fun j hj i _ => w _ (by decide) j hj i, fun i _ => ⟨w [40] (by decide) 40 (by decide) i, w [41] (by decide) 41 (by decide) i⟩⟩
theorem gFl.sq {sd : Nat} {m n : ms_S} (h : gFl sd m n) : gSq sd m n := by
  have w : ∀ (L : List Nat), (∀ k ∈ L, ¬ k ∈ 31 :: 32 :: gKl) → ∀ k ∈ L, ∀ i : Nat, n.2.1 k i = m.2.1 k i := fun L hL k hk i => by rw [h.1.a k (hL k hk)]
  exact ⟨fun j hj i _ => w _ (by decide) j hj i, fun i _ => w [24] (by decide) 24 (by decide) i, fun i _ => w [26] (by decide) 26 (by decide) i, h.2.2.2, h.2.1, h.2.2.1⟩
/-! a later fault stays -/
def q15 (m n : ms_S) : Prop := n.1 15 = 0 → m.1 15 = 0
theorem q15_wrong {m : ms_S} {f : Nat} {a : Int32} (hf : 3 ≤ f) (hf2 : f ≤ 5) : qO (mf_wrong m (nI f) a) (q15 m) := by
  have n5 : ∀ f, f < 6 → 3 ≤ f → ¬ nI f = (0 : Int32) := by decide
  have k : ∀ x, q15 m (ms_sI (ms_sI m 15 (nI f)) 16 x) := fun x e => absurd e (n5 f (by omega) hf)
  unfold mf_wrong
  exact qO_any (fun x => qO_if (fun _ => qO_some id) (fun _ => qO_if (fun _ => qO_some (k x)) (fun _ => qO_if (fun _ => qO_some id) (fun _ => qO_if (fun _ => qO_if (fun _ => qO_some (k x)) (fun _ => qO_some id)) (fun _ => qO_some (k x))))))
theorem q15_fail {m : ms_S} {a : Int32} : qO (mf_fail m a) (fun n => n.1 15 = m.1 15) := by
  unfold mf_fail
  exact qO_if (fun _ => qO_any (fun x => qO_some rfl)) (fun _ => qO_some rfl)
theorem q15_goesOn {m : ms_S} : qO (mf_goesOn m) (fun n => n.1 15 = m.1 15) := by
  unfold mf_goesOn
  exact qO_if (fun _ => qO_bd q15_fail (fun n h => qO_some h)) (fun _ => qO_some rfl)
theorem q15_must {m : ms_S} {a : Int32} : qO (mf_must m a) (fun n => n.1 15 = m.1 15) := by
  unfold mf_must
  refine qO_bd q_is (fun r hr => ?_)
  obtain ⟨r1, r2⟩ := r
  obtain ⟨h1, -⟩ := hr
  have h1 : r2 = m := h1
  subst h1
  exact qO_if (fun _ => qO_bd q15_fail (fun n h => qO_some h)) (fun _ => qO_bd q15_goesOn (fun n h => qO_some h))
theorem q15_bounded {m : ms_S} {a b : Int32} : qO (mf_bounded m a b) (fun n => q15 m n.2) := by
  have j7 : ∀ v, qO (mf_bounded_j7 m v) (fun n => q15 m n.2) := by
    intro v
    unfold mf_bounded_j7
    exact qO_bd q15_fail (fun n h => qO_some (fun e => h.symm.trans e))
  have j29 : ∀ v n, q15 m n → qO (mf_bounded_j29 n v) (fun n => q15 m n.2) := by
    intro v n hn
    unfold mf_bounded_j29
    exact qO_bd q15_goesOn (fun k h => qO_some (fun e => hn (h.symm.trans e)))
  have j24 : ∀ v, qO (mf_bounded_j24 m v) (fun n => q15 m n.2) := by
    intro v
    unfold mf_bounded_j24
    exact qO_bd (q15_wrong (f := 5) (by omega) (by omega)) (fun n h => j29 v n h)
  unfold mf_bounded
  refine qO_if (fun _ => j7 a) (fun _ => qO_bd q_is (fun r hr => ?_))
  obtain ⟨r1, r2⟩ := r
  obtain ⟨h1, -⟩ := hr
  have h1 : r2 = m := h1
  subst h1
  exact qO_if (fun _ => j7 a) (fun _ => qO_any (fun x => qO_if (fun _ => j24 x) (fun _ => qO_if (fun _ => j29 x _ id) (fun _ => j24 x))))
theorem q15_named {m : ms_S} : qO (mf_named m) (fun n => q15 m n.2) := by
  unfold mf_named
  refine qO_bd q15_must (fun m1 h1 => qO_bd (qO_loop (I := fun p : Int32 × ms_S => q15 m p.2) (Q := fun n => q15 m n) ?_ (show q15 m m1 from fun e => h1.symm.trans e)) (fun n h => qO_some h))
  rintro ⟨w, n⟩ hn
  have hn : q15 m n := hn
  unfold mf_named_l8
  refine qO_if (fun _ => qO_inr hn) (fun _ => qO_if (fun _ => qO_any (fun x => qO_any (fun y => qO_if (fun _ => qO_bd (q15_wrong (f := 3) (by omega) (by omega)) (fun k h => ?_)) (fun _ => ?_)))) (fun _ => qO_inr hn))
  · unfold mf_named_j29
    exact qO_inl (show q15 m k from fun e => hn (h e))
  · unfold mf_named_j29
    exact qO_inl hn
theorem q15_known {m : ms_S} : qO (mf_known m) (fun n => q15 m n.2) := by
  unfold mf_known
  refine qO_bd q15_must (fun m1 h1 => qO_if (fun _ => qO_bd (qO_loop (I := fun p : Int32 × ms_S => q15 m p.2) (Q := fun r : (Int32 × ms_S) ⊕ ms_S => (∀ n, r = .inl n → q15 m n.2) ∧ ∀ n, r = .inr n → q15 m n) ?_ (show q15 m m1 from fun e => h1.symm.trans e)) ?_) (fun _ => qO_some (show q15 m m1 from fun e => h1.symm.trans e)))
  · rintro ⟨w, n⟩ hn
    have hn : q15 m n := hn
    unfold mf_known_l13
    refine qO_if (fun _ => qO_inr ⟨fun _ e => (by cases e), fun _ e => (by cases e; exact hn)⟩) (fun _ => qO_any (fun x => qO_any (fun y => qO_if (fun _ => qO_any (fun z => qO_if (fun _ => ?_) (fun _ => qO_inr ⟨fun _ e => (by cases e; exact hn), fun _ e => (by cases e)⟩))) (fun _ => ?_))))
    · unfold mf_known_j38
      exact qO_inl hn
    · unfold mf_known_j38
      exact qO_inl hn
  · rintro (⟨w, n⟩ | n) ⟨k1, k2⟩
    · exact qO_any (fun x => qO_some (show q15 m n from k1 (w, n) rfl))
    · exact qO_bd (q15_wrong (f := 4) (by omega) (by omega)) (fun k h => qO_some (fun e => k2 n rfl (h e)))
