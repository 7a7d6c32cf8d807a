/-! reading: words, signs, one token -/
def gKey (k : Nat) : List Nat := gKys.getD k []
theorem gQt : ∀ k, k < 21 → ∀ i, i < 8 → xs_qt (8 * k + i) = nI (if i < (gKey k).length then 96 + (gKey k).getD i 0 else 32) := by decide +kernel
theorem gQl : ∀ k, k < 21 → (gKey k).length ≤ 8 ∧ ∀ i, i < 8 → i < (gKey k).length → 1 ≤ (gKey k).getD i 0 ∧ (gKey k).getD i 0 ≤ 26 := by decide +kernel
theorem gQv : ∀ k, k < 21 → gVlt (fun i => 96 + (gKey k).getD i 0) 0 (gKey k).length = gKv (gKey k) ∧ gKv (gKey k) < 282429536481 := by decide +kernel
theorem gQd : ∀ k, k < 21 → ∀ j, j < 21 → gKv (gKey k) = gKv (gKey j) → k = j := by decide +kernel
theorem gVlt_lt {B : Nat → Nat} {p : Nat} : ∀ n, (∀ i, i < n → B (p + i) - 96 ≤ 26) → gVlt B p n < 27 ^ n
  | 0, _ => (show 0 < 1 by omega)
  | n + 1, h => by
    have := gVlt_lt n (fun i hi => h i (by omega))
    have := h n (by omega)
    show 27 * gVlt B p n + (B (p + n) - 96) < 27 ^ (n + 1)
    rw [Nat.pow_succ]
    omega
theorem gVlt_inj {B C : Nat → Nat} {p q : Nat} : ∀ n n2, (∀ i, i < n → 1 ≤ B (p + i) - 96 ∧ B (p + i) - 96 ≤ 26) → (∀ i, i < n2 → 1 ≤ C (q + i) - 96 ∧ C (q + i) - 96 ≤ 26) → gVlt B p n = gVlt C q n2 → n = n2 ∧ ∀ i, i < n → B (p + i) = C (q + i)
  | 0, 0, _, _, _ => ⟨rfl, fun i hi => by omega⟩
  | 0, n2 + 1, _, h2, e => by
    have := h2 n2 (by omega)
    have e : 0 = 27 * gVlt C q n2 + (C (q + n2) - 96) := e
    omega
  | n + 1, 0, h1, _, e => by
    have := h1 n (by omega)
    have e : 27 * gVlt B p n + (B (p + n) - 96) = 0 := e
    omega
  | n + 1, n2 + 1, h1, h2, e => by
    have a1 := h1 n (by omega)
    have a2 := h2 n2 (by omega)
    have e : 27 * gVlt B p n + (B (p + n) - 96) = 27 * gVlt C q n2 + (C (q + n2) - 96) := e
    obtain ⟨r1, r2⟩ := gVlt_inj n n2 (fun i hi => h1 i (by omega)) (fun i hi => h2 i (by omega)) (by omega)
    subst r1
    refine ⟨rfl, fun i hi => ?_⟩
    by_cases c : i = n
    · subst c
      omega
    · exact r2 i (by omega)
theorem i64_inj {a b : Nat} (ha : a < 2 ^ 63) (hb : b < 2 ^ 63) (h : Int64.ofNat a = Int64.ofNat b) : a = b := by
  have := congrArg Int64.toInt h
  rw [Int64.toInt_ofNat_of_lt ha, Int64.toInt_ofNat_of_lt hb] at this
  omega
/-- the letters are the key's -/
def gEqk (B : Nat → Nat) (p n k : Nat) : Prop := n = (gKey k).length ∧ ∀ i, i < n → B (p + i) = 96 + (gKey k).getD i 0
theorem gEqk_v {B : Nat → Nat} {p n k : Nat} (hk : k < 21) (hn : n ≤ 8) (hl : ∀ i, i < n → gIl (B (p + i)) = true) : gEqk B p n k ↔ Int64.ofNat (gKv (gKey k)) = Int64.ofNat (gVlt B p n) := by
  have q := (gQv k hk).1
  have ql := gQl k hk
  have b1 : gVlt B p n < 282429536481 := by
    have h1 := gVlt_lt (B := B) (p := p) n (fun i hi => by have := gIl_b (hl i hi); omega)
    have h2 : 27 ^ n ≤ 27 ^ 8 := Nat.pow_le_pow_right (by omega) hn
    have h3 : 27 ^ 8 = 282429536481 := by decide
    omega
  constructor
  · rintro ⟨h1, h2⟩
    rw [← q]
    congr 1
    have key : ∀ j, j ≤ n → gVlt (fun i => 96 + (gKey k).getD i 0) 0 j = gVlt B p j := by
      intro j
      induction j with
      | zero => exact fun _ => rfl
      | succ j ih =>
        intro hj
        show 27 * gVlt _ 0 j + (96 + (gKey k).getD (0 + j) 0 - 96) = 27 * gVlt B p j + (B (p + j) - 96)
        rw [ih (by omega), h2 j (by omega), Nat.zero_add]
    rw [← h1]
    exact key n (Nat.le_refl _)
  · intro h
    have h := i64_inj (by have := (gQv k hk).2; omega) (by omega) h
    rw [← q] at h
    obtain ⟨r1, r2⟩ := gVlt_inj (B := B) (C := fun i => 96 + (gKey k).getD i 0) (p := p) (q := 0) n (gKey k).length (fun i hi => by have := gIl_b (hl i hi); omega) (fun i hi => by
      have := ql.2 i (by omega) hi
      show 1 ≤ 96 + (gKey k).getD (0 + i) 0 - 96 ∧ 96 + (gKey k).getD (0 + i) 0 - 96 ≤ 26
      rw [Nat.zero_add]
      omega) h.symm
    refine ⟨r1, fun i hi => ?_⟩
    have := r2 i hi
    rw [this]
    show 96 + (gKey k).getD (0 + i) 0 = _
    rw [Nat.zero_add]
def gCh (B : Nat → Nat) (p e i : Nat) : Int32 := if e ≤ p + i then 32 else gSb8 (B (p + i))
theorem gEqk_q {B : Nat → Nat} {p e k : Nat} (hk : k < 21) (hp : p < e) (hn : e - p ≤ 8) (hb : ∀ i, p ≤ i → i < e → B i < 256 ∧ gIl (B i) = true) : gEqk B p (e - p) k ↔ ∀ i, i < 8 → xs_qt (8 * k + i) = gCh B p e i := by
  have ql := gQl k hk
  have ch : ∀ i, i < 8 → gCh B p e i = nI (if i < e - p then B (p + i) else 32) := by
    intro i hi
    unfold gCh
    by_cases c : i < e - p
    · obtain ⟨b1, b2⟩ := hb (p + i) (by omega) (by omega)
      rw [if_neg (by omega), if_pos c, (gSb8_l _ b1 b2).1]
    · rw [if_pos (by omega), if_neg c]
      rfl
  constructor
  · rintro ⟨h1, h2⟩ i hi
    rw [gQt k hk i hi, ch i hi, ← h1]
    by_cases c : i < e - p
    · rw [if_pos c, if_pos c, h2 i c]
    · rw [if_neg c, if_neg c]
  · intro h
    have hx : ∀ i, i < 8 → (if i < (gKey k).length then 96 + (gKey k).getD i 0 else 32) = (if i < e - p then B (p + i) else 32) := by
      intro i hi
      have a := h i hi
      rw [gQt k hk i hi, ch i hi] at a
      refine (nI_eq ?_ ?_).mp a
      · by_cases c : i < (gKey k).length
        · rw [if_pos c]
          have := ql.2 i hi c
          omega
        · rw [if_neg c]
          omega
      · by_cases c : i < e - p
        · rw [if_pos c]
          have := (hb (p + i) (by omega) (by omega)).1
          omega
        · rw [if_neg c]
          omega
    have lenE : e - p = (gKey k).length := by
      rcases Nat.lt_trichotomy (e - p) (gKey k).length with c | c | c
      · have := hx (e - p) (by omega)
        rw [if_pos c, if_neg (by omega)] at this
        have := ql.2 (e - p) (by omega) c
        omega
      · exact c
      · have := hx (gKey k).length (by omega)
        rw [if_neg (by omega), if_pos c] at this
        have := gIl_b (hb (p + (gKey k).length) (by omega) (by omega)).2
        omega
    refine ⟨lenE, fun i hi => ?_⟩
    have := hx i (by omega)
    rw [if_pos (by omega), if_pos hi] at this
    exact this.symm
theorem x_quoted {B : Nat → Nat} {z p e k : Nat} {s : xs_S} (h : gBy B z s) (hk : k < 21) (hp : p < e) (he : e ≤ z) : ∃ r : Int32, xf_8_isQuoted s (nI k) (nI p) (nI e) = some (r, s) ∧ ((r = 1 ∧ ∀ i, i < 8 → xs_qt (8 * k + i) = gCh B p e i) ∨ (r = 0 ∧ ¬ ∀ i, i < 8 → xs_qt (8 * k + i) = gCh B p e i)) := by
  have hz := h.1
  have key : ∀ n j, n + j = 8 → (∀ i, i < j → xs_qt (8 * k + i) = gCh B p e i) → (mo_loop (xf_8_isQuoted_l2 (nI k) (nI p) (nI e)) (nI j, s) = some (.inr s) ∧ ∀ i, i < 8 → xs_qt (8 * k + i) = gCh B p e i) ∨ (mo_loop (xf_8_isQuoted_l2 (nI k) (nI p) (nI e)) (nI j, s) = some (.inl s) ∧ ¬ ∀ i, i < 8 → xs_qt (8 * k + i) = gCh B p e i) := by
    intro n
    induction n with
    | zero =>
      intro j hj ha
      have hj : j = 8 := by omega
      subst hj
      refine Or.inl ⟨mo_loop_inr (wO_iff.mp ?_), ha⟩
      unfold xf_8_isQuoted_l2
      exact wO_pos (by decide) (wO_some rfl)
    | succ n ih =>
      intro j hj ha
      have e8 : nI k * (8 : Int32) + nI j = nI (8 * k + j) := by
        show nI k * nI 8 + nI j = nI (8 * k + j)
        rw [pu_mul, nI_add]
        congr 1
        omega
      have j18 : ∀ Q, wO (if xs_qt (8 * k + j) = gCh B p e j then some (.inl (nI (j + 1), s)) else some (.inr (.inl s))) Q → wO (xf_8_isQuoted_l2 (nI k) (nI p) (nI e) (nI j, s)) Q := by
        intro Q hQ
        have jj : ∀ k0, k0 = gCh B p e j → wO (xf_8_isQuoted_j18 s (nI k) (nI p) (nI e) (nI j) k0) Q := by
          intro k0 hk0
          unfold xf_8_isQuoted_j18
          rw [e8, nI_1]
          refine wO_ag (k := 8 * k + j) rfl (by omega) (by omega) ?_
          rw [hk0]
          exact hQ
        unfold xf_8_isQuoted_l2
        refine wO_neg (show ¬ nI 8 ≤ nI j from nI_ge (by omega) (by omega)) ?_
        rw [nI_add]
        by_cases c : e ≤ p + j
        · refine wO_pos (nI_le c (by omega)) (jj _ ?_)
          unfold gCh
          rw [if_pos c]
        · refine wO_neg (nI_ge (by omega) (by omega)) (wO_agv (k := p + j) rfl (by omega) (by omega) (h.2.2 (p + j) (by omega)).2 (jj _ ?_))
          unfold gCh
          rw [if_neg c]
      by_cases c : xs_qt (8 * k + j) = gCh B p e j
      · rw [mo_loop_inl (wO_iff.mp (j18 _ (wO_pos c (wO_some rfl))))]
        refine ih (j + 1) (by omega) (fun i hi => ?_)
        by_cases q : i = j
        · rw [q]; exact c
        · exact ha i (by omega)
      · exact Or.inr ⟨mo_loop_inr (wO_iff.mp (j18 _ (wO_neg c (wO_some rfl)))), fun q => c (q j (by omega))⟩
  unfold xf_8_isQuoted
  rcases key 8 0 (by omega) (fun i hi => by omega) with ⟨k1, k2⟩ | ⟨k1, k2⟩
  · refine ⟨1, ?_, Or.inl ⟨rfl, k2⟩⟩
    rw [show (0 : Int32) = nI 0 from rfl, k1]
    rfl
  · refine ⟨0, ?_, Or.inr ⟨rfl, k2⟩⟩
    rw [show (0 : Int32) = nI 0 from rfl, k1]
    rfl
/-- which word it is: 21 none of them -/
def gWh (B : Nat → Nat) (p n kk : Nat) : Prop := kk ≤ 21 ∧ (kk < 21 → gEqk B p n kk) ∧ ∀ k, k < 21 → ¬ k = kk → ¬ gEqk B p n k
theorem gWh_ex {B : Nat → Nat} {p n : Nat} (hn : n ≤ 8) (hl : ∀ i, i < n → gIl (B (p + i)) = true) : ∃ kk, gWh B p n kk := by
  by_cases c : ∃ k, k < 21 ∧ gEqk B p n k
  · obtain ⟨k, k1, k2⟩ := c
    refine ⟨k, by omega, fun _ => k2, fun j hj hne q => hne ?_⟩
    have a1 := (gEqk_v k1 hn hl).mp k2
    have a2 := (gEqk_v hj hn hl).mp q
    exact gQd j hj k k1 (i64_inj (by have := (gQv j hj).2; omega) (by have := (gQv k k1).2; omega) (a2.trans a1.symm))
  · exact ⟨21, by omega, fun h => by omega, fun k hk _ q => c ⟨k, hk, q⟩⟩
theorem x_kindL {B : Nat → Nat} {z p e kk : Nat} {s : xs_S} (h : gBy B z s) (hp : p < e) (he : e ≤ z) (hn : e - p ≤ 8) (hl : ∀ i, p ≤ i → i < e → gIl (B i) = true) (hw : gWh B p (e - p) kk) : xf_8_kindOfLetters s (nI p) (nI e) = some (nI kk, s) := by
  have hz := h.1
  obtain ⟨w1, w2, w3⟩ := hw
  have hb : ∀ i, p ≤ i → i < e → B i < 256 ∧ gIl (B i) = true := fun i h1 h2 => ⟨(h.2.2 i (by omega)).1, hl i h1 h2⟩
  have key : ∀ n k, n + k = kk → (kk < 21 ∧ mo_loop (xf_8_kindOfLetters_l2 (nI p) (nI e)) (nI k, s) = some (.inl (nI kk, s))) ∨ (kk = 21 ∧ mo_loop (xf_8_kindOfLetters_l2 (nI p) (nI e)) (nI k, s) = some (.inr s)) := by
    intro n
    induction n with
    | zero =>
      intro k hk
      have hk : k = kk := by omega
      subst hk
      by_cases c : k = 21
      · refine Or.inr ⟨c, mo_loop_inr (wO_iff.mp ?_)⟩
        unfold xf_8_kindOfLetters_l2
        exact wO_pos (by rw [c]; decide) (wO_some rfl)
      · refine Or.inl ⟨by omega, mo_loop_inr (wO_iff.mp ?_)⟩
        obtain ⟨r, r1, r2⟩ := x_quoted h (show k < 21 by omega) hp he
        have q := (gEqk_q (show k < 21 by omega) hp hn hb).mp (w2 (by omega))
        have r0 : ¬ r = 0 := by
          rcases r2 with ⟨r2, -⟩ | ⟨-, r2⟩
          · rw [r2]; decide
          · exact absurd q r2
        unfold xf_8_kindOfLetters_l2
        exact wO_neg (show ¬ nI 20 < nI k from nI_nlt (by omega) (by omega)) (wO_eq r1 (wO_neg r0 (wO_some rfl)))
    | succ n ih =>
      intro k hk
      obtain ⟨r, r1, r2⟩ := x_quoted h (show k < 21 by omega) hp he
      have q : ¬ ∀ i, i < 8 → xs_qt (8 * k + i) = gCh B p e i := fun q => w3 k (by omega) (by omega) ((gEqk_q (show k < 21 by omega) hp hn hb).mpr q)
      have r0 : r = 0 := by
        rcases r2 with ⟨-, r2⟩ | ⟨r2, -⟩
        · exact absurd r2 q
        · exact r2
      have st : xf_8_kindOfLetters_l2 (nI p) (nI e) (nI k, s) = some (.inl (nI (k + 1), s)) := by
        refine wO_iff.mp ?_
        unfold xf_8_kindOfLetters_l2
        refine wO_neg (show ¬ nI 20 < nI k from nI_nlt (by omega) (by omega)) (wO_eq r1 (wO_pos r0 (wO_some ?_)))
        rw [nI_1]
      rw [mo_loop_inl st]
      exact ih (k + 1) (by omega)
  unfold xf_8_kindOfLetters
  rw [show (0 : Int32) = nI 0 from rfl]
  rcases key kk 0 (by omega) with ⟨-, k2⟩ | ⟨k1, k2⟩
  · rw [k2]
    rfl
  · rw [k2, k1]
    rfl
theorem m_kindL {B : Nat → Nat} {p n kk : Nat} {m : ms_S} {a b : Int32} (hY : RY m) (hn : n ≤ 8) (hl : ∀ i, i < n → gIl (B (p + i)) = true) (hw : gWh B p n kk) : mo_loop (mf_cut_l78 a b (Int64.ofNat (gVlt B p n))) ((1 : Int32), (0 : Int32), m) = some (nI (gMk2 kk), m) := by
  obtain ⟨w1, w2, w3⟩ := hw
  have key : ∀ r k, r + k = 21 → mo_loop (mf_cut_l78 a b (Int64.ofNat (gVlt B p n))) (nI (if kk < k then 20 + kk else 1), nI k, m) = some (nI (gMk2 kk), m) := by
    intro r
    induction r with
    | zero =>
      intro k hk
      have hk : k = 21 := by omega
      subst hk
      refine mo_loop_inr (wO_iff.mp ?_)
      unfold mf_cut_l78
      refine wO_pos (by decide) (wO_some ?_)
      have tab : ∀ kk, kk ≤ 21 → (if kk < 21 then 20 + kk else 1) = gMk2 kk := by decide
      rw [tab kk w1]
    | succ r ih =>
      intro k hk
      have hk21 : k < 21 := by omega
      have st : mf_cut_l78 a b (Int64.ofNat (gVlt B p n)) (nI (if kk < k then 20 + kk else 1), nI k, m) = some (.inl (nI (if kk < k + 1 then 20 + kk else 1), nI (k + 1), m)) := by
        refine wO_iff.mp ?_
        unfold mf_cut_l78
        refine wO_neg (show ¬ nI 21 ≤ nI k from nI_ge (by omega) (by omega)) (wO_al (k := k) rfl (by omega) (by omega) ?_)
        rw [hY k hk21]
        by_cases c : k = kk
        · subst c
          refine wO_pos (lg0.mpr ((gEqk_v hk21 hn hl).mp (w2 hk21))) ?_
          unfold mf_cut_j92
          refine wO_some ?_
          rw [nI_1, if_pos (by omega), show (20 : Int32) + nI k = nI (20 + k) from nI_add 20 k]
        · refine wO_neg (fun q => w3 k hk21 c ((gEqk_v hk21 hn hl).mpr (lg0.mp q))) ?_
          unfold mf_cut_j92
          refine wO_some ?_
          rw [nI_1]
          by_cases c2 : kk < k
          · rw [if_pos c2, if_pos (by omega)]
          · rw [if_neg c2, if_neg (by omega)]
      rw [mo_loop_inl st]
      exact ih (k + 1) (by omega)
  exact key 21 0 (by omega)
/-- signs -/
def gSg (b : Nat) : Nat := if b = 59 then 23 else if b = 61 then 24 else if b = 43 then 25 else if b = 45 then 26 else if b = 42 then 27 else if b = 47 then 28 else if b = 60 then 29 else if b = 40 then 30 else if b = 41 then 31 else 33
theorem gSg_x : ∀ b, b < 256 → (if (0 : Int32) ≤ (xs_ix (((gSb8 b &&& (255 : Int32))).toUInt32 % 65536).toInt32) then ((23 : Int32) + (xs_ix (((gSb8 b &&& (255 : Int32))).toUInt32 % 65536).toInt32)) else 33) = nI (gSg b) := by decide +kernel
def gSgm (b : Nat) : Nat := gMk2 (gSg b)
theorem gSg_lt : ∀ b, b < 256 → 23 ≤ gSg b ∧ gSg b ≤ 33 ∧ ¬ gSg b = 32 := by decide +kernel
theorem m_sign {b : Nat} {m m2 : ms_S} {a c : Int32} (hb : b < 256) (ht : mf_token m (nI (gMk2 (gSg b))) a 0 0 = some m2) : mf_sign m a (nI b) c = some (1, m2) := by
  have j47 : ∀ v, v = nI (gMk2 (gSg b)) → wO (mf_sign_j47 m a v) (fun r => r = ((1 : Int32), m2)) := by
    intro v hv
    unfold mf_sign_j47
    rw [hv]
    exact wO_eq ht (wO_some rfl)
  have tab : ∀ b, b < 256 → (if nI b = (60 : Int32) then (13 : Int32) else if nI b = (47 : Int32) then 15 else if nI b = (42 : Int32) then 10 else if nI b = (45 : Int32) then 9 else if nI b = (43 : Int32) then 8 else if nI b = (59 : Int32) then 4 else if nI b = (61 : Int32) then 5 else if nI b = (40 : Int32) then 6 else if nI b = (41 : Int32) then 7 else 3) = nI (gMk2 (gSg b)) := by decide +kernel
  have t := tab b hb
  have j42 : ∀ v, ((if nI b = (60 : Int32) then (13 : Int32) else v) = nI (gMk2 (gSg b))) → wO (mf_sign_j42 m a (nI b) v) (fun r => r = ((1 : Int32), m2)) := by
    intro v hv
    unfold mf_sign_j42
    by_cases q : nI b = (60 : Int32)
    · rw [if_pos q] at hv
      exact wO_pos q (j47 _ hv)
    · rw [if_neg q] at hv
      exact wO_neg q (j47 _ hv)
  have j37 : ∀ v, ((if nI b = (60 : Int32) then (13 : Int32) else if nI b = (47 : Int32) then 15 else v) = nI (gMk2 (gSg b))) → wO (mf_sign_j37 m a (nI b) v) (fun r => r = ((1 : Int32), m2)) := by
    intro v hv
    unfold mf_sign_j37
    by_cases q : nI b = (47 : Int32)
    · rw [if_pos q] at hv
      exact wO_pos q (j42 _ hv)
    · rw [if_neg q] at hv
      exact wO_neg q (j42 _ hv)
  have j32 : ∀ v, ((if nI b = (60 : Int32) then (13 : Int32) else if nI b = (47 : Int32) then 15 else if nI b = (42 : Int32) then 10 else v) = nI (gMk2 (gSg b))) → wO (mf_sign_j32 m a (nI b) v) (fun r => r = ((1 : Int32), m2)) := by
    intro v hv
    unfold mf_sign_j32
    by_cases q : nI b = (42 : Int32)
    · rw [if_pos q] at hv
      exact wO_pos q (j37 _ hv)
    · rw [if_neg q] at hv
      exact wO_neg q (j37 _ hv)
  have j27 : ∀ v, ((if nI b = (60 : Int32) then (13 : Int32) else if nI b = (47 : Int32) then 15 else if nI b = (42 : Int32) then 10 else if nI b = (45 : Int32) then 9 else v) = nI (gMk2 (gSg b))) → wO (mf_sign_j27 m a (nI b) v) (fun r => r = ((1 : Int32), m2)) := by
    intro v hv
    unfold mf_sign_j27
    by_cases q : nI b = (45 : Int32)
    · rw [if_pos q] at hv
      exact wO_pos q (j32 _ hv)
    · rw [if_neg q] at hv
      exact wO_neg q (j32 _ hv)
  have j21 : ∀ v, ((if nI b = (60 : Int32) then (13 : Int32) else if nI b = (47 : Int32) then 15 else if nI b = (42 : Int32) then 10 else if nI b = (45 : Int32) then 9 else if nI b = (43 : Int32) then 8 else v) = nI (gMk2 (gSg b))) → wO (mf_sign_j21 m a (nI b) v) (fun r => r = ((1 : Int32), m2)) := by
    intro v hv
    unfold mf_sign_j21
    by_cases q : nI b = (43 : Int32)
    · rw [if_pos q] at hv
      exact wO_pos q (j27 _ hv)
    · rw [if_neg q] at hv
      exact wO_neg q (j27 _ hv)
  refine wO_iff.mp ?_
  unfold mf_sign
  by_cases q1 : nI b = (59 : Int32)
  · rw [if_pos q1] at t
    exact wO_pos q1 (j21 _ t)
  rw [if_neg q1] at t
  refine wO_neg q1 ?_
  by_cases q2 : nI b = (61 : Int32)
  · rw [if_pos q2] at t
    exact wO_pos q2 (j21 _ t)
  rw [if_neg q2] at t
  refine wO_neg q2 ?_
  by_cases q3 : nI b = (40 : Int32)
  · rw [if_pos q3] at t
    exact wO_pos q3 (j21 _ t)
  rw [if_neg q3] at t
  refine wO_neg q3 ?_
  by_cases q4 : nI b = (41 : Int32)
  · rw [if_pos q4] at t
    exact wO_pos q4 (j21 _ t)
  rw [if_neg q4] at t
  exact wO_neg q4 (j21 _ t)
