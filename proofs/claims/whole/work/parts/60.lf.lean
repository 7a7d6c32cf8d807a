/-! what the law's start gives: the classes, the texts -/
abbrev lf_F : List Cond := flatC (Jvm.Cond.and given_1 narrow_1)
def lf_tm (i : Nat) : Term := .string "CradlePairs$Tokens" (bif Nat.beq i 0 then 65 else 76)
theorem lf_x0 : lf_F[181]? = some (.exactly (lf_tm 0) "java/lang/String") := by decide +kernel
theorem lf_x1 : lf_F[9]? = some (.exactly (lf_tm 1) "java/lang/String") := by decide +kernel
theorem lf_c0 : lf_F[182]? = some (.eq (.field (lf_tm 0) "java/lang/String" "code\x72" "B") (.int 0)) := by decide +kernel
theorem lf_c1 : lf_F[10]? = some (.eq (.field (lf_tm 1) "java/lang/String" "code\x72" "B") (.int 0)) := by decide +kernel
theorem lf_a0 : lf_F[183]? = some (.arrayOf (.field (lf_tm 0) "java/lang/String" "value" "[B") .byte) := by decide +kernel
theorem lf_a1 : lf_F[11]? = some (.arrayOf (.field (lf_tm 1) "java/lang/String" "value" "[B") .byte) := by decide +kernel
theorem lf_l0 : lf_F[184]? = some (.eq (.length (.field (lf_tm 0) "java/lang/String" "value" "[B")) (.int (Int32.ofNat (sx_len.getD 0 0)))) := by decide +kernel
theorem lf_l1 : lf_F[12]? = some (.eq (.length (.field (lf_tm 1) "java/lang/String" "value" "[B")) (.int (Int32.ofNat (sx_len.getD 1 0)))) := by decide +kernel
theorem lf_e0 : ∀ j, j < 9 → lf_F[185 + j]? = some (.eq (.elem (.field (lf_tm 0) "java/lang/String" "value" "[B") (.int (Int32.ofNat j))) (.int ((sx_byt.getD 0 []).getD j 0))) := by decide +kernel
theorem lf_e1 : ∀ j, j < 168 → lf_F[13 + j]? = some (.eq (.elem (.field (lf_tm 1) "java/lang/String" "value" "[B") (.int (Int32.ofNat j))) (.int ((sx_byt.getD 1 []).getD j 0))) := by decide +kernel
theorem lf_n : lf_F[194]? = some (.not (.eq (lf_tm 1) (lf_tm 0))) := by decide +kernel
theorem lf_z : lf_F[4]? = some (.eq (.static "java/lang/String" "COMPACT_STRINGS" "Z") (.int 1)) := by decide +kernel
theorem lf_q : lf_F[5]? = some (.isRef (.static "jdk/internal/util/Preconditions" "SIOOBE_FORMATTER" "Ljava/util/function/BiFunction;")) := by decide +kernel
theorem lw_first {p : Program} {s : State} {m : MethodId} {meth : Method} {c : Code} {b L : Nat} {xs : Nat → Int32} (C0 : lw_At p s m meth c b L xs) : ∃ (D : va_G) (E : Nat → ClassId) (adK adV : Nat → Nat), lw_Cx p s m meth c b L xs D E (sx_Xt adK adV) := by
  obtain ⟨hx, hb, hr, hml, hown, hts, hX, hbl, hlocks, hgv⟩ := id C0
  obtain ⟨D, E, hK⟩ := lw_known hts
  have hs := flat_of_before _ hgv
  have hf : ∀ {i : Nat} {w : Cond}, lf_F[i]? = some w → w.before #[Value.ref b] s = true := fun h => hs _ (List.mem_of_getElem? h)
  have hA : ∀ a : Nat, a < s.heap.size → ¬ (fun q : Nat => s.heap.size ≤ q) a := fun a ha h => absurd ha (Nat.not_lt.mpr h)
  have two : ∀ {P : Nat → Prop}, P 0 → P 1 → ∀ i, i < 2 → P i := by
    intro P h0 h1 i hi
    rcases (show i = 0 ∨ i = 1 by omega) with rfl | rfl
    · exact h0
    · exact h1
  obtain ⟨adK, adV, hV, hT⟩ := vk_Sof (args := #[Value.ref b]) (s := s) (N := 2) (tm := lf_tm) (len := sx_len) (byt := sx_byt) (A := fun q : Nat => s.heap.size ≤ q) (two (by decide) (by decide)) (two (hf lf_x0) (hf lf_x1)) (two (hf lf_c0) (hf lf_c1)) (two (hf lf_a0) (hf lf_a1)) (two (hf lf_l0) (hf lf_l1)) (two (fun j hj => hf (lf_e0 j hj)) (fun j hj => hf (lf_e1 j hj))) (by
    intro i j hi hj hne
    rcases (show i = 0 ∨ i = 1 by omega) with rfl | rfl
    · rcases (show j = 1 by omega) with rfl
      exact Or.inr (hf lf_n)
    · rcases (show j = 0 by omega) with rfl
      exact Or.inl (hf lf_n)) hA
  have w1 : (Cond.laysStatic "java/lang/String" "COMPACT_STRINGS" "Z").before #[Value.ref b] s = true := hts _ (List.mem_of_getElem? (i := 647) (by decide +kernel))
  have w2 : (Cond.laysStatic "jdk/internal/util/Preconditions" "SIOOBE_FORMATTER" "Ljava/util/function/BiFunction;").before #[Value.ref b] s = true := hts _ (List.mem_of_getElem? (i := 655) (by decide +kernel))
  have w3 : (Cond.stringRef "CradlePairs$Tokens" 65 ";=+-*/<()").before #[Value.ref b] s = true := hts _ (List.mem_of_getElem? (i := 678) (by decide +kernel))
  have w4 : (Cond.stringRef "CradlePairs$Tokens" 76 "speaker word    pair    pushes  wages   rests   bars    tilt    seed    if      then    else    force   tongue  slope   last    side    which   other   words   same    ").before #[Value.ref b] s = true := hts _ (List.mem_of_getElem? (i := 637) (by decide +kernel))
  have w5 : (Cond.arrayOver (.object RX2)).before #[Value.ref b] s = true := hts _ (List.mem_of_getElem? (i := 345) (by decide +kernel))
  refine ⟨D, E, adK, adV, C0, hK, ⟨fun w hw => ?_, va_AO.of (A := #[Value.ref b]) w5, ⟨hV, va_Zof w1 (hts _ (mm_tg w_iniS).1) (va_eqt (hf lf_z)) hA, va_Zqof w2 (hts _ (mm_tg w_iniP).1) (hf lf_q) hA⟩, vk_R.of w3 (hT 0 (by decide)), vk_R.of w4 (hT 1 (by decide))⟩, sx_Xok adK adV⟩
  unfold mm_NW at hw
  obtain ⟨q, hq, rfl⟩ := List.mem_map.mp hw
  exact va_Nw.of rfl (hts _ (List.mem_of_getElem? (mm_wN q hq)))
/-- THE LAW out of a relation that every call keeps -/
theorem lw_whole {R : Nat → xs_S → ms_S → Prop} (hR : lw_sims2 R) {p : Program} {e : Env} {s : State} {m : MethodId} {below : List Frame} {meth : Method} {c : Code} (l : Launch) {b L : Nat} {xs : Nat → Int32} (hL : L ≤ 3072) (C0 : lw_At p s m meth c b L xs) : W p l e room_1 s m #[Value.ref b] below meth c s.heap [] 0 0 (lw_Z below #[Value.ref b] s) (entryFrame m ([Value.ref b] : List Value).toArray 4) := by
  obtain ⟨D, E, adK, adV, Cx⟩ := lw_first C0
  exact lw_start l hL Cx (sk_ct l D E adK adV) hR
