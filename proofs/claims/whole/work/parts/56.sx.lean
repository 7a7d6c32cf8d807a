/-! contracts of the JDK's methods over texts: nothing is written -/
/-- what is said of the two constants: bytes as the list xs_sl, at the places adK, their rows at adV -/
def sx_len : List Nat := [9, 168]
def sx_byt : List (List Int32) := [[59, 61, 43, 45, 42, 47, 60, 40, 41], xs_ql.map nI]
def sx_P (adK adV : Nat → Nat) (A : Nat → Prop) (U : State) : Prop :=
  vk_S 2 sx_len sx_byt adK adV A U U.heap ∧ va_Z "java/lang/String" "COMPACT_STRINGS" "Z" (.int 1) A U U.heap ∧ va_Zq "jdk/internal/util/Preconditions" "SIOOBE_FORMATTER" "Ljava/util/function/BiFunction;" A U U.heap
theorem sx_P.mv {adK adV : Nat → Nat} {A A2 : Nat → Prop} {U V : State} (h : sx_P adK adV A U) (hA : ∀ q, A2 q → A q) (hW : U.WarmedH V.vm) (hk : ∀ q : Nat, q < U.heap.size → ¬ A q → V.heap[q]? = U.heap[q]?) : sx_P adK adV A2 V :=
  ⟨((h.1.kept hk).moved hW.alike).narrow hA, ((h.2.1.kept hk).moved hW.alike).narrow hA, ((h.2.2.kept hk).moved hW.alike).narrow hA⟩
theorem sx_P.calling {adK adV : Nat → Nat} {A : Nat → Prop} {U : State} (h : sx_P adK adV A U) (g : JFrame) (mk : MethodId) (a : Array Value) : sx_P adK adV A (U.calling g mk a) :=
  ⟨h.1.moved (u := U) (U := U.calling g mk a) (Vm.Alike.refl U.vm), h.2.1.moved (u := U) (U := U.calling g mk a) (Vm.Alike.refl U.vm), h.2.2.moved (u := U) (U := U.calling g mk a) (Vm.Alike.refl U.vm)⟩
def sx_ws (y : MethodName) (by_ : ByteArray) (mx : Nat) (ret : Option FieldType) : List Cond := .code y by_ mx ret :: mm_tG
def sx_Q (r : Option Value) (sz : Nat) : Array Value → State → Outcome → State → Prop := fun _ st oc t => oc = .returned r ∧ va_F (fun q : Nat => sz ≤ q) st t
def sx_M (l : Launch) (adK adV : Nat → Nat) (y : MethodName) (by_ : ByteArray) (mx : Nat) (ret : Option FieldType) (d : Nat) (As : List Value) (r : Option Value) : Prop :=
  ∀ sz : Nat, Met l y (sx_ws y by_ mx ret) (mm_rm d 0 0) (va_Pc As (fun U => U.heap.size = sz ∧ sx_P adK adV (fun q : Nat => sz ≤ q) U)) (sx_Q r sz) 0 0 (fun q : Nat => sz ≤ q)
/-- what holds in such a method -/
def sx_B (p : Program) (s : State) (m : MethodId) (args : Array Value) (meth : Method) (c : Code) (adK adV : Nat → Nat) (y : MethodName) (by_ : ByteArray) (mx : Nat) (ret : Option FieldType) : Prop :=
  p.tables.exec = Jvm.exec ∧ c.code = by_ ∧ meth.sig.returnType = ret ∧ (∀ w ∈ mm_tG, w.before args s = true) ∧ s.vm.findClass y.cls = some m.cls ∧ meth.locks = false ∧ c.maxLocals = mx ∧ sx_P adK adV (fun q : Nat => s.heap.size ≤ q) s
theorem sx_of {l : Launch} {adK adV : Nat → Nat} {y : MethodName} {by_ : ByteArray} {mx : Nat} {ret : Option FieldType} {d : Nat} {As : List Value} {r : Option Value} (hy : plainName y.cls = true) (hmx : (lg_sl As).length ≤ mx)
    (K : ∀ (p : Program) (e : Env) (s : State) (m : MethodId) (below : List Frame) (meth : Method) (c : Code) (ls : Array Slot), sx_B p s m As.toArray meth c adK adV y by_ mx ret → lv_has ls mx (lv_args 0 As) → W p l e (mm_rm d 0 0) s m As.toArray below meth c s.heap [] 0 0 (MQ below (sx_Q r s.heap.size) As.toArray s 0 0 (fun q : Nat => s.heap.size ≤ q)) (F0 m 0 ls [])) : sx_M l adK adV y by_ mx ret d As r := by
  intro sz
  refine Met.ofW (cc := by_) (maxL := mx) (ret := ret) hy rfl ?_
  intro p e s m args below meth c s₁ B hml hv
  obtain ⟨rfl, hsz, hX⟩ := hv
  subst hsz
  have hts0 := atoms_spec (ws := sx_ws y by_ mx ret) B.pre
  have hl := lv_entry As (n := mx) hmx
  rw [lg_entry_eq]
  generalize (lg_sl As ++ List.replicate (mx - (lg_sl As).length) Slot.unset).toArray = ls at hl ⊢
  exact K p e s m below meth c ls ⟨B.exec, B.bytes, B.returns, fun w hw => hts0 w (List.mem_cons_of_mem _ hw), findClass_of_methodNamed B.named, B.notSynchronized, hml, hX⟩ hl
theorem sx_good {y : MethodName} {by_ : ByteArray} {mx : Nat} {ret : Option FieldType} (h : Cond.code y by_ mx ret ∈ mm_tG) : GoodIn mm_tG (sx_ws y by_ mx ret) := by
  intro w hw
  rcases List.mem_cons.mp hw with e | e
  · subst e
    exact ⟨h, good_of_word (mm_tg h).2⟩
  · exact ⟨e, good_of_word (mm_tg e).2⟩
section SXC
variable {p : Program} {l : Launch} {e : Env} {R : Room} {s : State} {m : MethodId} {args : Array Value} {below : List Frame} {meth : Method} {c : Code} {H : Heap} {locs : List Loc} {cells slots : Nat} {Z : State → Prop} {A : Nat → Prop} {adK adV : Nat → Nat} {own : String} {cc : ByteArray} {nL : Nat} {ls : Array Slot} {rest : List Value} {pc ix d mx : Nat} {y : MethodName} {by_ : ByteArray} {ret : Option FieldType} {As : List Value} {r : Option Value}
theorem sx_pre (hX : sx_P adK adV A s) (hA : ∀ q, s.heap.size ≤ q → A q) (hS : va_S A s.heap H locs) : FrameBlind (va_Pc As (fun U => U.heap.size = H.size ∧ sx_P adK adV (fun q : Nat => H.size ≤ q) U)) ∧ ∀ U : State, U.heap = H → s.WarmedH U.vm → va_Pc As (fun U => U.heap.size = H.size ∧ sx_P adK adV (fun q : Nat => H.size ≤ q) U) As.toArray U := by
  refine ⟨fun a U g mk q => ⟨q.1, q.2.1, q.2.2.calling g mk a⟩, fun U hU hW => ⟨rfl, by rw [hU], hX.mv (fun q hq => hA q (Nat.le_trans hS.1 hq)) hW (fun q h1 h2 => by rw [hU]; exact hS.2.1 q h1 h2)⟩⟩
theorem sx_after {a : Array Value} {rest2 : List Value} (hr : va_Run p l e R s m args below meth c H locs cells slots 0 0 (F0 m pc ls rest2) rest (sx_Q r H.size a) (fun q : Nat => H.size ≤ q)) (hA : ∀ q, s.heap.size ≤ q → A q) (hS : va_S A s.heap H locs)
    (kk : ∀ (H1 : Heap) (locs1 : List Loc), H.size ≤ H1.size → (∀ q : Nat, q < H.size → H1[q]? = H[q]?) → va_S A s.heap H1 locs1 → W p l e R s m args below meth c H1 locs1 cells slots Z (F0 m (pc + 3) ls (r.toList ++ rest))) : W p l e R s m args below meth c H locs cells slots Z (F0 m pc ls rest2) := by
  intro T hT X
  obtain ⟨v, st₀, t, T', L, h0, X', hL, e1, e2, ⟨hv, hz, hk⟩, st⟩ := hr T hT X
  cases hv
  rw [h0] at hz hk
  have hk2 : ∀ q : Nat, q < H.size → T'.heap[q]? = H[q]? := fun q hq => by rw [e1]; exact hk q hq (Nat.not_le.mpr hq)
  obtain ⟨t2, a1, b1⟩ := kk T'.heap (locs ++ L) (by rw [e1]; exact hz) hk2
    ⟨Nat.le_trans hS.1 (by rw [e1]; exact hz), fun q h1 h2 => by rw [hk2 q (Nat.lt_of_lt_of_le h1 hS.1)]; exact hS.2.1 q h1 h2, fun q hq => by
      rcases List.mem_append.mp hq with h | h
      · exact hS.2.2 q h
      · exact hA _ (Nat.le_trans hS.1 (hL q h))⟩ T' rfl X'
  exact ⟨t2, st t2 a1, b1⟩
theorem sx_callS (hx : p.tables.exec = Jvm.exec) (hb : c.code = cc) (hml : c.maxLocals = nL) (hown : s.vm.findClass own = some m.cls) (hts : ∀ w ∈ mm_tG, w.before args s = true) (hX : sx_P adK adV A s) (hA : ∀ q, s.heap.size ≤ q → A q) (hS : va_S A s.heap H locs) (hls : ls.size = nL)
    (hM : sx_M l adK adV y by_ mx ret d As r) (w1 : Cond.code y by_ mx ret ∈ mm_tG) (w2 : Cond.static y ∈ mm_tG) (w3 : Cond.methodLink own ix y ∈ mm_tG) (w4 : Cond.initialized y.cls ∈ mm_tG) (hy : y.cls ≠ "java/lang/invoke/MethodHandle" ∧ y.cls ≠ "java/lang/invoke/VarHandle" ∧ (parseMethodDescriptor y.desc).map (fun d => d.parameters.length) = some As.length)
    (hroom : d + 1 ≤ R.frames ∧ 8 + (mx + 11) + 64 * d ≤ R.locals) (hfit : cells ≤ R.cells ∧ slots ≤ R.slots) (hcat : (rest.map fun v => v.category).sum ≤ 8) (hd : decode cc pc = .ok (.invokestatic ix, 3))
    (kk : ∀ (H1 : Heap) (locs1 : List Loc), H.size ≤ H1.size → (∀ q : Nat, q < H.size → H1[q]? = H[q]?) → va_S A s.heap H1 locs1 → W p l e R s m args below meth c H1 locs1 cells slots Z (F0 m (pc + 3) ls (r.toList ++ rest))) : W p l e R s m args below meth c H locs cells slots Z (F0 m pc ls (As.reverse ++ rest)) := by
  have hrun := va_runS (g := F0 m pc ls (As.reverse ++ rest)) (As := As) (rest := rest) (cells := cells) (slots := slots) (e := e) (below := below) (meth := meth) (locs := locs) (R := R) ⟨hx, hb, hml, hown, hts⟩ (hM H.size) ⟨callB_of As.length hts (sx_good w1) rfl rfl rfl (hts _ w4) (hts _ w3) hy hroom, hts _ w2⟩ (sx_pre hX hA hS) rfl rfl hls rfl (lv_room hcat) hd hfit
  exact sx_after hrun hA hS kk
theorem sx_callV {b : Nat} {CC : String} (hx : p.tables.exec = Jvm.exec) (hb : c.code = cc) (hml : c.maxLocals = nL) (hown : s.vm.findClass own = some m.cls) (hts : ∀ w ∈ mm_tG, w.before args s = true) (hX : sx_P adK adV A s) (hA : ∀ q, s.heap.size ≤ q → A q) (hS : va_S A s.heap H locs) (hls : ls.size = nL)
    (hM : sx_M l adK adV y by_ mx ret d (.ref b :: As) r) (hrecv : ∃ cell : Cell, H[b]? = some cell ∧ cell.vm.isStatics = false ∧ s.vm.findClass CC = some cell.cls) (w1 : Cond.code y by_ mx ret ∈ mm_tG) (w2 : Cond.instanceMethod y ∈ mm_tG) (w5 : Cond.selects CC y y ∈ mm_tG) (w3 : Cond.methodLink own ix y ∈ mm_tG) (w4 : Cond.initialized y.cls ∈ mm_tG) (hy : y.cls ≠ "java/lang/invoke/MethodHandle" ∧ y.cls ≠ "java/lang/invoke/VarHandle" ∧ (parseMethodDescriptor y.desc).map (fun d => d.parameters.length) = some As.length)
    (hroom : d + 1 ≤ R.frames ∧ 8 + (mx + 11) + 64 * d ≤ R.locals) (hfit : cells ≤ R.cells ∧ slots ≤ R.slots) (hcat : (rest.map fun v => v.category).sum ≤ 8) (hd : decode cc pc = .ok (.invokevirtual ix, 3))
    (kk : ∀ (H1 : Heap) (locs1 : List Loc), H.size ≤ H1.size → (∀ q : Nat, q < H.size → H1[q]? = H[q]?) → va_S A s.heap H1 locs1 → W p l e R s m args below meth c H1 locs1 cells slots Z (F0 m (pc + 3) ls (r.toList ++ rest))) : W p l e R s m args below meth c H locs cells slots Z (F0 m pc ls (As.reverse ++ .ref b :: rest)) := by
  have hpre := sx_pre (As := .ref b :: As) hX hA hS
  have hrun := va_runV (C := CC) (b := b) (g := F0 m pc ls (As.reverse ++ .ref b :: rest)) (As := As) (rest := rest) (cells := cells) (slots := slots) (e := e) (below := below) (meth := meth) (locs := locs) (R := R) ⟨hx, hb, hml, hown, hts⟩ (hM H.size) ⟨callB_of As.length hts (sx_good w1) rfl rfl rfl (hts _ w4) (hts _ w3) hy hroom, hts _ w2, hts _ w5⟩ ⟨hpre.1, hrecv, hpre.2⟩ rfl rfl hls rfl (lv_room hcat) hd hfit
  exact sx_after hrun hA hS kk
end SXC
theorem sx_ret {r : Option Value} {s t : State} {H : Heap} {locs : List Loc} {args : Array Value} (hS : va_S (fun q : Nat => s.heap.size ≤ q) s.heap H locs) (ht : t.heap = H) : sx_Q r s.heap.size args s (.returned r) t := ⟨rfl, hS.F ht⟩
/-- Preconditions.checkIndex, in range -/
theorem sx_ci (l : Launch) {adK adV : Nat → Nat} (d : Nat) {i n : Int32} {v : Value} (hv : v = .null ∨ ∃ t, v = .ref t) (h0 : ¬ i < 0) (h1 : i < n) : sx_M l adK adV y_ci b_ci 3 (some .int) d [.int i, .int n, v] (some (.int i)) := by
  have hl0 : (lg_sl [.int i, .int n, v]).length ≤ 3 := by rcases hv with rfl | ⟨t, rfl⟩ <;> exact Nat.le_of_ble_eq_true rfl
  refine sx_of (by decide) hl0 ?_
  intro p e s m below meth c ls B hl
  obtain ⟨hx, hb, hr, hts, hown, hlocks, hml, hX⟩ := B
  have hS : va_S (fun q : Nat => s.heap.size ≤ q) s.heap s.heap [] := va_S.rf
  have hl : lv_has ls 3 [(0, .int i), (1, .int n), (2, v)] := by rcases hv with rfl | ⟨t, rfl⟩ <;> exact hl
  refine lv_iload_n hx hb d_ci_0 rfl (lv_at hl 0 rfl) ?_
  refine lv_if_lt (tgt := 9) hx hb d_ci_1 (by decide) (fun c1 => absurd c1 h0) (fun c1 => ?_)
  refine lv_iload_n hx hb d_ci_4 rfl (lv_at hl 0 rfl) ?_
  refine lv_iload_n hx hb d_ci_5 rfl (lv_at hl 1 rfl) ?_
  refine lv_icmp_lt (tgt := 16) hx hb d_ci_6 (by decide) (fun c2 => ?_) (fun c2 => absurd h1 c2)
  refine lv_iload_n hx hb d_ci_16 rfl (lv_at hl 0 rfl) ?_
  exact W.iret hx hb hr (fun t ht _ => sx_ret hS ht) hS.2.2 d_ci_17
/-- String.checkIndex, in range -/
theorem sx_ck (l : Launch) {adK adV : Nat → Nat} (d : Nat) {i n : Int32} (h0 : ¬ i < 0) (h1 : i < n) : sx_M l adK adV y_ck b_ck 2 none (d + 1) [.int i, .int n] none := by
  refine sx_of (by decide) (Nat.le_of_ble_eq_true rfl) ?_
  intro p e s m below meth c ls B hl
  obtain ⟨hx, hb, hr, hts, hown, hlocks, hml, hX⟩ := B
  have hS : va_S (fun q : Nat => s.heap.size ≤ q) s.heap s.heap [] := va_S.rf
  have hl : lv_has ls 2 [(0, .int i), (1, .int n)] := hl
  obtain ⟨v, hv, hZ⟩ : ∃ v : Value, (v = .null ∨ ∃ t, v = .ref t) ∧ va_Z "jdk/internal/util/Preconditions" "SIOOBE_FORMATTER" "Ljava/util/function/BiFunction;" v (fun q : Nat => s.heap.size ≤ q) s s.heap := by
    rcases hX.2.2 with h | ⟨t, h⟩
    · exact ⟨_, Or.inl rfl, h⟩
    · exact ⟨_, Or.inr ⟨t, rfl⟩, h⟩
  refine lv_iload_n hx hb d_ck_0 rfl (lv_at hl 0 rfl) ?_
  refine lv_iload_n hx hb d_ck_1 rfl (lv_at hl 1 rfl) ?_
  refine va_gets hx hb hZ hS hown (hts _ w_f_sf) (fun _ h => h) d_ck_2 ?_
  refine sx_callS (As := [.int i, .int n, v]) (rest := []) hx hb hml hown hts hX (fun q h => h) hS hl.1 (sx_ci l d hv h0 h1) w_ci_c w_ci_s w_l_ci w_iniP ⟨by decide, by decide, w_ci_n⟩ ⟨by show d + 1 ≤ d + 1; omega, by show 8 + (3 + 11) + 64 * d ≤ 64 * (d + 1); omega⟩ ⟨Nat.le_refl 0, Nat.le_refl 0⟩ (Nat.le_of_ble_eq_true rfl) d_ck_5 (fun H1 locs1 hz hk hS => ?_)
  show W p l e (mm_rm (d + 1) 0 0) s m _ below meth c H1 locs1 0 0 _ (F0 m 8 ls [.int i])
  refine lv_pop hx hb d_ck_8 rfl ?_
  exact W.vret hx hb hr (fun t ht _ => sx_ret hS ht) hS.2.2 d_ck_9
/-- StringLatin1.charAt over a constant's row -/
theorem sx_lc (l : Launch) {adK adV : Nat → Nat} (d : Nat) {i k : Nat} (hi : i < 2) (hk : k < sx_len.getD i 0) (hc : ∀ j, j < sx_len.getD i 0 → ((sx_byt.getD i []).getD j 0 &&& 255).toUInt32 % 65536 = ((sx_byt.getD i []).getD j 0).toUInt32 ∧ narrow .char (.int ((sx_byt.getD i []).getD j 0)) = .int ((sx_byt.getD i []).getD j 0)) (hN : sx_len.getD i 0 < 2 ^ 31) : sx_M l adK adV y_lc b_lc 2 (some .char) (d + 2) [.ref (adV i), .int (nI k)] (some (.int ((sx_byt.getD i []).getD k 0))) := by
  refine sx_of (by decide) (Nat.le_of_ble_eq_true rfl) ?_
  intro p e s m below meth c ls B hl
  obtain ⟨hx, hb, hr, hts, hown, hlocks, hml, hX⟩ := B
  have hS : va_S (fun q : Nat => s.heap.size ≤ q) s.heap s.heap [] := va_S.rf
  have hl : lv_has ls 2 [(0, .ref (adV i)), (1, .int (nI k))] := hl
  have hT := (hX.1.1 i hi).2.2.2
  refine lv_iload_n hx hb d_lc_0 rfl (lv_at hl 1 rfl) ?_
  refine lv_aload_n hx hb d_lc_1 rfl (lv_at hl 0 rfl) ?_
  refine va_tlen hx hb hT hS rfl d_lc_2 ?_
  refine sx_callS (As := [.int (nI k), .int (nI (sx_len.getD i 0))]) (rest := []) hx hb hml hown hts hX (fun q h => h) hS hl.1 (sx_ck l d (nI_pos (by omega)) (nI_lt hk hN)) w_ck_c w_ck_s w_l_ck w_iniS ⟨by decide, by decide, w_ck_n⟩ ⟨by show d + 1 + 1 ≤ d + 2; omega, by show 8 + (2 + 11) + 64 * (d + 1) ≤ 64 * (d + 2); omega⟩ ⟨Nat.le_refl 0, Nat.le_refl 0⟩ (Nat.le_of_ble_eq_true rfl) d_lc_3 (fun H1 locs1 hz hk2 hS => ?_)
  show W p l e (mm_rm (d + 2) 0 0) s m _ below meth c H1 locs1 0 0 _ (F0 m 6 ls [])
  refine lv_aload_n hx hb d_lc_6 rfl (lv_at hl 0 rfl) ?_
  refine lv_iload_n hx hb d_lc_7 rfl (lv_at hl 1 rfl) ?_
  refine va_tb hx hb hT hS (vp_in_nI hk hN) (v := .int ((sx_byt.getD i []).getD k 0)) (by rw [nI_clamp (by omega)]) d_lc_8 ?_
  refine lv_sipush (v := 255) hx hb d_lc_9 (by decide) ?_
  refine lv_iand hx hb d_lc_12 ?_
  obtain ⟨h1, h2⟩ := hc k hk
  have e1 : (((sx_byt.getD i []).getD k 0 &&& 255).toUInt32 % 65536).toInt32 = (sx_byt.getD i []).getD k 0 := by rw [h1]; rfl
  refine lv_i2c hx hb d_lc_13 e1 ?_
  exact W.zret hx hb hr h2 (fun t ht _ => sx_ret hS ht) hS.2.2 d_lc_14
/-- String.isLatin1 -/
theorem sx_il (l : Launch) {adK adV : Nat → Nat} (d : Nat) {i : Nat} (hi : i < 2) : sx_M l adK adV y_il b_il 1 (some .boolean) d [.ref (adK i)] (some (.int 1)) := by
  refine sx_of (by decide) (Nat.le_of_ble_eq_true rfl) ?_
  intro p e s m below meth c ls B hl
  obtain ⟨hx, hb, hr, hts, hown, hlocks, hml, hX⟩ := B
  have hS : va_S (fun q : Nat => s.heap.size ≤ q) s.heap s.heap [] := va_S.rf
  have hl : lv_has ls 1 [(0, .ref (adK i))] := hl
  refine va_gets hx hb hX.2.1 hS hown (hts _ w_f_cs) (fun _ h => h) d_il_0 ?_
  refine lv_if_eq (tgt := 17) hx hb d_il_3 (by decide) (fun c1 => absurd c1 (by decide)) (fun _ => ?_)
  refine lv_aload_n hx hb d_il_6 rfl (lv_at hl 0 rfl) ?_
  refine vk_getf hx hb (hX.1.1 i hi).2.1 hS hown (hts _ w_f_co) (fun _ h => h) d_il_7 ?_
  refine lv_if_ne (tgt := 17) hx hb d_il_10 (by decide) (fun c1 => absurd rfl c1) (fun _ => ?_)
  refine lv_iconst (v := 1) hx hb d_il_13 (by decide) ?_
  refine lv_goto (tgt := 18) hx hb d_il_14 (by decide) ?_
  exact W.zret hx hb hr (by decide) (fun t ht _ => sx_ret hS ht) hS.2.2 d_il_18
/-- String.charAt over a constant -/
theorem sx_ca (l : Launch) {adK adV : Nat → Nat} (d : Nat) {i k : Nat} (hi : i < 2) (hk : k < sx_len.getD i 0) (hc : ∀ j, j < sx_len.getD i 0 → ((sx_byt.getD i []).getD j 0 &&& 255).toUInt32 % 65536 = ((sx_byt.getD i []).getD j 0).toUInt32 ∧ narrow .char (.int ((sx_byt.getD i []).getD j 0)) = .int ((sx_byt.getD i []).getD j 0)) (hN : sx_len.getD i 0 < 2 ^ 31) : sx_M l adK adV y_ca b_ca 2 (some .char) (d + 3) [.ref (adK i), .int (nI k)] (some (.int ((sx_byt.getD i []).getD k 0))) := by
  refine sx_of (by decide) (Nat.le_of_ble_eq_true rfl) ?_
  intro p e s m below meth c ls B hl
  obtain ⟨hx, hb, hr, hts, hown, hlocks, hml, hX⟩ := B
  have hS : va_S (fun q : Nat => s.heap.size ≤ q) s.heap s.heap [] := va_S.rf
  have hl : lv_has ls 2 [(0, .ref (adK i)), (1, .int (nI k))] := hl
  refine lv_aload_n hx hb d_ca_0 rfl (lv_at hl 0 rfl) ?_
  refine sx_callV (As := []) (rest := []) hx hb hml hown hts hX (fun q h => h) hS hl.1 (sx_il l (d + 2) hi) (vk_recv hX.1 hi hS) w_il_c w_il_i w_il_v w_l_il w_iniS ⟨by decide, by decide, w_il_n⟩ ⟨by show d + 2 + 1 ≤ d + 3; omega, by show 8 + (1 + 11) + 64 * (d + 2) ≤ 64 * (d + 3); omega⟩ ⟨Nat.le_refl 0, Nat.le_refl 0⟩ (Nat.le_of_ble_eq_true rfl) d_ca_1 (fun H1 locs1 hz hk2 hS => ?_)
  show W p l e (mm_rm (d + 3) 0 0) s m _ below meth c H1 locs1 0 0 _ (F0 m 4 ls [.int 1])
  refine lv_if_eq (tgt := 16) hx hb d_ca_4 (by decide) (fun c1 => absurd c1 (by decide)) (fun _ => ?_)
  refine lv_aload_n hx hb d_ca_7 rfl (lv_at hl 0 rfl) ?_
  refine vk_getf hx hb (hX.1.1 i hi).2.2.1 hS hown (hts _ w_f_va) (fun _ h => h) d_ca_8 ?_
  refine lv_iload_n hx hb d_ca_11 rfl (lv_at hl 1 rfl) ?_
  refine sx_callS (As := [.ref (adV i), .int (nI k)]) (rest := []) hx hb hml hown hts hX (fun q h => h) hS hl.1 (sx_lc l d hi hk hc hN) w_lc_c w_lc_s w_l_lc w_iniL ⟨by decide, by decide, w_lc_n⟩ ⟨by show d + 2 + 1 ≤ d + 3; omega, by show 8 + (2 + 11) + 64 * (d + 2) ≤ 64 * (d + 3); omega⟩ ⟨Nat.le_refl 0, Nat.le_refl 0⟩ (Nat.le_of_ble_eq_true rfl) d_ca_12 (fun H1 locs1 hz hk3 hS => ?_)
  exact W.zret hx hb hr (hc k hk).2 (fun t ht _ => sx_ret hS ht) hS.2.2 d_ca_15
