/-! the law's entry (the skeleton's words) -/
/-! THE CLAIM OUT OF ONE WALK OF THE LAW'S BODY. Your part is whole_start (and what it stands on); all else here is the same for every law, but numbers. -/
def R_law : String := "CradlePairsLaw"
def lw_P (b : Addr) (xs : List Int32) (args : Array Value) (s : State) : Prop := args = #[.ref b] ∧ s.IntsAt b xs ∧ xs.length ≤ 3072 ∧ (Jvm.Cond.and given_1 narrow_1).before args s = true
def lw_Q (_ : Array Value) (s : State) (o : Outcome) (t : State) : Prop := o = .returned (some (.int 1)) ∧ Framed s o t [] 600000 7302249
def lw_Z (below : List Frame) (a : Array Value) (s : State) : State → Prop := fun t => ∃ o, t.status = .running ∧ Ended t below o ∧ lw_Q a s o t
/-- the law's own end, with 1 on the stack, nothing written that was there before, its room as the claim has it -/
theorem lw_ret {p : Program} {l : Launch} {e : Env} {s : State} {m : MethodId} {below : List Frame} {meth : Method} {c : Code} {b : Nat} (hx : p.tables.exec = Jvm.exec) (hb : c.code = code) (hr : meth.sig.returnType = ret) (hlocks : meth.locks = false) {pc : Nat} {H : Heap} {ls : Array Slot} (hdg : decode code pc = .ok (.ireturn, 1)) : W p l e room_1 s m #[Value.ref b] below meth c H [] 600000 7302249 (lw_Z below #[Value.ref b] s) (F0 m pc ls [.int 1]) := by
  intro T hT X
  obtain ⟨fs, hret, hrun, hended, hW, hframe⟩ := X.leave (v := some (.int 1)) (hlocks := hlocks) (fun h => by rw [hr] at h; cases h)
  have hmeth' : T.vm.method? m = some meth := X.method'
  refine ⟨T.setFrames fs, ?_, .returned (some (.int 1)), hrun, hended, rfl, ⟨_, rfl⟩, hW, hframe⟩
  jvm_step X.here [X.here.top, hx, hb, hdg, hmeth', hr, ret, narrow_b1]
  (try refine ⟨rfl, ?_⟩); (try refine ⟨rfl, ?_⟩)
  first | (intro acts; rw [hret _ acts rfl rfl rfl]) | rw [hret _ _ rfl rfl rfl]
  exact Steps.refl _
/-- what holds at the law's entry: the machine, the code, the tables' words (any of lw_tbl by 'hts w (by decide +kernel)'), the script of L ints xs at the cell b, what the Statement gives of the start (any of its parts by flat_of_before) -/
def lw_At (p : Program) (s : State) (m : MethodId) (meth : Method) (c : Code) (b L : Nat) (xs : Nat → Int32) : Prop :=
  p.tables.exec = Jvm.exec ∧ c.code = code ∧ meth.sig.returnType = ret ∧ c.maxLocals = 4 ∧ s.vm.findClass R_law = some m.cls ∧ (∀ w ∈ lw_tbl, w.before #[Value.ref b] s = true) ∧ va_X b L xs s s.heap ∧ b < s.heap.size ∧ meth.locks = false ∧ (Jvm.Cond.and given_1 narrow_1).before #[Value.ref b] s = true
/-! the law's calls, over two worlds -/
theorem lw_Pl {D : va_G} {cl : List vw_C} {a b : va_W} {H : Heap} (h : va_P D cl (a ++ b) H) : va_P D cl a H := by
  intro k q hk
  have hl : k < a.length := (List.getElem?_eq_some_iff.mp hk).1
  exact h k q (by rw [List.getElem?_append_left hl]; exact hk)
theorem lw_Pr {D : va_G} {cl : List vw_C} {a b : va_W} {H : Heap} (h : va_P D cl (a ++ b) H) : va_P D cl b H := by
  intro k q hk
  exact h (a.length + k) q (by rw [List.getElem?_append_right (Nat.le_add_right _ _), Nat.add_sub_cancel_left]; exact hk)
theorem lw_al {a b : va_W} {k : Nat} {q : Nat × va_E} (hk : a[k]? = some q) : (a ++ b)[k]? = some q := by
  have hl : k < a.length := (List.getElem?_eq_some_iff.mp hk).1
  rw [List.getElem?_append_left hl]; exact hk
theorem lw_ar {a b : va_W} {k : Nat} {q : Nat × va_E} (hk : b[k]? = some q) : (a ++ b)[a.length + k]? = some q := by
  rw [List.getElem?_append_right (Nat.le_add_right _ _), Nat.add_sub_cancel_left]; exact hk
theorem lw_Dl {A : Nat → Prop} {a b : va_W} (h : va_D A (a ++ b)) : va_D A a :=
  ⟨fun i j p q hi hj e => h.1 i j p q (lw_al hi) (lw_al hj) e, fun k q hk => h.2 k q (lw_al hk)⟩
theorem lw_Dr {A : Nat → Prop} {a b : va_W} (h : va_D A (a ++ b)) : va_D A b :=
  ⟨fun i j p q hi hj e => Nat.add_left_cancel (h.1 _ _ p q (lw_ar hi) (lw_ar hj) e), fun k q hk => h.2 _ q (lw_ar hk)⟩
theorem lw_ap {A : Nat → Prop} {a b : va_W} (h : va_D A (a ++ b)) (i j : Nat) (x y : Nat × va_E) (hx : a[i]? = some x) (hy : b[j]? = some y) : ¬ x.1 = y.1 := by
  intro e
  have h1 := h.1 _ _ x y (lw_al hx) (lw_ar hy) e
  have hl : i < a.length := (List.getElem?_eq_some_iff.mp hx).1
  omega
theorem lw_comm {A : Nat → Prop} {D : va_G} {cl : List vw_C} {a b : va_W} {H : Heap} (hP : va_P D cl (a ++ b) H) (hD : va_D A (a ++ b)) : va_P D cl (b ++ a) H ∧ va_D A (b ++ a) :=
  ⟨va_P.app (lw_Pr hP) (lw_Pl hP), va_D.app (lw_Dr hD) (lw_Dl hD) (fun i j x y hx hy e => lw_ap hD j i y x hy hx e.symm)⟩
theorem lw_join {A : Nat → Prop} {D : va_G} {cl : List vw_C} {w1 w2 w3 : va_W} {H H1 : Heap} (hP : va_P D cl (w1 ++ w2) H) (hD : va_D A (w1 ++ w2)) (hk : ∀ q : Nat, q < H.size → ¬ va_A w1 H.size q → H1[q]? = H[q]?) (hF : ∀ q, va_A w1 H.size q → A q) (hP1 : va_P D cl w3 H1) (hD1 : va_D (va_A w1 H.size) w3) : va_P D cl (w3 ++ w2) H1 ∧ va_D A (w3 ++ w2) := by
  have apart : ∀ (k : Nat) (q : Nat × va_E), w2[k]? = some q → q.1 < H.size ∧ ¬ va_A w1 H.size q.1 := by
    intro k q hq
    have hl := (lw_Pr hP k q hq).lt
    refine ⟨hl, fun h => ?_⟩
    rcases h with ⟨k2, e, h⟩ | h
    · exact lw_ap hD k2 k (q.1, e) q h hq rfl
    · omega
  refine ⟨va_P.app hP1 (fun k q hq => ?_), va_D.app (hD1.weaken (fun k q _ h => hF q.1 h)) (lw_Dr hD) (fun i j x y hx hy hxy => ?_)⟩
  · obtain ⟨g1, g2⟩ := apart k q hq
    exact (lw_Pr hP k q hq).kept (hk q.1 g1 g2)
  · exact (apart j y hy).2 (by rw [← hxy]; exact hD1.2 i x hx)
/-- the same cells under other names: a row of places, each once -/
theorem lw_perm {A : Nat → Prop} {D : va_G} {cl : List vw_C} {w1 w2 w3 : va_W} {H : Heap} (is : List Nat) (hs : is.map (fun i => w1[i]?) = w3.map some) (hn : va_nd is = true) (hP : va_P D cl (w1 ++ w2) H) (hD : va_D A (w1 ++ w2)) : va_P D cl (w3 ++ w2) H ∧ va_D A (w3 ++ w2) := by
  have at' : ∀ (k : Nat) (q : Nat × va_E), w3[k]? = some q → ∃ i, is[k]? = some i ∧ w1[i]? = some q := by
    intro k q hq
    have h1 : (is.map (fun i => w1[i]?))[k]? = some (some q) := by rw [hs, List.getElem?_map, hq]; rfl
    rw [List.getElem?_map] at h1
    cases hi : is[k]? with
    | none => rw [hi] at h1; cases h1
    | some i => rw [hi] at h1; exact ⟨i, rfl, Option.some.inj h1⟩
  refine ⟨va_P.app (fun k q hq => ?_) (lw_Pr hP), va_D.app ((lw_Dl hD).sub is hn hs) (lw_Dr hD) (fun i j x y hx hy hxy => ?_)⟩
  · obtain ⟨i, h1, h2⟩ := at' k q hq
    exact lw_Pl hP i q h2
  · obtain ⟨i2, h1, h2⟩ := at' i x hx
    exact lw_ap hD i2 j x y h2 hy hxy
def lw_Cx (p : Program) (s : State) (m : MethodId) (meth : Method) (c : Code) (b L : Nat) (xs : Nat → Int32) (D : va_G) (E : Nat → ClassId) (Xt : mm_Xt) : Prop := lw_At p s m meth c b L xs ∧ va_K D vwCl (mm_ty E) s ∧ Xt (fun q : Nat => s.heap.size ≤ q) s ∧ mm_Xok Xt
theorem lw_pre {p : Program} {s : State} {m : MethodId} {meth : Method} {c : Code} {b L : Nat} {xs : Nat → Int32} {D : va_G} {E : Nat → ClassId} {Xt : mm_Xt} (Cx : lw_Cx p s m meth c b L xs D E Xt) (as : List Value) {w2 : va_W} {h : mm_H} {ad : Nat → Nat} {H : Heap} {locs : List Loc} (hP : va_P D vwCl (mm_wr E ad h ++ w2) H) (hD : va_D (fun q : Nat => s.heap.size ≤ q) (mm_wr E ad h ++ w2)) (hS : va_S (fun q : Nat => s.heap.size ≤ q) s.heap H locs) : (∀ q, va_A (mm_wr E ad h) H.size q → s.heap.size ≤ q) ∧ PreS s H (mm_Pc D E Xt ad H.size as h) (as.map (mm_vr ad)) := by
  obtain ⟨-, hKK, hXt, hXok⟩ := Cx
  have hPl := lw_Pl hP
  have hDl := lw_Dl hD
  have hF : ∀ q, va_A (mm_wr E ad h) H.size q → s.heap.size ≤ q := by
    intro q hq
    rcases hq with ⟨k2, e2, hk2⟩ | hq
    · exact hDl.2 k2 _ hk2
    · exact Nat.le_trans hS.1 hq
  exact ⟨hF, mm_pblind hXok, fun U hU hW => ⟨rfl, by rw [hU], by rw [hU]; exact hPl, va_K.moved hW.alike hKK, hDl.weaken (fun _ _ _ _ => trivial), hXok.1 _ _ s U hXt hF hW (by rw [hU]; exact hS.1) (fun q h1 h2 => by rw [hU]; exact hS.2.1 q h1 h2)⟩⟩
/-- a call of a method that makes nothing -/
theorem lw_vcall {p : Program} {l : Launch} {e : Env} {s : State} {m : MethodId} {below : List Frame} {meth : Method} {c : Code} {b L : Nat} {xs : Nat → Int32} {D : va_G} {E : Nat → ClassId} {Xt : mm_Xt} {Z : State → Prop}
    (Cx : lw_Cx p s m meth c b L xs D E Xt) {d mi na ci ix pc : Nat} {As rest : List Value} {w2 : va_W} {h : mm_H} {ad : Nat → Nat} {Q : mm_R} {H : Heap} {locs : List Loc} {cells slots : Nat} {ls : Array Slot} {fs : List Value}
    (hC : ∃ t1, mm_at mm_T mi = some t1 ∧ t1.2.2.1 ≤ 40 ∧ mm_Met l D E Xt d t1 (mm_Mk mi).1 (mm_Mk mi).2 (.ref 0 :: As) h Q) (hM : mm_Mk mi = (0, 0))
    (hK : mm_isK mi 1 na ci = true) (hlen : As.length = na - 1) (hAs : As.map (mm_vr ad) = As)
    (hln : Cond.methodLink R_law ix (mm_y mi) ∈ lw_tbl) (h0 : mm_at h 0 = some (.inr (ci, fs)))
    (hdep : d ≤ 1000) (hcat : (rest.map fun v => v.category).sum ≤ 8) (hls : ls.size = 4)
    (hd : decode code pc = .ok (.invokevirtual ix, 3))
    (hP : va_P D vwCl (mm_wr E ad h ++ w2) H) (hD : va_D (fun q : Nat => s.heap.size ≤ q) (mm_wr E ad h ++ w2)) (hS : va_S (fun q : Nat => s.heap.size ≤ q) s.heap H locs) (hfit : cells ≤ 600000 ∧ slots ≤ 7302249)
    (kk : ∀ (v : Option Value) (h2 : mm_H) (H1 : Heap) (locs1 : List Loc), Q v h2 → h2.length = h.length → va_P D vwCl (mm_wr E ad h2 ++ w2) H1 → va_D (fun q : Nat => s.heap.size ≤ q) (mm_wr E ad h2 ++ w2) → va_S (fun q : Nat => s.heap.size ≤ q) s.heap H1 locs1 → W p l e room_1 s m #[Value.ref b] below meth c H1 locs1 cells slots Z (F0 m (pc + 3) ls ((v.map (mm_vr ad)).toList ++ rest))) :
    W p l e room_1 s m #[Value.ref b] below meth c H locs cells slots Z (F0 m pc ls (As.reverse ++ .ref (ad 0) :: rest)) := by
  obtain ⟨hF, hpre⟩ := lw_pre Cx (.ref 0 :: As) hP hD hS
  obtain ⟨⟨hx, hb, hr, hml, hown, hts0, hX, hbl, hlocks, hgv⟩, hKK, hXt, hXok⟩ := Cx
  have hts : ∀ w ∈ mm_tG, w.before #[Value.ref b] s = true := fun w hw => hts0 w (mm_tg hw).1
  obtain ⟨t1, ht1, hL1, hMt⟩ := hC
  rw [hM] at hMt
  obtain ⟨k1, k2, k3, k4, k5, k6, k7, k8⟩ := mm_kind hK ht1
  obtain ⟨k61, k62, k63, k64, k65⟩ := k6 (by decide)
  obtain ⟨CC, TT, NN, ty, g1, g2, g3, g4, g5, g6, g7, g8, g9, g10⟩ := mm_cls ci k65
  have hcls : t1.1.cls = CC := by
    have h9 := mm_tcls k1
    rw [k64] at h9
    rw [h9]
    exact mm_own_cl k65 g2
  have hpv : PreV s H CC (ad 0) (mm_Pc D E Xt ad H.size (.ref 0 :: As) h) (As.map (mm_vr ad)) := ⟨hpre.1, va_recv hKK (lw_Pl hP) g1 (mm_wr_at h0), hpre.2⟩
  have hroom : (mm_rm d 0 0).frames + 1 ≤ room_1.frames ∧ 8 + (t1.2.2.1 + 11) + (mm_rm d 0 0).locals ≤ room_1.locals := ⟨by show d + 1 ≤ 2048; omega, by show 8 + (t1.2.2.1 + 11) + 64 * d ≤ 84000; omega⟩
  have hst : (F0 m pc ls (As.reverse ++ .ref (ad 0) :: rest)).stack = (As.map (mm_vr ad)).reverse ++ .ref (ad 0) :: rest := by
    rw [hAs]
  have hal : (As.map (mm_vr ad)).length = na - 1 := by rw [hAs]; exact hlen
  have hfit2 : cells + 0 ≤ room_1.cells ∧ slots + 0 ≤ room_1.slots := hfit
  refine mm_callW (A1 := va_A (mm_wr E ad h) H.size) (va_runV (C := CC) ⟨hx, hb, hml, hown, hts⟩ (hMt ad H.size) ⟨callB_of (na - 1) hts (mm_good k1) rfl rfl rfl (hts _ k3) (hts0 _ (k2 ▸ hln)) ⟨k4.1, k4.2, k63⟩ hroom, hts _ k61, hcls ▸ hts _ (k7 rfl)⟩ hpv rfl hal hls hst (lv_room hcat) hd hfit2) hS (fun q _ h => hF q h) hF (fun v h2 ad2 H1 locs1 hq hag hP1 hD1 hz hk hS1 => ?_)
  have e3 : h2.length = h.length := by have := hag.1; have := hag.2.1; omega
  have e4 : ad2 = ad := hag.2.2.2 e3
  rw [e4] at hP1 hD1 ⊢
  obtain ⟨hP2, hD2⟩ := lw_join hP hD hk hF hP1 hD1
  exact kk v h2 H1 locs1 hq e3 hP2 hD2 hS1
/-- a call of a maker -/
theorem lw_icall {p : Program} {l : Launch} {e : Env} {s : State} {m : MethodId} {below : List Frame} {meth : Method} {c : Code} {b L : Nat} {xs : Nat → Int32} {D : va_G} {E : Nat → ClassId} {Xt : mm_Xt} {Z : State → Prop}
    (Cx : lw_Cx p s m meth c b L xs D E Xt) {d mi ci ix pc mc ms : Nat} {rest : List Value} {w2 : va_W} {h : mm_H} {ad : Nat → Nat} {Q : mm_R} {H : Heap} {locs : List Loc} {cells slots : Nat} {ls : Array Slot}
    (hC : ∃ t1, mm_at mm_T mi = some t1 ∧ t1.2.2.1 ≤ 40 ∧ mm_Met l D E Xt d t1 (mm_Mk mi).1 (mm_Mk mi).2 [.ref 0] h Q) (hM : mm_Mk mi = (mc, ms))
    (hK : mm_isK mi 2 1 ci = true) (hpos : 0 < h.length)
    (hln : Cond.methodLink R_law ix (mm_y mi) ∈ lw_tbl)
    (hdep : d ≤ 1000) (hcat : (rest.map fun v => v.category).sum ≤ 8) (hls : ls.size = 4)
    (hd : decode code pc = .ok (.invokespecial ix, 3))
    (hP : va_P D vwCl (mm_wr E ad h ++ w2) H) (hD : va_D (fun q : Nat => s.heap.size ≤ q) (mm_wr E ad h ++ w2)) (hS : va_S (fun q : Nat => s.heap.size ≤ q) s.heap H locs) (hfit : cells + mc ≤ 600000 ∧ slots + ms ≤ 7302249)
    (kk : ∀ (v : Option Value) (h2 : mm_H) (ad2 : Nat → Nat) (H1 : Heap) (locs1 : List Loc), Q v h2 → ad2 0 = ad 0 → va_P D vwCl (mm_wr E ad2 h2 ++ w2) H1 → va_D (fun q : Nat => s.heap.size ≤ q) (mm_wr E ad2 h2 ++ w2) → va_S (fun q : Nat => s.heap.size ≤ q) s.heap H1 locs1 → W p l e room_1 s m #[Value.ref b] below meth c H1 locs1 (cells + mc) (slots + ms) Z (F0 m (pc + 3) ls ((v.map (mm_vr ad2)).toList ++ rest))) :
    W p l e room_1 s m #[Value.ref b] below meth c H locs cells slots Z (F0 m pc ls (.ref (ad 0) :: rest)) := by
  obtain ⟨hF, hpre⟩ := lw_pre Cx [.ref 0] hP hD hS
  obtain ⟨⟨hx, hb, hr, hml, hown, hts0, hX, hbl, hlocks, hgv⟩, hKK, hXt, hXok⟩ := Cx
  have hts : ∀ w ∈ mm_tG, w.before #[Value.ref b] s = true := fun w hw => hts0 w (mm_tg hw).1
  obtain ⟨t1, ht1, hL1, hMt⟩ := hC
  rw [hM] at hMt
  obtain ⟨k1, k2, k3, k4, k5, k6, k7, k8⟩ := mm_kind hK ht1
  obtain ⟨k61, k62, k63, k64, k65⟩ := k6 (by decide)
  have hnone := mm_initr k1 (k8 rfl)
  have hpi : PreS s H (mm_Pc D E Xt ad H.size [.ref 0] h) (.ref (ad 0) :: []) := hpre
  have hroom : (mm_rm d mc ms).frames + 1 ≤ room_1.frames ∧ 8 + (t1.2.2.1 + 11) + (mm_rm d mc ms).locals ≤ room_1.locals := ⟨by show d + 1 ≤ 2048; omega, by show 8 + (t1.2.2.1 + 11) + 64 * d ≤ 84000; omega⟩
  have hfit2 : cells + mc ≤ room_1.cells ∧ slots + ms ≤ room_1.slots := hfit
  refine mm_callW (A1 := va_A (mm_wr E ad h) H.size) (va_runI (As := []) ⟨hx, hb, hml, hown, hts⟩ (hMt ad H.size) ⟨callB_of 0 hts (mm_good k1) (by rw [mm_ws, hnone]) rfl rfl (hts _ k3) (hts0 _ (k2 ▸ hln)) ⟨k4.1, k4.2, k63⟩ hroom, k8 rfl, hts _ k61⟩ hpi rfl rfl hls rfl (lv_room hcat) hd hfit2) hS (fun q _ h => hF q h) hF (fun v h2 ad2 H1 locs1 hq hag hP1 hD1 hz hk hS1 => ?_)
  obtain ⟨hP2, hD2⟩ := lw_join hP hD hk hF hP1 hD1
  exact kk v h2 ad2 H1 locs1 hq (hag.2.2.1 0 hpos) hP2 hD2 hS1
