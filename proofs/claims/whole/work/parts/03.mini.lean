/-! A SMALL MACHINE beside the large one: a heap is a row of cells, an address is a cell's place in the row; 'mm_wp': from here the method comes to its end, and there Q holds. -/
abbrev mm_H : Type := List va_E
abbrev mm_L : Type := List (Nat × Value)
/-- an instruction as the small machine has it: (its pc, its length), itself, two numbers, a value and numbers, which locals are kept ahead of it -/
abbrev mm_En : Type := (Nat × Nat) × Instr × (Nat × Nat) × (Value × List Nat) × Option (List Nat)
abbrev mm_R : Type := Option Value → mm_H → Prop
abbrev mm_C : Type := Nat → List Value → mm_H → mm_R → Prop
abbrev mm_K : Type := List mm_En → mm_L → List Value → mm_H → Nat → Nat → Prop
def mm_lod : mm_L → Nat → Option Value
  | [], _ => none
  | q :: r, i => bif Nat.beq q.1 i then some q.2 else mm_lod r i
def mm_sto (l : mm_L) (i : Nat) (v : Value) : mm_L := (i, v) :: l.filter (fun q => !(q.1 == i) && !(q.1 + 1 == i && q.2.category == 2))
def mm_stw (l : mm_L) (i : Nat) (v : Value) : mm_L := (i, v) :: l.filter (fun q => !(q.1 == i) && (!(q.1 == i + 1) && !(q.1 + 1 == i && q.2.category == 2)))
def mm_msk (mk : Option (List Nat)) (l : mm_L) : mm_L := match mk with
  | none => l
  | some ks => ks.filterMap (fun i => (mm_lod l i).map (fun v => (i, v)))
def mm_at {α : Type} : List α → Nat → Option α
  | [], _ => none
  | e :: _, 0 => some e
  | _ :: r, n + 1 => mm_at r n
def mm_set {α : Type} : List α → Nat → α → List α
  | [], _, _ => []
  | _ :: r, 0, x => x :: r
  | e :: r, n + 1, x => e :: mm_set r n x
def mm_okr (n : Nat) : Value → Bool
  | .ref k => Nat.blt k n
  | _ => true
def mm_okE (n : Nat) : va_E → Bool
  | .inr o => o.2.all (mm_okr n)
  | .inl (_, m, .inr (.inr (.inr (.inr f)))) => (List.range m).all (fun i => match f i with | some k => Nat.blt k n | none => true)
  | .inl _ => true
/-- no place of these is outside the row -/
def mm_clo (n : Nat) (l : mm_L) (st : List Value) : Bool := l.all (fun q => mm_okr n q.2) && st.all (mm_okr n)
def mm_cat : List Value → Nat
  | [] => 0
  | v :: r => v.category + mm_cat r
def mm_cmp : ClassFile.Cond → Int32 → Int32 → Prop
  | .eq, x, y => x = y
  | .ne, x, y => ¬ x = y
  | .lt, x, y => x < y
  | .ge, x, y => y ≤ x
  | .gt, x, y => y < x
  | .le, x, y => x ≤ y
def mm_i2 (f : Int32 → Int32 → Int32) (st : List Value) (k : List Value → Prop) : Prop := match st with
  | .int y :: .int x :: r => k (.int (f x y) :: r)
  | _ => False
def mm_d2 (f : Int32 → Int32 → Int32) (st : List Value) (k : List Value → Prop) : Prop := match st with
  | .int y :: .int x :: r => ¬ y = 0 ∧ k (.int (f x y) :: r)
  | _ => False
def mm_i1 (f : Int32 → Int32) (st : List Value) (k : List Value → Prop) : Prop := match st with
  | .int x :: r => k (.int (f x) :: r)
  | _ => False
def mm_l2 (f : Int64 → Int64 → Int64) (st : List Value) (k : List Value → Prop) : Prop := match st with
  | .long y :: .long x :: r => k (.long (f x y) :: r)
  | _ => False
def mm_lcmp (st : List Value) (k : List Value → Prop) : Prop := match st with
  | .long y :: .long x :: r => k (.int (lg_cmp x y) :: r)
  | _ => False
def mm_i2l (st : List Value) (k : List Value → Prop) : Prop := match st with
  | .int x :: r => k (.long x.toInt64 :: r)
  | _ => False
def mm_l2i (st : List Value) (k : List Value → Prop) : Prop := match st with
  | .long x :: r => k (.int x.toInt32 :: r)
  | _ => False
def mm_ldi (l : mm_L) (i : Nat) (k : Value → Prop) : Prop := match mm_lod l i with
  | some (.int x) => k (.int x)
  | _ => False
def mm_ldl (l : mm_L) (i : Nat) (k : Value → Prop) : Prop := match mm_lod l i with
  | some (.long x) => k (.long x)
  | _ => False
def mm_lda (l : mm_L) (i : Nat) (k : Value → Prop) : Prop := match mm_lod l i with
  | some (.ref x) => k (.ref x)
  | some .null => k .null
  | _ => False
def mm_sti (l : mm_L) (i : Nat) (st : List Value) (k : mm_L → List Value → Prop) : Prop := match st with
  | .int x :: r => k (mm_sto l i (.int x)) r
  | _ => False
def mm_stl (l : mm_L) (i : Nat) (st : List Value) (k : mm_L → List Value → Prop) : Prop := match st with
  | .long x :: r => k (mm_stw l i (.long x)) r
  | _ => False
def mm_sta (l : mm_L) (i : Nat) (st : List Value) (k : mm_L → List Value → Prop) : Prop := match st with
  | .ref x :: r => k (mm_sto l i (.ref x)) r
  | _ => False
def mm_inc (l : mm_L) (i : Nat) (v : Value) (k : mm_L → Prop) : Prop := match mm_lod l i, v with
  | some (.int x), .int c => k (mm_sto l i (.int (x + c)))
  | _, _ => False
def mm_dup (st : List Value) (k : List Value → Prop) : Prop := match st with
  | v :: r => bif Nat.beq v.category 1 then k (v :: v :: r) else False
  | _ => False
def mm_pop (st : List Value) (k : List Value → Prop) : Prop := match st with
  | v :: r => bif Nat.beq v.category 1 then k r else False
  | _ => False
def mm_dup2 (st : List Value) (k : List Value → Prop) : Prop := match st with
  | v :: w :: r => bif Nat.beq v.category 1 && Nat.beq w.category 1 then k (v :: w :: v :: w :: r) else False
  | _ => False
def mm_if (c : ClassFile.Cond) (st : List Value) (kt kf : List Value → Prop) : Prop := match st with
  | .int x :: r => (mm_cmp c x 0 → kt r) ∧ (¬ mm_cmp c x 0 → kf r)
  | _ => False
def mm_icmp (c : ClassFile.Cond) (st : List Value) (kt kf : List Value → Prop) : Prop := match st with
  | .int y :: .int x :: r => (mm_cmp c x y → kt r) ∧ (¬ mm_cmp c x y → kf r)
  | _ => False
def mm_ifn (st : List Value) (kt kf : List Value → Prop) : Prop := match st with
  | .null :: r => kt r
  | .ref _ :: r => kf r
  | _ => False
/-- the places of a table: lo, then the way out, then a place a number -/
def mm_sw (x : Int32) (k : Nat → Prop) : Int32 → List Nat → Nat → Prop
  | _, [], d => k d
  | v, t :: r, d => (x = v → k t) ∧ (¬ x = v → mm_sw x k (v + 1) r d)
def mm_tab (lo : Value) (ts : List Nat) (d : Nat) (st : List Value) (k : Nat → List Value → Prop) : Prop := match lo, st with
  | .int v, .int x :: r => mm_sw x (fun t => k t r) v ts d
  | _, _ => False
def mm_getf (h : mm_H) (ci j : Nat) (st : List Value) (k : List Value → Prop) : Prop := match st with
  | .ref a :: r => (match mm_at h a with
    | some (.inr (c, fs)) => bif Nat.beq c ci then (match mm_at fs j with | some v => k (v :: r) | none => False) else False
    | _ => False)
  | _ => False
/-- what may be put: 0 an int, 1 a boolean, 2 a reference -/
def mm_okv (kd : Nat) (v : Value) : Prop := match kd, v with
  | 0, .int _ => True
  | 1, .int x => vp_nar .boolean x = x
  | 2, .ref _ => True
  | 2, .null => True
  | _, _ => False
def mm_putf (h : mm_H) (ci j kd : Nat) (st : List Value) (k : List Value → mm_H → Prop) : Prop := match st with
  | v :: .ref a :: r => (match mm_at h a with
    | some (.inr (c, fs)) => bif Nat.beq c ci && (mm_at fs j).isSome then (mm_okv kd v ∧ k r (mm_set h a (.inr (c, mm_set fs j v)))) else False
    | _ => False)
  | _ => False
def mm_iald (h : mm_H) (st : List Value) (k : List Value → Prop) : Prop := match st with
  | .int i :: .ref a :: r => (match mm_at h a with
    | some (.inl (t, n, .inl f)) => bif Nat.beq t 0 then (vp_in i n ∧ k (.int (f i.toNatClampNeg) :: r)) else False
    | _ => False)
  | _ => False
def mm_bald (h : mm_H) (st : List Value) (k : List Value → Prop) : Prop := match st with
  | .int i :: .ref a :: r => (match mm_at h a with
    | some (.inl (t, n, .inl f)) => bif Nat.beq t 1 || Nat.beq t 2 then (vp_in i n ∧ k (.int (f i.toNatClampNeg) :: r)) else False
    | _ => False)
  | _ => False
def mm_lald (h : mm_H) (st : List Value) (k : List Value → Prop) : Prop := match st with
  | .int i :: .ref a :: r => (match mm_at h a with
    | some (.inl (t, n, .inr (.inl f))) => bif Nat.beq t 3 then (vp_in i n ∧ k (.long (f i.toNatClampNeg) :: r)) else False
    | _ => False)
  | _ => False
def mm_aald (h : mm_H) (st : List Value) (k : List Value → Prop) : Prop := match st with
  | .int i :: .ref a :: r => (match mm_at h a with
    | some (.inl (t, n, .inr (.inr (.inr (.inr f))))) => bif Nat.beq t 4 then (vp_in i n ∧ k (va_rf (f i.toNatClampNeg) :: r)) else False
    | _ => False)
  | _ => False
def mm_iast (h : mm_H) (st : List Value) (k : List Value → mm_H → Prop) : Prop := match st with
  | .int x :: .int i :: .ref a :: r => (match mm_at h a with
    | some (.inl (t, n, .inl f)) => bif Nat.beq t 0 then (vp_in i n ∧ k r (mm_set h a (.inl (t, n, .inl (upd f i.toNatClampNeg x))))) else False
    | _ => False)
  | _ => False
def mm_bast (h : mm_H) (st : List Value) (k : List Value → mm_H → Prop) : Prop := match st with
  | .int x :: .int i :: .ref a :: r => (match mm_at h a with
    | some (.inl (t, n, .inl f)) => bif Nat.beq t 1 then (vp_in i n ∧ k r (mm_set h a (.inl (t, n, .inl (upd f i.toNatClampNeg (vp_nar .byte x)))))) else bif Nat.beq t 2 then (vp_in i n ∧ k r (mm_set h a (.inl (t, n, .inl (upd f i.toNatClampNeg (vp_nar .boolean x)))))) else False
    | _ => False)
  | _ => False
def mm_last (h : mm_H) (st : List Value) (k : List Value → mm_H → Prop) : Prop := match st with
  | .long x :: .int i :: .ref a :: r => (match mm_at h a with
    | some (.inl (t, n, .inr (.inl f))) => bif Nat.beq t 3 then (vp_in i n ∧ k r (mm_set h a (.inl (t, n, .inr (.inl (vp_updL f i.toNatClampNeg x)))))) else False
    | _ => False)
  | _ => False
def mm_aast (h : mm_H) (st : List Value) (k : List Value → mm_H → Prop) : Prop := match st with
  | .ref v :: .int i :: .ref a :: r => (match mm_at h a, mm_at h v with
    | some (.inl (t, n, .inr (.inr (.inr (.inr f))))), some (.inr (c, _)) => bif Nat.beq t 4 && Nat.beq c 2 then (vp_in i n ∧ k r (mm_set h a (.inl (t, n, .inr (.inr (.inr (.inr (va_up f i.toNatClampNeg (some v))))))))) else False
    | _, _ => False)
  | _ => False
def mm_alen (h : mm_H) (st : List Value) (k : List Value → Prop) : Prop := match st with
  | .ref a :: r => (match mm_at h a with
    | some (.inl (t, x)) => bif Nat.ble t 4 then k (.int (Int32.ofNat x.1) :: r) else False
    | _ => False)
  | _ => False
/-- a new row of N numbers of a kind -/
def mm_fresh (t N : Nat) : va_E := match t with
  | 3 => .inl (3, N, .inr (.inl (fun _ => 0)))
  | 4 => .inl (4, N, .inr (.inr (.inr (.inr (fun _ => none)))))
  | t => .inl (t, N, .inl (fun _ => 0))
def mm_newa (h : mm_H) (l : mm_L) (t N : Nat) (st : List Value) (bc bs : Nat) (k : List Value → mm_H → Nat → Nat → Prop) : Prop := match st with
  | .int n :: r => (¬ n < 0 ∧ n.toNatClampNeg = N ∧ N * 8 ≤ 536870912 ∧ 1 ≤ bc ∧ N ≤ bs) ∧ (mm_clo h.length l r && h.all (mm_okE h.length)) = true ∧ k (.ref h.length :: r) (h ++ [mm_fresh t N]) (bc - 1) (bs - N)
  | _ => False
/-- what a class's new object holds -/
abbrev mm_F : Type := Nat → List Value
def mm_new (F : mm_F) (h : mm_H) (l : mm_L) (ci : Nat) (st : List Value) (bc bs : Nat) (k : List Value → mm_H → Nat → Nat → Prop) : Prop :=
  (1 ≤ bc ∧ (F ci).length ≤ bs) ∧ (mm_clo h.length l st && h.all (mm_okE h.length)) = true ∧ k (.ref h.length :: st) (h ++ [.inr (ci, F ci)]) (bc - 1) (bs - (F ci).length)
def mm_push (v : Option Value) (st : List Value) : List Value := match v with
  | some x => x :: st
  | none => st
/-- which cells and how many fields a method makes -/
abbrev mm_M : Type := Nat → Nat × Nat
def mm_call (C : mm_C) (M : mm_M) (h : mm_H) (l : mm_L) (mi na : Nat) (st : List Value) (bc bs : Nat) (k : List Value → mm_H → Nat → Nat → Prop) : Prop :=
  bif Nat.ble na st.length && Nat.ble (mm_cat (st.drop na)) 8 then
    (bif Nat.beq (M mi).1 0 && Nat.beq (M mi).2 0 then C mi (st.take na).reverse h (fun v h2 => k (mm_push v (st.drop na)) h2 bc bs)
     else ((M mi).1 ≤ bc ∧ (M mi).2 ≤ bs) ∧ mm_clo h.length l (st.drop na) = true ∧ C mi (st.take na).reverse h (fun v h2 => k (mm_push v (st.drop na)) h2 (bc - (M mi).1) (bs - (M mi).2)))
  else False
/-- the receiver is of the class that the method is of -/
def mm_recv (h : mm_H) (ci na : Nat) (st : List Value) (k : Prop) : Prop := match mm_at st (na - 1) with
  | some (.ref a) => (match mm_at h a with
    | some (.inr (c, _)) => bif Nat.beq c ci && Nat.ble 1 na then k else False
    | _ => False)
  | _ => False
def mm_obj (st : List Value) (k : List Value → Prop) : Prop := match st with
  | .ref _ :: r => bif Nat.ble (mm_cat r) 8 then k r else False
  | _ => False
def mm_cpy (h : mm_H) (st : List Value) (k : List Value → mm_H → Prop) : Prop := match st with
  | .int n :: .int dp :: .ref b :: .int sp :: .ref a :: r => (match mm_at h a, mm_at h b with
    | some (.inl (t, n0, .inl f)), some (.inl (t2, n1, .inl g)) => bif Nat.beq t 0 && Nat.beq t2 0 && Nat.ble (mm_cat r) 8 then ((¬ sp < 0 ∧ ¬ dp < 0 ∧ ¬ n < 0 ∧ sp.toNatClampNeg + n.toNatClampNeg ≤ n0 ∧ dp.toNatClampNeg + n.toNatClampNeg ≤ n1) ∧ k r (mm_set h b (.inl (t2, n1, .inl (va_cpy f g sp.toNatClampNeg dp.toNatClampNeg n.toNatClampNeg))))) else False
    | _, _ => False)
  | _ => False
/-- the larger, the smaller, the absolute -/
def mm_mm (f : Int32 → Int32 → Int32) (st : List Value) (k : List Value → Prop) : Prop := match st with
  | .int y :: .int x :: r => bif Nat.ble (mm_cat r) 8 then k (.int (f x y) :: r) else False
  | _ => False
def mm_m1 (f : Int32 → Int32) (st : List Value) (k : List Value → Prop) : Prop := match st with
  | .int x :: r => bif Nat.ble (mm_cat r) 8 then k (.int (f x) :: r) else False
  | _ => False
def mm_max (x y : Int32) : Int32 := if x < y then y else x
def mm_min (x y : Int32) : Int32 := if y < x then y else x
def mm_abs (x : Int32) : Int32 := if 0 ≤ x then x else 0 - x
/-- an int's end; kd 1: a boolean's -/
def mm_iret (Q : mm_R) (kd : Nat) (st : List Value) (h : mm_H) : Prop := match st with
  | [.int x] => bif Nat.beq kd 0 then Q (some (.int x)) h else (vp_nar .boolean x = x ∧ Q (some (.int x)) h)
  | _ => False
def mm_lret (Q : mm_R) (st : List Value) (h : mm_H) : Prop := match st with
  | [.long x] => Q (some (.long x)) h
  | _ => False
def mm_vret (Q : mm_R) (st : List Value) (h : mm_H) : Prop := match st with
  | [] => Q none h
  | _ => False
/-- one instruction; (a, b), (v, ts): its numbers -/
def mm_i (C : mm_C) (M : mm_M) (F : mm_F) (P : List mm_En) (Q : mm_R) (i : Instr) (a b : Nat) (v : Value) (ts : List Nat) (cs : List mm_En) (l : mm_L) (st : List Value) (h : mm_H) (bc bs : Nat) (k : mm_K) : Prop := match i with
  | .iconst _ => k cs l (v :: st) h bc bs
  | .bipush _ => k cs l (v :: st) h bc bs
  | .sipush _ => k cs l (v :: st) h bc bs
  | .lconst _ => k cs l (v :: st) h bc bs
  | .ldc _ => k cs l (v :: st) h bc bs
  | .ldc_w _ => k cs l (v :: st) h bc bs
  | .ldc2_w _ => k cs l (v :: st) h bc bs
  | .aconst_null => k cs l (.null :: st) h bc bs
  | .iload j => mm_ldi l j (fun x => k cs l (x :: st) h bc bs)
  | .iload_n _ => mm_ldi l a (fun x => k cs l (x :: st) h bc bs)
  | .lload j => mm_ldl l j (fun x => k cs l (x :: st) h bc bs)
  | .lload_n _ => mm_ldl l a (fun x => k cs l (x :: st) h bc bs)
  | .aload j => mm_lda l j (fun x => k cs l (x :: st) h bc bs)
  | .aload_n _ => mm_lda l a (fun x => k cs l (x :: st) h bc bs)
  | .istore j => mm_sti l j st (fun l s => k cs l s h bc bs)
  | .istore_n _ => mm_sti l a st (fun l s => k cs l s h bc bs)
  | .lstore j => mm_stl l j st (fun l s => k cs l s h bc bs)
  | .lstore_n _ => mm_stl l a st (fun l s => k cs l s h bc bs)
  | .astore j => mm_sta l j st (fun l s => k cs l s h bc bs)
  | .astore_n _ => mm_sta l a st (fun l s => k cs l s h bc bs)
  | .iinc j _ => mm_inc l j v (fun l => k cs l st h bc bs)
  | .iadd => mm_i2 (fun x y => x + y) st (fun s => k cs l s h bc bs)
  | .isub => mm_i2 (fun x y => x - y) st (fun s => k cs l s h bc bs)
  | .imul => mm_i2 (fun x y => x * y) st (fun s => k cs l s h bc bs)
  | .iand => mm_i2 (fun x y => x &&& y) st (fun s => k cs l s h bc bs)
  | .ior => mm_i2 (fun x y => x ||| y) st (fun s => k cs l s h bc bs)
  | .ixor => mm_i2 (fun x y => x ^^^ y) st (fun s => k cs l s h bc bs)
  | .ishl => mm_i2 (fun x y => x <<< (y &&& 31)) st (fun s => k cs l s h bc bs)
  | .ishr => mm_i2 (fun x y => x >>> (y &&& 31)) st (fun s => k cs l s h bc bs)
  | .iushr => mm_i2 (fun x y => (x.toUInt32 >>> (y.toUInt32 &&& Int32.toUInt32 31)).toInt32) st (fun s => k cs l s h bc bs)
  | .idiv => mm_d2 (fun x y => x / y) st (fun s => k cs l s h bc bs)
  | .irem => mm_d2 (fun x y => x - x / y * y) st (fun s => k cs l s h bc bs)
  | .ineg => mm_i1 (fun x => -x) st (fun s => k cs l s h bc bs)
  | .i2b => mm_i1 (fun x => x.toInt8.toInt32) st (fun s => k cs l s h bc bs)
  | .i2c => mm_i1 (fun x => (x.toUInt32 % 65536).toInt32) st (fun s => k cs l s h bc bs)
  | .i2l => mm_i2l st (fun s => k cs l s h bc bs)
  | .l2i => mm_l2i st (fun s => k cs l s h bc bs)
  | .ladd => mm_l2 (fun x y => x + y) st (fun s => k cs l s h bc bs)
  | .lsub => mm_l2 (fun x y => x - y) st (fun s => k cs l s h bc bs)
  | .lmul => mm_l2 (fun x y => x * y) st (fun s => k cs l s h bc bs)
  | .lcmp => mm_lcmp st (fun s => k cs l s h bc bs)
  | .dup => mm_dup st (fun s => k cs l s h bc bs)
  | .dup2 => mm_dup2 st (fun s => k cs l s h bc bs)
  | .pop => mm_pop st (fun s => k cs l s h bc bs)
  | .goto _ => k (P.drop a) l st h bc bs
  | .ifCond c _ => mm_if c st (fun s => k (P.drop a) l s h bc bs) (fun s => k cs l s h bc bs)
  | .if_icmp c _ => mm_icmp c st (fun s => k (P.drop a) l s h bc bs) (fun s => k cs l s h bc bs)
  | .ifnull _ => mm_ifn st (fun s => k (P.drop a) l s h bc bs) (fun s => k cs l s h bc bs)
  | .tableswitch _ _ _ _ => mm_tab v ts a st (fun t s => k (P.drop t) l s h bc bs)
  | .getfield _ => mm_getf h a b st (fun s => k cs l s h bc bs)
  | .putfield _ => mm_putf h a b (ts.headD 9) st (fun s h => k cs l s h bc bs)
  | .iaload => mm_iald h st (fun s => k cs l s h bc bs)
  | .baload => mm_bald h st (fun s => k cs l s h bc bs)
  | .laload => mm_lald h st (fun s => k cs l s h bc bs)
  | .aaload => mm_aald h st (fun s => k cs l s h bc bs)
  | .iastore => mm_iast h st (fun s h => k cs l s h bc bs)
  | .bastore => mm_bast h st (fun s h => k cs l s h bc bs)
  | .lastore => mm_last h st (fun s h => k cs l s h bc bs)
  | .aastore => mm_aast h st (fun s h => k cs l s h bc bs)
  | .arraylength => mm_alen h st (fun s => k cs l s h bc bs)
  | .newarray _ => mm_newa h l a b st bc bs (fun s h bc bs => k cs l s h bc bs)
  | .anewarray _ => mm_newa h l 4 b st bc bs (fun s h bc bs => k cs l s h bc bs)
  | .new _ => mm_new F h l a st bc bs (fun s h bc bs => k cs l s h bc bs)
  | .invokestatic _ => bif Nat.beq (ts.headD 0) 99 then mm_cpy h st (fun s h => k cs l s h bc bs) else bif Nat.beq (ts.headD 0) 91 then mm_mm mm_max st (fun s => k cs l s h bc bs) else bif Nat.beq (ts.headD 0) 92 then mm_mm mm_min st (fun s => k cs l s h bc bs) else bif Nat.beq (ts.headD 0) 93 then mm_m1 mm_abs st (fun s => k cs l s h bc bs) else mm_call C M h l a b st bc bs (fun s h bc bs => k cs l s h bc bs)
  | .invokevirtual _ => mm_recv h (ts.headD 0) b st (mm_call C M h l a b st bc bs (fun s h bc bs => k cs l s h bc bs))
  | .invokespecial _ => bif Nat.beq (ts.headD 0) 88 then mm_obj st (fun s => k cs l s h bc bs) else mm_recv h (ts.headD 0) b st (mm_call C M h l a b st bc bs (fun s h bc bs => k cs l s h bc bs))
  | .ireturn => mm_iret Q a st h
  | .lreturn => mm_lret Q st h
  | .return_ => mm_vret Q st h
  | _ => False
def mm_wp (C : mm_C) (M : mm_M) (F : mm_F) (P : List mm_En) (Q : mm_R) : Nat → mm_K
  | 0 => fun _ _ _ _ _ _ => False
  | n + 1 => fun cs l st h bc bs => match cs with
    | [] => False
    | e :: cs => mm_i C M F P Q e.2.1 e.2.2.1.1 e.2.2.1.2 e.2.2.2.1.1 e.2.2.2.1.2 cs (mm_msk e.2.2.2.2 l) st h bc bs (mm_wp C M F P Q n)
/-- with as many turns as it takes -/
def mm_go (C : mm_C) (M : mm_M) (F : mm_F) (P : List mm_En) (Q : mm_R) : mm_K := fun cs l st h bc bs => ∃ n, mm_wp C M F P Q n cs l st h bc bs
/-- the locals at a method's start -/
def mm_ent : Nat → List Value → mm_L
  | _, [] => []
  | i, v :: r => (i, v) :: mm_ent (i + v.category) r
/-- a method's contract, calls at most d deep; PC: how many locals, and the code -/
def mm_ct (B : mm_C) (M : mm_M) (F : mm_F) (PC : Nat → Nat × List mm_En) : Nat → mm_C
  | 0 => fun _ _ _ _ => False
  | d + 1 => fun mi args h Q => B mi args h Q ∨ (bif Nat.ble (mm_cat args) (PC mi).1 then mm_go (mm_ct B M F PC d) M F (PC mi).2 Q (PC mi).2 (mm_ent 0 args) [] h (M mi).1 (M mi).2 else False)
/-- k instructions ahead -/
theorem mm_adv {C : mm_C} {M : mm_M} {F : mm_F} {P : List mm_En} {Q : mm_R} {cs cs' : List mm_En} {l l' : mm_L} {st st' : List Value} {h h' : mm_H} {bc bs bc' bs' : Nat} (k : Nat)
    (e : ∀ n, mm_wp C M F P Q n cs' l' st' h' bc' bs' → mm_wp C M F P Q (n + k) cs l st h bc bs) (g : mm_go C M F P Q cs' l' st' h' bc' bs') : mm_go C M F P Q cs l st h bc bs := by
  obtain ⟨n, g⟩ := g
  exact ⟨n + k, e n g⟩
