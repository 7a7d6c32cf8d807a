/-! which instruction is in order: what the large machine wants to know of it -/
def mm_own (o : Nat) : String := match mm_at mm_cn o with
  | some s => s
  | none => ""
def mm_pcAt (P : List mm_En) (j : Nat) (z : Int) : Bool := match mm_at P j with
  | some e => decide (z = (e.1.1 : Int))
  | none => false
def mm_inI (o n : Nat) (v : Value) : Bool := match v with
  | .int x => mm_CI.any (fun q => Nat.beq q.1 o && Nat.beq q.2.1 n && decide (q.2.2.1 = x))
  | _ => false
def mm_inJ (o n : Nat) (v : Value) : Bool := match v with
  | .long x => mm_CJ.any (fun q => Nat.beq q.1 o && Nat.beq q.2.1 n && decide (q.2.2.1 = x))
  | _ => false
def mm_inF (o n ci k : Nat) : Bool := mm_FL.any (fun q => Nat.beq q.1 o && Nat.beq q.2.1 n && Nat.beq q.2.2.1 ci && Nat.beq q.2.2.2.1 k)
def mm_in3 (l : List (Nat × Nat × Nat × Nat)) (o n c : Nat) : Bool := l.any (fun q => Nat.beq q.1 o && Nat.beq q.2.1 n && Nat.beq q.2.2.1 c)
/-- the field's type, as its kind has it -/
def mm_kd (ty : FieldType) : Nat := match ty with
  | .int => 0
  | .boolean => 1
  | .object _ => 2
  | .array _ => 2
  | _ => 9
def mm_tyk (ci k : Nat) : FieldType := match ci with
  | 0 => tyX0 k | 1 => tyX1 k | 2 => tyX2 k | 3 => tyX3 k | 4 => tyX4 k | 5 => tyX5 k | 6 => tyX6 k | 7 => tyX7 k | 8 => tyX8 k | 9 => tyX9 k | 10 => tyX10 k | 11 => tyX11 k | _ => tyX12 k
def mm_fin (ci k : Nat) : Bool := match mm_at vwCl ci with
  | some q => (q.2.1 k).2.2.2
  | none => true
def mm_fcl (ci k : Nat) : String := match mm_at vwCl ci with
  | some q => (q.2.1 k).1
  | none => ""
def mm_tag : ArrayType → Nat
  | .int => 0
  | .byte => 1
  | .boolean => 2
  | .long => 3
  | _ => 9
def mm_tsw (P : List mm_En) (pc : Nat) : List Int → List Nat → Bool
  | [], [] => true
  | z :: zs, t :: ts => mm_pcAt P t ((pc : Int) + z) && mm_tsw P pc zs ts
  | _, _ => false
/-- a method of this kind (0 static, 1 of an object, 2 a maker) with as many arguments -/
def mm_isK (mi kd na ci : Nat) : Bool := match mm_at mm_T mi with
  | some t => decide ((parseMethodDescriptor t.1.desc).map (fun d => d.parameters.length) = some (na - bif Nat.beq kd 0 then 0 else 1)) && Nat.ble (bif Nat.beq kd 0 then 0 else 1) na && (bif Nat.beq kd 0 then true else Nat.beq t.2.2.2.2.1 ci && Nat.ble ci 12) && decide ((kd = 2) ↔ (t.1.name = "<init>")) && decide ((kd = 0) ↔ (mm_ST.contains mi = true))
  | none => false
def mm_okS (L : Nat) (r : Option FieldType) (o : Nat) (ini : Bool) (P : List mm_En) (pc len : Nat) (i : Instr) (a b : Nat) (v : Value) (ts : List Nat) : Bool := match i with
  | .iconst n => decide (len = 1) && decide (v = .int (Int32.ofInt n))
  | .bipush n => decide (len = 2) && decide (v = .int (Int8.ofInt n).toInt32)
  | .sipush n => decide (len = 3) && decide (v = .int (Int16.ofInt n).toInt32)
  | .lconst n => decide (len = 1) && decide (v = .long (Int64.ofNat (n : Nat)))
  | .ldc n => decide (len = 2) && mm_inI o n v
  | .ldc_w n => decide (len = 3) && mm_inI o n v
  | .ldc2_w n => decide (len = 3) && mm_inJ o n v
  | .aconst_null => decide (len = 1)
  | .iload _ => decide (len = 2)
  | .lload _ => decide (len = 2)
  | .aload _ => decide (len = 2)
  | .iload_n k => decide (len = 1) && decide ((k : Nat) = a)
  | .lload_n k => decide (len = 1) && decide ((k : Nat) = a)
  | .aload_n k => decide (len = 1) && decide ((k : Nat) = a)
  | .istore j => decide (len = 2) && decide (j < L)
  | .lstore j => decide (len = 2) && decide (j + 1 < L)
  | .astore j => decide (len = 2) && decide (j < L)
  | .istore_n k => decide (len = 1) && decide ((k : Nat) = a) && decide (a < L)
  | .lstore_n k => decide (len = 1) && decide ((k : Nat) = a) && decide (a + 1 < L)
  | .astore_n k => decide (len = 1) && decide ((k : Nat) = a) && decide (a < L)
  | .iinc j n => decide (len = 3) && decide (v = .int (Int32.ofInt n)) && decide (j < L)
  | .goto z => decide (len = 3) && mm_pcAt P a ((pc : Int) + z)
  | .ifCond _ z => decide (len = 3) && mm_pcAt P a ((pc : Int) + z)
  | .if_icmp _ z => decide (len = 3) && mm_pcAt P a ((pc : Int) + z)
  | .ifnull z => decide (len = 3) && mm_pcAt P a ((pc : Int) + z)
  | .tableswitch d lo hi offs => mm_pcAt P a ((pc : Int) + d) && decide (v = .int (Int32.ofInt lo)) && decide (0 ≤ lo) && decide (hi < 100000) && decide (hi + 1 = lo + (ts.length : Int)) && mm_tsw P pc offs.toList ts
  | .getfield n => decide (len = 3) && mm_inF o n a b
  | .putfield n => decide (len = 3) && mm_inF o n a b && decide (ts.headD 9 = mm_kd (mm_tyk a b)) && (bif mm_fin a b then ini && decide (mm_fcl a b = mm_own o) else true)
  | .newarray t => decide (len = 2) && decide (mm_tag t = a) && decide (a < 4)
  | .anewarray n => decide (len = 3) && mm_in3 mm_CL o n 2
  | .new n => decide (len = 3) && mm_in3 mm_CL o n a && Nat.ble a 12
  | .invokestatic n => decide (len = 3) && (bif Nat.beq (ts.headD 0) 99 then mm_in3 mm_AC o n 0 else bif Nat.beq (ts.headD 0) 91 then mm_in3 mm_MM o n 91 else bif Nat.beq (ts.headD 0) 92 then mm_in3 mm_MM o n 92 else bif Nat.beq (ts.headD 0) 93 then mm_in3 mm_MM o n 93 else (mm_in3 mm_ML o n a || mm_in3 mm_NL o n a) && mm_isK a 0 b 0)
  | .invokevirtual n => decide (len = 3) && (mm_in3 mm_ML o n a || mm_in3 mm_NL o n a) && mm_isK a 1 b (ts.headD 0)
  | .invokespecial n => decide (len = 3) && (bif Nat.beq (ts.headD 0) 88 then mm_in3 mm_OI o n 0 else (mm_in3 mm_ML o n a || mm_in3 mm_NL o n a) && mm_isK a 2 b (ts.headD 0))
  | .ireturn => decide (len = 1) && (bif Nat.beq a 0 then decide (r = some .int) else decide (r = some .boolean))
  | .lreturn => decide (len = 1) && decide (r = some .long)
  | .return_ => decide (len = 1) && decide (r = none)
  | _ => decide (len = 1)
def mm_okI (L : Nat) (r : Option FieldType) (o : Nat) (ini : Bool) (P : List mm_En) : List mm_En → Bool
  | [] => true
  | e :: cs => (match cs with | [] => true | e2 :: _ => Nat.beq e2.1.1 (e.1.1 + e.1.2)) && mm_okS L r o ini P e.1.1 e.1.2 e.2.1 e.2.2.1.1 e.2.2.1.2 e.2.2.2.1.1 e.2.2.2.1.2 && mm_okI L r o ini P cs
/-- the bytes are these instructions -/
def mm_dck (c : ByteArray) (P : List mm_En) : Bool := P.all (fun e => decide (decode c e.1.1 = .ok (e.2.1, e.1.2)))
def mm_okM (t : mm_Mt) : Bool := mm_okI t.2.2.1 t.2.2.2.1 t.2.2.2.2.1 (decide (t.1.name = "<init>")) t.2.2.2.2.2 t.2.2.2.2.2 && (match t.2.2.2.2.2 with | [] => true | e :: _ => Nat.beq e.1.1 0) && Nat.ble t.2.2.1 40 && plainName t.1.cls && decide (t.1.cls = mm_own t.2.2.2.2.1)
