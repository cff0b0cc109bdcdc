/-! A pure evaluator of the bytecode: addresses are numbers in the order of making (below ev_S: what is there from the start and never written), memory is a function. Its soundness over the machine is part 04. -/
abbrev ev_E : Type := (Nat × List Value) ⊕ ((Nat × Nat × (Nat → Int32)) ⊕ ((Nat × (Nat → Int64)) ⊕ (Nat × (Nat → Option Nat))))
abbrev ev_H : Type := Nat × (Nat → Option ev_E)
abbrev ev_L : Type := List (Option Value)
/-- what a step comes to: the next place (with the cells and slots that it makes); an answer; a call; a throw -/
abbrev ev_A : Type := (Nat × Nat × Nat × ev_L × List Value × ev_H) ⊕ (Option Value ⊕ ((Nat × List Value × List Value) ⊕ Nat))
abbrev ev_O (k : List Value) : ev_E := .inl (0, k)
/-- an object's cell, an array of ints (0: int, 1: byte), of longs, of references -/
abbrev ev_ob (c : Nat) (fs : List Value) : ev_E := .inl (c, fs)
abbrev ev_ia (t n : Nat) (f : Nat → Int32) : ev_E := .inr (.inl (t, n, f))
abbrev ev_la (n : Nat) (f : Nat → Int64) : ev_E := .inr (.inr (.inl (n, f)))
abbrev ev_ra (n : Nat) (f : Nat → Option Nat) : ev_E := .inr (.inr (.inr (n, f)))
def ev_up (f : Nat → Option ev_E) (a : Nat) (e : ev_E) : Nat → Option ev_E := fun j => if j = a then some e else f j
/-- an int array that can be read at i -/
def ev_in (i : Int32) (n : Nat) : Bool := decide (¬ (i < 0 ∨ n ≤ i.toNatClampNeg))
def ev_f (M pc : Nat) : Option (Instr × Nat) := match decode (ev_cd M) pc with
  | .ok r => some r
  | .error _ => none
def ev_kl (x : Option Value) : Option Value := match x with
  | some v => if v.category = 2 then none else some v
  | none => none
/-- a value of one slot is stored -/
def ev_s1 : ev_L → Nat → Value → ev_L
  | [], _, _ => []
  | _ :: l, 0, v => some v :: l
  | x :: l, i + 1, v => (if i = 0 then ev_kl x else x) :: ev_s1 l i v
def ev_un : ev_L → Nat → ev_L
  | [], _ => []
  | _ :: l, 0 => none :: l
  | x :: l, i + 1 => (if i = 0 then ev_kl x else x) :: ev_un l i
/-- a value of two slots is stored -/
def ev_s2 : ev_L → Nat → Value → ev_L
  | [], _, _ => []
  | _ :: [], 0, v => [some v]
  | _ :: _ :: l, 0, v => some v :: none :: l
  | x :: l, i + 1, v => (if i = 0 then ev_kl x else x) :: ev_s2 l i v
/-- a method's locals at its entry -/
def ev_ar : List Value → ev_L
  | [] => []
  | v :: r => if v.category = 2 then some v :: none :: ev_ar r else some v :: ev_ar r
def ev_en (M : Nat) (av : List Value) : ev_L := ev_ar av ++ List.replicate (ev_ml M - (ev_ar av).length) none
def ev_tg (pc : Nat) (off : Int) : Option Nat := if 0 ≤ (pc : Int) + off then some ((pc : Int) + off).toNat else none
/-- what needs the stack alone -/
def ev_pu (i : Instr) (n : Nat) (st : List Value) : Option (List Value) :=
  match i, n, st with
  | .iconst k, 1, st => some (.int (Int32.ofInt k) :: st)
  | .bipush k, 2, st => some (.int (Int8.ofInt k).toInt32 :: st)
  | .sipush k, 3, st => some (.int (Int16.ofInt k).toInt32 :: st)
  | .lconst k, 1, st => some (.long (Int64.ofNat (k : Nat)) :: st)
  | .fconst 0, 1, st => some (.float FP.fconst0 :: st)
  | .dconst 0, 1, st => some (.double FP.dconst0 :: st)
  | .fconst 1, 1, st => some (.float FP.fconst1 :: st)
  | .dconst 1, 1, st => some (.double FP.dconst1 :: st)
  | .iadd, 1, .int y :: .int x :: st => some (.int (x + y) :: st)
  | .isub, 1, .int y :: .int x :: st => some (.int (x - y) :: st)
  | .imul, 1, .int y :: .int x :: st => some (.int (x * y) :: st)
  | .idiv, 1, .int y :: .int x :: st => if y = 0 then none else some (.int (x / y) :: st)
  | .irem, 1, .int y :: .int x :: st => if y = 0 then none else some (.int (x - x / y * y) :: st)
  | .ineg, 1, .int x :: st => some (.int (-x) :: st)
  | .iand, 1, .int y :: .int x :: st => some (.int (x &&& y) :: st)
  | .ior, 1, .int y :: .int x :: st => some (.int (x ||| y) :: st)
  | .ishl, 1, .int y :: .int x :: st => some (.int (x <<< (y &&& 31)) :: st)
  | .ishr, 1, .int y :: .int x :: st => some (.int (x >>> (y &&& 31)) :: st)
  | .iushr, 1, .int y :: .int x :: st => some (.int (x.toUInt32 >>> (y.toUInt32 &&& Int32.toUInt32 31)).toInt32 :: st)
  | .i2l, 1, .int x :: st => some (.long x.toInt64 :: st)
  | .i2b, 1, .int x :: st => some (.int x.toInt8.toInt32 :: st)
  | .i2c, 1, .int x :: st => some (.int (x.toUInt32 % 65536).toInt32 :: st)
  | .i2f, 1, .int x :: st => some (.float (FP.i2f x) :: st)
  | .i2d, 1, .int x :: st => some (.double (FP.i2d x) :: st)
  | .f2d, 1, .float x :: st => if (FP.f2d x) &&& 0x7fffffffffffffff ≤ 0x7ff0000000000000 then some (.double (FP.f2d x) :: st) else none
  | .fdiv, 1, .float y :: .float x :: st => if (FP.fdiv x y) &&& 0x7fffffff ≤ 0x7f800000 then some (.float (FP.fdiv x y) :: st) else none
  | .ddiv, 1, .double y :: .double x :: st => if (FP.ddiv x y) &&& 0x7fffffffffffffff ≤ 0x7ff0000000000000 then some (.double (FP.ddiv x y) :: st) else none
  | .dcmp op, 1, .double y :: .double x :: st => some (.int (Op.cmpValue (FP.dcmp x y) op) :: st)
  | .lcmp, 1, .long y :: .long x :: st => some (.int (lg_cmp x y) :: st)
  | .fcmp op, 1, .float y :: .float x :: st => some (.int (Op.cmpValue (FP.fcmp x y) op) :: st)
  | .dup2, 1, v :: w :: st => if v.category = 1 ∧ w.category = 1 then some (v :: w :: v :: w :: st) else none
  | .dup, 1, v :: st => if v.category = 1 then some (v :: v :: st) else none
  | .pop, 1, v :: st => if v.category = 1 then some st else none
  | _, _, _ => none
def ev_c1 (c : ClassFile.Cond) (x : Int32) : Bool := match c with
  | .eq => decide (x = 0)
  | .ne => decide (¬ x = 0)
  | .lt => decide (x < 0)
  | .ge => decide (0 ≤ x)
  | .gt => decide (0 < x)
  | .le => decide (x ≤ 0)
def ev_c2 (c : ClassFile.Cond) (x y : Int32) : Bool := match c with
  | .eq => decide (x = y)
  | .ne => decide (¬ x = y)
  | .lt => decide (x < y)
  | .ge => decide (y ≤ x)
  | .gt => decide (y < x)
  | .le => decide (x ≤ y)
/-- jumps: the next place, the stack -/
def ev_br (i : Instr) (n pc : Nat) (st : List Value) : Option (Nat × List Value) :=
  match i, n, st with
  | .ifCond c off, 3, .int x :: st => match ev_tg pc off with
    | none => none
    | some t => if ev_c1 c x = true then some (t, st) else some (pc + 3, st)
  | .if_icmp c off, 3, .int y :: .int x :: st => match ev_tg pc off with
    | none => none
    | some t => if ev_c2 c x y = true then some (t, st) else some (pc + 3, st)
  | .goto off, 3, st => (ev_tg pc off).map (fun t => (t, st))
  | .ifnull off, 3, .ref _ :: st => some (pc + 3, st)
  | .ifnull off, 3, .null :: st => (ev_tg pc off).map (fun t => (t, st))
  | .tableswitch d lo hi offs, _, .int x :: st =>
    if x.toInt < lo ∨ hi < x.toInt then (ev_tg pc d).map (fun t => (t, st))
    else match offs[(x.toInt - lo).toNat]? with
      | some off => (ev_tg pc off).map (fun t => (t, st))
      | none => none
  | .lookupswitch d ps, _, .int x :: st =>
    if (ps.toList.zip (ps.toList.drop 1)).all (fun (a, next) => a.1 < next.1) = true then (ev_tg pc (Op.lookupswitch.offset ps.toList d x.toInt)).map (fun t => (t, st)) else none
  | _, _, _ => none
/-- loads: what is pushed -/
def ev_ld (i : Instr) (n : Nat) (lo : ev_L) : Option Value :=
  let g (k : Nat) : Option Value := (lo[k]?).join
  match i, n with
  | .iload k, 2 => match g k with | some (.int x) => some (.int x) | _ => none
  | .iload_n k, 1 => match g k with | some (.int x) => some (.int x) | _ => none
  | .aload k, 2 => match g k with | some (.ref x) => some (.ref x) | _ => none
  | .aload_n k, 1 => match g k with | some (.ref x) => some (.ref x) | _ => none
  | .lload k, 2 => match g k with | some (.long x) => some (.long x) | _ => none
  | .lload_n k, 1 => match g k with | some (.long x) => some (.long x) | _ => none
  | .dload k, 2 => match g k with | some (.double x) => some (.double x) | _ => none
  | .dload_n k, 1 => match g k with | some (.double x) => some (.double x) | _ => none
  | _, _ => none
/-- stores: the locals, the stack -/
def ev_so (i : Instr) (n : Nat) (lo : ev_L) (st : List Value) : Option (ev_L × List Value) :=
  match i, n, st with
  | .istore k, 2, .int x :: st => if k < lo.length then some (ev_s1 lo k (.int x), st) else none
  | .istore_n k, 1, .int x :: st => if (k : Nat) < lo.length then some (ev_s1 lo k (.int x), st) else none
  | .astore k, 2, .ref x :: st => if k < lo.length then some (ev_s1 lo k (.ref x), st) else none
  | .astore_n k, 1, .ref x :: st => if (k : Nat) < lo.length then some (ev_s1 lo k (.ref x), st) else none
  | .dstore k, 2, .double x :: st => if k + 1 < lo.length then some (ev_s2 lo k (.double x), st) else none
  | .iinc k d, 3, st => match (lo[k]?).join with
    | some (.int x) => some (ev_s1 lo k (.int (x + Int32.ofInt d)), st)
    | _ => none
  | _, _, _ => none
def ev_fl (c idx : Nat) : Option (Nat × Nat × Nat × Nat) := (ev_ft.find? (fun e => e.1 == c && e.2.1 == idx)).map (fun e => e.2.2)
def ev_cl2 (c idx : Nat) : Option (Nat × Nat) := (ev_ct.find? (fun e => e.1 == c && e.2.1 == idx)).map (fun e => e.2.2)
def ev_ks (c idx : Nat) : Option (Value × Nat) := (ev_kt.find? (fun e => e.1 == c && e.2.1 == idx)).map (fun e => e.2.2)
def ev_tx (c idx : Nat) : Option (String × Nat × Nat) := (ev_sr.find? (fun e => e.1 == c && e.2.1 == idx)).map (fun e => e.2.2)
def ev_nw (c idx : Nat) : Option (Nat × Nat) := (ev_nt.find? (fun e => e.1 == c && e.2.1 == idx)).map (fun e => e.2.2)
def ev_fit (k : Nat) (v : Value) : Bool := match k, v with
  | 0, .int _ => true
  | 1, .int x => decide (x = 0 ∨ x = 1)
  | 2, .ref _ => true
  | _, _ => false
/-- memory: reads, writes, what is new -/
def ev_me (c kd : Nat) (i : Instr) (n : Nat) (st : List Value) (μ : ev_H) : Option (Nat × Nat × List Value × ev_H) :=
  match i, n, st with
  | .getfield idx, 3, .ref a :: st => match ev_fl c idx, μ.2 a with
    | some (ci, k, _, _), some (.inl (c2, fs)) => if c2 = ci ∧ ev_S ≤ a then match fs[k]? with
      | some v => some (0, 0, v :: st, μ)
      | none => none
      else none
    | _, _ => none
  | .putfield idx, 3, v :: .ref a :: st => match ev_fl c idx, μ.2 a with
    | some (ci, k, t, _), some (.inl (c2, fs)) => if c2 = ci ∧ ev_S ≤ a ∧ k < fs.length ∧ ev_fit t v = true ∧ (((ev_C ci).2.1 k).2.2.2 = false ∨ (kd = 2 ∧ c = ci)) then some (0, 0, st, (μ.1, ev_up μ.2 a (ev_ob ci (fs.set k v)))) else none
    | _, _ => none
  | .getstatic idx, 3, st => if c = 1 ∧ idx = 34 then some (0, 0, .ref 0 :: st, μ) else none
  | .iaload, 1, .int i :: .ref a :: st => match μ.2 a with
    | some (.inr (.inl (t, m, f))) => if t = 0 ∧ ev_in i m = true then some (0, 0, .int (f i.toNatClampNeg) :: st, μ) else none
    | _ => none
  | .baload, 1, .int i :: .ref a :: st => match μ.2 a with
    | some (.inr (.inl (t, m, f))) => if t = 1 ∧ ev_in i m = true ∧ ev_S ≤ a then some (0, 0, .int (f i.toNatClampNeg) :: st, μ) else none
    | _ => none
  | .aaload, 1, .int i :: .ref a :: st => match μ.2 a with
    | some (.inr (.inr (.inr (m, f)))) => if ev_in i m = true ∧ ev_S ≤ a then some (0, 0, va_rf (f i.toNatClampNeg) :: st, μ) else none
    | _ => none
  | .iastore, 1, .int x :: .int i :: .ref a :: st => match μ.2 a with
    | some (.inr (.inl (t, m, f))) => if t = 0 ∧ ev_in i m = true ∧ ev_S ≤ a then some (0, 0, st, (μ.1, ev_up μ.2 a (ev_ia 0 m (upd f i.toNatClampNeg x)))) else none
    | _ => none
  | .bastore, 1, .int x :: .int i :: .ref a :: st => match μ.2 a with
    | some (.inr (.inl (t, m, f))) => if t = 1 ∧ ev_in i m = true ∧ ev_S ≤ a then some (0, 0, st, (μ.1, ev_up μ.2 a (ev_ia 1 m (upd f i.toNatClampNeg x.toInt8.toInt32)))) else none
    | _ => none
  | .aastore, 1, .ref v :: .int i :: .ref a :: st => match μ.2 a, μ.2 v with
    | some (.inr (.inr (.inr (m, f)))), some (.inl (c2, _)) => if c2 = 3 ∧ ev_in i m = true ∧ ev_S ≤ a ∧ ev_S ≤ v then some (0, 0, st, (μ.1, ev_up μ.2 a (ev_ra m (va_up f i.toNatClampNeg (some v))))) else none
    | _, _ => none
  | .arraylength, 1, .ref a :: st => match μ.2 a with
    | some (.inr (.inl (t, m, _))) => if t ≤ 1 then some (0, 0, .int (Int32.ofNat m) :: st, μ) else none
    | _ => none
  | .newarray .int, 2, .int k :: st => if k < 0 ∨ 5000 < k.toNatClampNeg then none else some (1, k.toNatClampNeg, .ref μ.1 :: st, (μ.1 + 1, ev_up μ.2 μ.1 (ev_ia 0 k.toNatClampNeg (fun _ => 0))))
  | .newarray .byte, 2, .int k :: st => if k < 0 ∨ 5000 < k.toNatClampNeg then none else some (1, k.toNatClampNeg, .ref μ.1 :: st, (μ.1 + 1, ev_up μ.2 μ.1 (ev_ia 1 k.toNatClampNeg (fun _ => 0))))
  | .anewarray idx, 3, .int k :: st => if c = 4 ∧ idx = 9 ∧ ¬ (k < 0 ∨ 5000 < k.toNatClampNeg) then some (1, k.toNatClampNeg, .ref μ.1 :: st, (μ.1 + 1, ev_up μ.2 μ.1 (ev_ra k.toNatClampNeg (fun _ => none)))) else none
  | .new idx, 3, st => match ev_nw c idx with
    | some (ci, _) => some (1, (ev_C ci).2.2, .ref μ.1 :: st, (μ.1 + 1, ev_up μ.2 μ.1 (ev_ob ci (ev_new ci))))
    | none => none
  | .ldc idx, 2, st => match ev_ks c idx, ev_tx c idx with
    | some (.int v, _), _ => some (0, 0, .int v :: st, μ)
    | none, some (_, a, _) => some (0, 0, .ref a :: st, μ)
    | _, _ => none
  | .ldc_w idx, 3, st => match ev_ks c idx, ev_tx c idx with
    | some (.int v, _), _ => some (0, 0, .int v :: st, μ)
    | none, some (_, a, _) => some (0, 0, .ref a :: st, μ)
    | _, _ => none
  | .ldc2_w idx, 3, st => match ev_ks c idx with
    | some (.long v, _) => some (0, 0, .long v :: st, μ)
    | _ => none
  | _, _, _ => none
/-- the JDK's own methods that are taken as one step -/
def ev_jd (t : Nat) (st : List Value) (μ : ev_H) : Option (List Value × ev_H) :=
  match t, st with
  | 1000, .int n :: .int dp :: .ref b :: .int sp :: .ref a :: st => match μ.2 a, μ.2 b with
    | some (.inr (.inl (t0, m0, f))), some (.inr (.inl (t1, m1, g))) =>
      if t0 = 0 ∧ t1 = 0 ∧ ¬ sp < 0 ∧ ¬ dp < 0 ∧ ¬ n < 0 ∧ sp.toNatClampNeg + n.toNatClampNeg ≤ m0 ∧ dp.toNatClampNeg + n.toNatClampNeg ≤ m1 ∧ ev_S ≤ a ∧ ev_S ≤ b then
        some (st, (μ.1, ev_up μ.2 b (ev_ia 0 m1 (va_cpy f g sp.toNatClampNeg dp.toNatClampNeg n.toNatClampNeg))))
      else none
    | _, _ => none
  | 1001, .int x :: st => some (.int (if 0 ≤ x then x else 0 - x) :: st, μ)
  | 1002, .int y :: .int x :: st => some (.int (if x < y then y else x) :: st, μ)
  | 1003, .int y :: .int x :: st => some (.int (if y < x then y else x) :: st, μ)
  | 1004, .ref a :: st => match μ.2 a with
    | some (.inr (.inl (9, m, _))) => some (.int (Int32.ofNat m) :: st, μ)
    | _ => none
  | 1005, .int i :: .ref a :: st => match μ.2 a with
    | some (.inr (.inl (9, m, f))) => if ev_in i m = true then some (.int (f i.toNatClampNeg) :: st, μ) else none
    | _ => none
  | 1006, .ref a :: st => some (st, μ)
  | _, _ => none
def ev_jk (t : Nat) : Nat := if t ≤ 1003 then 0 else if t ≤ 1005 then 1 else 2
def ev_jf (t : Nat) : Nat := if t = 1004 then 2 else if t = 1005 then 4 else 1
def ev_jl (t : Nat) : Nat := if t = 1004 then 40 else if t = 1005 then 85 else 30
/-- how many values a method takes -/
def ev_na (M : Nat) : Nat := (((parseMethodDescriptor (ev_y M).desc).map (fun d => d.parameters.length)).getD 0) + (if ev_kd M = 0 then 0 else 1)
def ev_iv (M : Nat) (i : Instr) (n : Nat) : Option (Nat × Nat) := match i, n with
  | .invokestatic idx, 3 => (ev_cl2 (ev_ci M) idx).map (fun e => (e.1, 0))
  | .invokevirtual idx, 3 => (ev_cl2 (ev_ci M) idx).map (fun e => (e.1, 1))
  | .invokespecial idx, 3 => (ev_cl2 (ev_ci M) idx).map (fun e => (e.1, 2))
  | _, _ => none
/-- the receiver is of the method's class -/
def ev_rc (M2 k : Nat) (av : List Value) (μ : ev_H) : Bool := match k, av with
  | 0, _ => true
  | _, .ref a :: _ => match μ.2 a with
    | some (.inl (c, _)) => decide (c = ev_ci M2 ∧ ev_S ≤ a)
    | _ => false
  | _, _ => false
def ev_th2 (M pc : Nat) : Option Nat := (ev_th.find? (fun e => e.1 == M && e.2.1 == pc)).map (fun e => e.2.2.1)
def ev_rv (rt : Option FieldType) (i : Instr) (n : Nat) (st : List Value) : Option (Option Value) := match i, n, st with
  | .return_, 1, [] => if rt = none then some none else none
  | .ireturn, 1, [.int x] => match rt with
    | some ty => if narrow ty (.int x) = .int x then some (some (.int x)) else none
    | none => none
  | .areturn, 1, [.ref x] => match rt with
    | some (.object _) => some (some (.ref x))
    | _ => none
  | .freturn, 1, [.float x] => if rt = some .float then some (some (.float x)) else none
  | .dreturn, 1, [.double x] => if rt = some .double then some (some (.double x)) else none
  | _, _, _ => none
def ev_x (M pc : Nat) (lo : ev_L) (st : List Value) (μ : ev_H) : Option ev_A :=
  match ev_f M pc with
  | none => none
  | some (i, n) =>
    match ev_th2 M pc with
    | some e => if st.isEmpty = true ∧ 8 ≤ ev_dp M ∧ 130 ≤ ev_lc M then some (.inr (.inr (.inr e))) else none
    | none =>
    match ev_pu i n st with
    | some st' => some (.inl (0, 0, pc + n, lo, st', μ))
    | none =>
    match ev_br i n pc st with
    | some (pc', st') => some (.inl (0, 0, pc', lo, st', μ))
    | none =>
    match ev_ld i n lo with
    | some v => some (.inl (0, 0, pc + n, lo, v :: st, μ))
    | none =>
    match ev_so i n lo st with
    | some (lo', st') => some (.inl (0, 0, pc + n, lo', st', μ))
    | none =>
    match ev_me (ev_ci M) (ev_kd M) i n st μ with
    | some (c, s, st', μ') => some (.inl (c, s, pc + n, lo, st', μ'))
    | none =>
    match ev_iv M i n with
    | some (t, k) =>
      if 1000 ≤ t then (if ev_jk t = k ∧ (st.map Value.category).sum ≤ 9 ∧ ev_jf t ≤ ev_dp M ∧ ev_jl t ≤ ev_lc M then (ev_jd t st μ).map (fun r => .inl (0, 0, pc + n, lo, r.1, r.2)) else none)
      else if ev_kd t = k ∧ ev_na t ≤ st.length ∧ ((st.drop (ev_na t)).map Value.category).sum ≤ 8 ∧ ev_dp t + 1 ≤ ev_dp M ∧ 8 + (ev_ml t + 11) + ev_lc t ≤ ev_lc M ∧ (ev_ar (st.take (ev_na t)).reverse).length ≤ ev_ml t ∧ ev_rc t k (st.take (ev_na t)).reverse μ = true then
        some (.inr (.inr (.inl (t, (st.take (ev_na t)).reverse, st.drop (ev_na t)))))
      else none
    | none => (ev_rv (ev_rt M) i n st).map (fun v => .inr (.inl v))
/-- where a throw is caught: behind the handler's store -/
def ev_hd (M pc e : Nat) : Option (Nat × Nat) := ((ev_eh M).find? (fun x => decide (x.1 ≤ pc ∧ pc < x.2.1) && x.2.2.1 == e)).map (fun x => (x.2.2.2.1, x.2.2.2.2))
abbrev ev_Q : Type := Option ((Option Value ⊕ Nat) × ev_H)
def ev_run : Nat → Nat → Nat → Nat → Nat → ev_L → List Value → ev_H → ev_Q
  | 0, _, _, _, _, _, _, _ => none
  | n + 1, b, z, M, pc, lo, st, μ => match ev_x M pc lo st μ with
    | none => none
    | some (.inl (c, s, pc', lo', st', μ')) => if c ≤ b ∧ s ≤ z then ev_run n (b - c) (z - s) M pc' lo' st' μ' else none
    | some (.inr (.inl v)) => some (.inl v, μ)
    | some (.inr (.inr (.inl (t, av, st')))) =>
      if ev_k1 t ≤ b ∧ ev_k2 t ≤ z then match ev_run n (ev_k1 t) (ev_k2 t) t 0 (ev_en t av) [] μ with
        | some (.inl v, μ') => ev_run n (b - ev_k1 t) (z - ev_k2 t) M (pc + 3) lo (v.toList ++ st') μ'
        | some (.inr e, μ') => if ev_kd t = 2 then none else match ev_hd M pc e with
          | some (pc', i) => ev_run n (b - ev_k1 t) (z - ev_k2 t) M pc' (ev_un lo i) [] μ'
          | none => if (ev_eh M).isEmpty = true then some (.inr e, μ') else none
        | none => none
      else none
    | some (.inr (.inr (.inr e))) => if 1 ≤ b ∧ 6 ≤ z then some (.inr e, μ) else none
theorem ev_mono : ∀ (n b z M pc : Nat) (lo : ev_L) (st : List Value) (μ : ev_H) (r : (Option Value ⊕ Nat) × ev_H), ev_run n b z M pc lo st μ = some r → ev_run (n + 1) b z M pc lo st μ = some r := by
  intro n
  induction n with
  | zero => intro b z M pc lo st μ r h; simp [ev_run] at h
  | succ n ih =>
    intro b z M pc lo st μ r h
    rw [ev_run] at h
    rw [ev_run]
    split at h
    · cases h
    · rename_i h0
      split at h
      · rename_i h1
        simp only [h0, h1]
        simp only [if_true, and_self]
        exact ih _ _ _ _ _ _ _ _ h
      · cases h
    · rename_i h0
      (try rw [h0]); (try dsimp only); exact h
    · rename_i t av st' h0
      split at h
      · rename_i h1
        simp only [h0, h1, and_self, if_true]
        split at h
        · rename_i v μ' h2
          rw [ih _ _ _ _ _ _ _ _ h2]
          exact ih _ _ _ _ _ _ _ _ h
        · rename_i e μ' h2
          rw [ih _ _ _ _ _ _ _ _ h2]
          dsimp only
          by_cases hk2 : ev_kd t = 2
          · rw [if_pos hk2] at h; cases h
          rw [if_neg hk2] at h ⊢
          split at h
          · rename_i h3
            (try rw [h3]); (try dsimp only); exact ih _ _ _ _ _ _ _ _ h
          · rename_i h3
            (try rw [h3]); (try dsimp only); exact h
        · cases h
      · cases h
    · rename_i h0
      (try rw [h0]); (try dsimp only); exact h
theorem ev_mono2 {n k b z M pc : Nat} {lo : ev_L} {st : List Value} {μ : ev_H} {r : (Option Value ⊕ Nat) × ev_H} (h : ev_run n b z M pc lo st μ = some r) (hk : n ≤ k) : ev_run k b z M pc lo st μ = some r := by
  obtain ⟨d, rfl⟩ := Nat.exists_eq_add_of_le hk
  clear hk
  induction d with
  | zero => exact h
  | succ d ih => exact ev_mono _ _ _ _ _ _ _ _ _ ih
/-- what a method comes to from here, if it comes to an end -/
noncomputable def ev_dn (b z M pc : Nat) (lo : ev_L) (st : List Value) (μ : ev_H) : ev_Q :=
  @dite ev_Q (∃ n r, ev_run n b z M pc lo st μ = some r) (Classical.propDecidable _) (fun h => some h.choose_spec.choose) (fun _ => none)
theorem ev_dn_some {b z M pc : Nat} {lo : ev_L} {st : List Value} {μ : ev_H} {r : (Option Value ⊕ Nat) × ev_H} : ev_dn b z M pc lo st μ = some r ↔ ∃ n, ev_run n b z M pc lo st μ = some r := by
  constructor
  · intro h
    by_cases h1 : ∃ n r, ev_run n b z M pc lo st μ = some r
    · have h2 : ev_dn b z M pc lo st μ = some h1.choose_spec.choose := dif_pos h1
      exact ⟨h1.choose, by rw [h1.choose_spec.choose_spec, ← h, h2]⟩
    · have h2 : ev_dn b z M pc lo st μ = none := dif_neg h1
      rw [h2] at h; cases h
  · intro ⟨n, hn⟩
    have h1 : ∃ n r, ev_run n b z M pc lo st μ = some r := ⟨n, r, hn⟩
    have h3 : ev_dn b z M pc lo st μ = some h1.choose_spec.choose := dif_pos h1
    rw [h3]
    have h2 := h1.choose_spec.choose_spec
    have a := ev_mono2 h2 (Nat.le_max_left h1.choose n)
    have c := ev_mono2 hn (Nat.le_max_right h1.choose n)
    rw [a] at c
    exact c
theorem ev_ext {a b : ev_Q} (h : ∀ r, a = some r ↔ b = some r) : a = b := by
  cases a with
  | none => cases b with
    | none => rfl
    | some r => exact absurd ((h r).mpr rfl) (by simp)
  | some r => exact ((h r).mp rfl).symm
section STEP
variable {b z M pc : Nat} {lo : ev_L} {st : List Value} {μ : ev_H}
theorem ev_next {c s pc' : Nat} {lo' : ev_L} {st' : List Value} {μ' : ev_H} (h : ev_x M pc lo st μ = some (.inl (c, s, pc', lo', st', μ'))) (hb : c ≤ b ∧ s ≤ z) : ev_dn b z M pc lo st μ = ev_dn (b - c) (z - s) M pc' lo' st' μ' := by
  refine ev_ext fun r => ?_
  rw [ev_dn_some, ev_dn_some]
  constructor
  · intro ⟨n, hn⟩
    cases n with
    | zero => simp [ev_run] at hn
    | succ n => rw [ev_run, h] at hn; simp only [hb, and_self, if_true] at hn; exact ⟨n, hn⟩
  · intro ⟨n, hn⟩
    exact ⟨n + 1, by rw [ev_run, h]; simp only [hb, and_self, if_true]; exact hn⟩
theorem ev_next0 {pc' : Nat} {lo' : ev_L} {st' : List Value} {μ' : ev_H} (h : ev_x M pc lo st μ = some (.inl (0, 0, pc', lo', st', μ'))) : ev_dn b z M pc lo st μ = ev_dn b z M pc' lo' st' μ' := ev_next h ⟨Nat.zero_le _, Nat.zero_le _⟩
theorem ev_ret {v : Option Value} (h : ev_x M pc lo st μ = some (.inr (.inl v))) : ev_dn b z M pc lo st μ = some (.inl v, μ) := ev_dn_some.mpr ⟨1, by rw [ev_run, h]⟩
theorem ev_thr {e : Nat} (h : ev_x M pc lo st μ = some (.inr (.inr (.inr e)))) (hb : 1 ≤ b ∧ 6 ≤ z) : ev_dn b z M pc lo st μ = some (.inr e, μ) := ev_dn_some.mpr ⟨1, by rw [ev_run, h]; simp only [hb, and_self, if_true]⟩
/-- behind a call -/
noncomputable def ev_bh (k b z M pc : Nat) (lo : ev_L) (st : List Value) (q : ev_Q) : ev_Q := match q with
  | some (.inl v, μ') => ev_dn b z M (pc + 3) lo (v.toList ++ st) μ'
  | some (.inr e, μ') => if k = 2 then none else match ev_hd M pc e with
    | some (pc', i) => ev_dn b z M pc' (ev_un lo i) [] μ'
    | none => if (ev_eh M).isEmpty = true then some (.inr e, μ') else none
  | none => none
theorem ev_cal {t : Nat} {av st' : List Value} (h : ev_x M pc lo st μ = some (.inr (.inr (.inl (t, av, st'))))) (hb : ev_k1 t ≤ b ∧ ev_k2 t ≤ z) : ev_dn b z M pc lo st μ = ev_bh (ev_kd t) (b - ev_k1 t) (z - ev_k2 t) M pc lo st' (ev_dn (ev_k1 t) (ev_k2 t) t 0 (ev_en t av) [] μ) := by
  refine ev_ext fun r => ?_
  rw [ev_dn_some]
  constructor
  · intro ⟨n, hn⟩
    cases n with
    | zero => simp [ev_run] at hn
    | succ n =>
      rw [ev_run, h] at hn
      simp only [hb, and_self, if_true] at hn
      split at hn
      · rename_i v μ' h2
        rw [ev_dn_some.mpr ⟨n, h2⟩]
        exact ev_dn_some.mpr ⟨n, hn⟩
      · rename_i e μ' h2
        rw [ev_dn_some.mpr ⟨n, h2⟩]
        unfold ev_bh
        dsimp only
        by_cases hk2 : ev_kd t = 2
        · rw [if_pos hk2] at hn; cases hn
        rw [if_neg hk2] at hn ⊢
        split at hn
        · rename_i h3
          (try rw [h3]); (try dsimp only); exact ev_dn_some.mpr ⟨n, hn⟩
        · rename_i h3
          (try rw [h3]); (try dsimp only); exact hn
      · cases hn
  · intro hr
    cases h2 : ev_dn (ev_k1 t) (ev_k2 t) t 0 (ev_en t av) [] μ with
    | none => rw [h2] at hr; cases hr
    | some q =>
      obtain ⟨o, μ'⟩ := q
      obtain ⟨n1, h3⟩ := ev_dn_some.mp h2
      rw [h2] at hr
      unfold ev_bh at hr
      cases o with
      | inl v =>
        obtain ⟨n2, h4⟩ := ev_dn_some.mp hr
        refine ⟨max n1 n2 + 1, ?_⟩
        rw [ev_run, h]
        simp only [hb, and_self, if_true]
        rw [ev_mono2 h3 (Nat.le_max_left n1 n2)]
        exact ev_mono2 h4 (Nat.le_max_right n1 n2)
      | inr e =>
        dsimp only at hr
        by_cases hk2 : ev_kd t = 2
        · rw [if_pos hk2] at hr; cases hr
        rw [if_neg hk2] at hr
        cases h5 : ev_hd M pc e with
        | none =>
          rw [h5] at hr
          refine ⟨n1 + 1, ?_⟩
          rw [ev_run, h]
          simp only [hb, and_self, if_true]
          rw [h3]
          simp only [if_neg hk2, h5]
          exact hr
        | some x =>
          obtain ⟨pc', i⟩ := x
          rw [h5] at hr
          obtain ⟨n2, h4⟩ := ev_dn_some.mp hr
          refine ⟨max n1 n2 + 1, ?_⟩
          rw [ev_run, h]
          simp only [hb, and_self, if_true]
          rw [ev_mono2 h3 (Nat.le_max_left n1 n2)]
          simp only [if_neg hk2, h5]
          exact ev_mono2 h4 (Nat.le_max_right n1 n2)
end STEP
