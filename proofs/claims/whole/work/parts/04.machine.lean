/-! A SMALL MACHINE OF OUR OWN. Cells have numbers; a reference is the number of a cell. What it runs, the real one runs too (part 06). -/
/-- the state: kind of each cell, length, ints (fields or elements), references, longs; how many cells, how many slots were made.
Kinds: 0 not known, 1 int[], 2 long[], 3 an array of Images, 4 the script (read alone), 10 + k an object of class k of vwCl -/
abbrev zx_S : Type := (Nat → Nat) × (Nat → Nat) × (Nat → Nat → Int32) × (Nat → Nat → Option Nat) × (Nat → Nat → Int64) × Nat × Nat
def zK (σ : zx_S) : Nat → Nat := σ.1
def zN (σ : zx_S) : Nat → Nat := σ.2.1
def zI (σ : zx_S) : Nat → Nat → Int32 := σ.2.2.1
def zR (σ : zx_S) : Nat → Nat → Option Nat := σ.2.2.2.1
def zJ (σ : zx_S) : Nat → Nat → Int64 := σ.2.2.2.2.1
def zn (σ : zx_S) : Nat := σ.2.2.2.2.2.1
def zs (σ : zx_S) : Nat := σ.2.2.2.2.2.2
def zx_pI (σ : zx_S) (o k : Nat) (v : Int32) : zx_S := (zK σ, zN σ, fun a => if a = o then upd (zI σ o) k v else zI σ a, zR σ, zJ σ, zn σ, zs σ)
def zx_pR (σ : zx_S) (o k : Nat) (v : Option Nat) : zx_S := (zK σ, zN σ, zI σ, fun a => if a = o then va_up (zR σ o) k v else zR σ a, zJ σ, zn σ, zs σ)
def zx_pJ (σ : zx_S) (o k : Nat) (v : Int64) : zx_S := (zK σ, zN σ, zI σ, zR σ, fun a => if a = o then vp_updL (zJ σ o) k v else zJ σ a, zn σ, zs σ)
/-- a row written whole (a copy) -/
def zx_pA (σ : zx_S) (o : Nat) (f : Nat → Int32) : zx_S := (zK σ, zN σ, fun a => if a = o then f else zI σ a, zR σ, zJ σ, zn σ, zs σ)
/-- a new cell: its kind, its length, its slots -/
def zx_nw (σ : zx_S) (kd ln sl : Nat) : zx_S := (fun a => if a = zn σ then kd else zK σ a, fun a => if a = zn σ then ln else zN σ a, fun a => if a = zn σ then (fun _ => 0) else zI σ a, fun a => if a = zn σ then (fun _ => none) else zR σ a, fun a => if a = zn σ then (fun _ => 0) else zJ σ a, zn σ + 1, zs σ + sl)
/-- the locals: what each place holds, none where that isn't known -/
abbrev zx_L : Type := List (Option Value)
def zx_get (L : zx_L) (i : Nat) : Option Value := match L[i]? with
  | some (some v) => some v
  | _ => none
/-- the value of category 2 just before i goes when i is written -/
def zx_clob (L : zx_L) (i : Nat) : zx_L := match i with
  | 0 => L
  | j + 1 => match L[j]? with
    | some (some v) => if v.category = 2 then L.set j none else L
    | _ => L
def zx_st1 (L : zx_L) (i : Nat) (v : Value) : zx_L := (zx_clob L i).set i (some v)
def zx_st2 (L : zx_L) (i : Nat) (v : Value) : zx_L := ((zx_clob L i).set i (some v)).set (i + 1) none
/-- the locals with which a method begins: no argument here is of two places -/
def zx_entry (vs : List Value) (n : Nat) : zx_L := vs.map some ++ List.replicate (n - vs.length) none
abbrev zx_F : Type := Nat × zx_L × List Value × zx_S
def zx_fv (σ : zx_S) (ci o k : Nat) : Value := match zt_ty ci k with
  | .int => .int (zI σ o k)
  | _ => va_rf (zR σ o k)
def zx_push (v : Value) (len w pc : Nat) (L : zx_L) (st : List Value) (σ : zx_S) : Option zx_F := if len = w then some (pc + w, L, v :: st, σ) else none
def zx_ild (i len w pc : Nat) (L : zx_L) (st : List Value) (σ : zx_S) : Option zx_F := if len = w then (match zx_get L i with
  | some (.int x) => some (pc + w, L, .int x :: st, σ)
  | _ => none) else none
def zx_lld (i len w pc : Nat) (L : zx_L) (st : List Value) (σ : zx_S) : Option zx_F := if len = w then (match zx_get L i with
  | some (.long x) => some (pc + w, L, .long x :: st, σ)
  | _ => none) else none
def zx_ald (i len w pc : Nat) (L : zx_L) (st : List Value) (σ : zx_S) : Option zx_F := if len = w then (match zx_get L i with
  | some (.ref x) => some (pc + w, L, .ref x :: st, σ)
  | _ => none) else none
def zx_ist (i len w pc : Nat) (L : zx_L) (st : List Value) (σ : zx_S) : Option zx_F := if len = w ∧ i < L.length then (match st with
  | .int x :: r => some (pc + w, zx_st1 L i (.int x), r, σ)
  | _ => none) else none
def zx_ast (i len w pc : Nat) (L : zx_L) (st : List Value) (σ : zx_S) : Option zx_F := if len = w ∧ i < L.length then (match st with
  | .ref x :: r => some (pc + w, zx_st1 L i (.ref x), r, σ)
  | _ => none) else none
def zx_lst (i len w pc : Nat) (L : zx_L) (st : List Value) (σ : zx_S) : Option zx_F := if len = w ∧ i + 1 < L.length then (match st with
  | .long x :: r => some (pc + w, zx_st2 L i (.long x), r, σ)
  | _ => none) else none
def zx_bin (f : Int32 → Int32 → Int32) (len pc : Nat) (L : zx_L) (st : List Value) (σ : zx_S) : Option zx_F := if len = 1 then (match st with
  | .int y :: .int x :: r => some (pc + 1, L, .int (f x y) :: r, σ)
  | _ => none) else none
def zx_binz (f : Int32 → Int32 → Int32) (len pc : Nat) (L : zx_L) (st : List Value) (σ : zx_S) : Option zx_F := if len = 1 then (match st with
  | .int y :: .int x :: r => if y = 0 then none else some (pc + 1, L, .int (f x y) :: r, σ)
  | _ => none) else none
def zx_binl (f : Int64 → Int64 → Int64) (len pc : Nat) (L : zx_L) (st : List Value) (σ : zx_S) : Option zx_F := if len = 1 then (match st with
  | .long y :: .long x :: r => some (pc + 1, L, .long (f x y) :: r, σ)
  | _ => none) else none
def zx_tgt (pc : Nat) (off : Int) : Option Nat := if (((pc : Int) + off).toNat : Int) = (pc : Int) + off then some ((pc : Int) + off).toNat else none
def zx_jmp (c : Bool) (off : Int) (pc : Nat) (L : zx_L) (r : List Value) (σ : zx_S) : Option zx_F := match zx_tgt pc off with
  | some t => some (if c then t else pc + 3, L, r, σ)
  | none => none
def zx_cmp (c : ClassFile.Cond) (x y : Int32) : Bool := match c with
  | .eq => decide (x = y)
  | .ne => decide (¬ x = y)
  | .lt => decide (x < y)
  | .ge => decide (y ≤ x)
  | .gt => decide (y < x)
  | .le => decide (x ≤ y)
def zx_sw (dflt lo hi : Int) (offs : Array Int) (x : Int32) : Option Int := if x.toInt < lo ∨ hi < x.toInt then some dflt else offs[(x.toInt - lo).toNat]?
/-- an index within -/
def zx_in (i : Int32) (n : Nat) : Bool := decide (¬ (i < 0 ∨ n ≤ i.toNatClampNeg))
/-- one instruction that neither calls a method of ours nor ends one -/
def zx_step (c : Nat) (ini : Bool) (room : Bool) (ins : Instr) (len pc : Nat) (L : zx_L) (st : List Value) (σ : zx_S) : Option zx_F := match ins with
  | .iconst n => zx_push (.int (Int32.ofInt n)) len 1 pc L st σ
  | .bipush n => zx_push (.int (Int8.ofInt n).toInt32) len 2 pc L st σ
  | .sipush n => zx_push (.int (Int16.ofInt n).toInt32) len 3 pc L st σ
  | .lconst n => zx_push (.long (Int64.ofNat (n : Nat))) len 1 pc L st σ
  | .ldc i => (match zt_K c i with
    | some v => zx_push (.int v) len 2 pc L st σ
    | none => none)
  | .ldc2_w i => (match zt_J c i with
    | some v => zx_push (.long v) len 3 pc L st σ
    | none => none)
  | .iload_n k => zx_ild k len 1 pc L st σ
  | .iload k => zx_ild k len 2 pc L st σ
  | .lload_n k => zx_lld k len 1 pc L st σ
  | .aload_n k => zx_ald k len 1 pc L st σ
  | .aload k => zx_ald k len 2 pc L st σ
  | .istore_n k => zx_ist k len 1 pc L st σ
  | .istore k => zx_ist k len 2 pc L st σ
  | .lstore_n k => zx_lst k len 1 pc L st σ
  | .astore_n k => zx_ast k len 1 pc L st σ
  | .astore k => zx_ast k len 2 pc L st σ
  | .iinc i n => if len = 3 ∧ i < L.length then (match zx_get L i with
    | some (.int x) => some (pc + 3, zx_st1 L i (.int (x + Int32.ofInt n)), st, σ)
    | _ => none) else none
  | .iadd => zx_bin (fun x y => x + y) len pc L st σ
  | .isub => zx_bin (fun x y => x - y) len pc L st σ
  | .imul => zx_bin (fun x y => x * y) len pc L st σ
  | .iand => zx_bin (fun x y => x &&& y) len pc L st σ
  | .ishr => zx_bin (fun x y => x >>> (y &&& 31)) len pc L st σ
  | .idiv => zx_binz (fun x y => x / y) len pc L st σ
  | .irem => zx_binz (fun x y => x - x / y * y) len pc L st σ
  | .ladd => zx_binl (fun x y => x + y) len pc L st σ
  | .lmul => zx_binl (fun x y => x * y) len pc L st σ
  | .lrem => if len = 1 then (match st with
    | .long y :: .long x :: r => if y = 0 then none else some (pc + 1, L, .long (x - x / y * y) :: r, σ)
    | _ => none) else none
  | .lcmp => if len = 1 then (match st with
    | .long y :: .long x :: r => some (pc + 1, L, .int (lg_cmp x y) :: r, σ)
    | _ => none) else none
  | .i2l => if len = 1 then (match st with
    | .int x :: r => some (pc + 1, L, .long x.toInt64 :: r, σ)
    | _ => none) else none
  | .l2i => if len = 1 then (match st with
    | .long x :: r => some (pc + 1, L, .int x.toInt32 :: r, σ)
    | _ => none) else none
  | .dup => if len = 1 then (match st with
    | v :: r => if v.category = 1 then some (pc + 1, L, v :: v :: r, σ) else none
    | _ => none) else none
  | .dup2 => if len = 1 then (match st with
    | v :: w :: r => if v.category = 1 ∧ w.category = 1 then some (pc + 1, L, v :: w :: v :: w :: r, σ) else none
    | _ => none) else none
  | .pop => if len = 1 then (match st with
    | v :: r => if v.category = 1 then some (pc + 1, L, r, σ) else none
    | _ => none) else none
  | .if_icmp cd off => if len = 3 then (match st with
    | .int y :: .int x :: r => zx_jmp (zx_cmp cd x y) off pc L r σ
    | _ => none) else none
  | .ifCond cd off => if len = 3 then (match st with
    | .int x :: r => zx_jmp (zx_cmp cd x 0) off pc L r σ
    | _ => none) else none
  | .goto off => if len = 3 then zx_jmp true off pc L st σ else none
  | .tableswitch dflt lo hi offs => (match st with
    | .int x :: r => (match zx_sw dflt lo hi offs x with
      | some off => zx_jmp true off pc L r σ
      | none => none)
    | _ => none)
  | .getfield i => if len = 3 then (match zt_F c i, st with
    | some (ci, k), .ref o :: r => if zK σ o = 10 + ci then some (pc + 3, L, zx_fv σ ci o k :: r, σ) else none
    | _, _ => none) else none
  | .putfield i => if len = 3 then (match zt_F c i with
    | some (ci, k) => (match zt_ty ci k, st with
      | .int, .int v :: .ref o :: r => if zK σ o = 10 + ci ∧ (zt_fin ci k = true → ini = true ∧ ci = 3 + c) then some (pc + 3, L, r, zx_pI σ o k v) else none
      | .object _, .ref v :: .ref o :: r => if zK σ o = 10 + ci ∧ (zt_fin ci k = true → ini = true ∧ ci = 3 + c) then some (pc + 3, L, r, zx_pR σ o k (some v)) else none
      | .array _, .ref v :: .ref o :: r => if zK σ o = 10 + ci ∧ (zt_fin ci k = true → ini = true ∧ ci = 3 + c) then some (pc + 3, L, r, zx_pR σ o k (some v)) else none
      | _, _ => none)
    | none => none) else none
  | .iaload => if len = 1 then (match st with
    | .int i :: .ref a :: r => if (zK σ a = 1 ∨ zK σ a = 4) ∧ zx_in i (zN σ a) = true then some (pc + 1, L, .int (zI σ a i.toNatClampNeg) :: r, σ) else none
    | _ => none) else none
  | .laload => if len = 1 then (match st with
    | .int i :: .ref a :: r => if zK σ a = 2 ∧ zx_in i (zN σ a) = true then some (pc + 1, L, .long (zJ σ a i.toNatClampNeg) :: r, σ) else none
    | _ => none) else none
  | .aaload => if len = 1 then (match st with
    | .int i :: .ref a :: r => if zK σ a = 3 ∧ zx_in i (zN σ a) = true then some (pc + 1, L, va_rf (zR σ a i.toNatClampNeg) :: r, σ) else none
    | _ => none) else none
  | .iastore => if len = 1 then (match st with
    | .int v :: .int i :: .ref a :: r => if zK σ a = 1 ∧ zx_in i (zN σ a) = true then some (pc + 1, L, r, zx_pI σ a i.toNatClampNeg v) else none
    | _ => none) else none
  | .lastore => if len = 1 then (match st with
    | .long v :: .int i :: .ref a :: r => if zK σ a = 2 ∧ zx_in i (zN σ a) = true then some (pc + 1, L, r, zx_pJ σ a i.toNatClampNeg v) else none
    | _ => none) else none
  | .aastore => if len = 1 then (match st with
    | .ref v :: .int i :: .ref a :: r => if zK σ a = 3 ∧ zK σ v = 14 ∧ zx_in i (zN σ a) = true then some (pc + 1, L, r, zx_pR σ a i.toNatClampNeg (some v)) else none
    | _ => none) else none
  | .arraylength => if len = 1 then (match st with
    | .ref a :: r => if zK σ a = 1 ∨ zK σ a = 4 then some (pc + 1, L, .int (Int32.ofNat (zN σ a)) :: r, σ) else none
    | _ => none) else none
  | .newarray t => if len = 2 then (match t, st with
    | .int, .int n :: r => if ¬ n < 0 ∧ n.toNatClampNeg ≤ 100000 then some (pc + 2, L, .ref (zn σ) :: r, zx_nw σ 1 n.toNatClampNeg n.toNatClampNeg) else none
    | .long, .int n :: r => if ¬ n < 0 ∧ n.toNatClampNeg ≤ 100000 then some (pc + 2, L, .ref (zn σ) :: r, zx_nw σ 2 n.toNatClampNeg n.toNatClampNeg) else none
    | _, _ => none) else none
  | .anewarray i => if len = 3 then (match zt_A c i, st with
    | true, .int n :: r => if ¬ n < 0 ∧ n.toNatClampNeg ≤ 100000 then some (pc + 3, L, .ref (zn σ) :: r, zx_nw σ 3 n.toNatClampNeg n.toNatClampNeg) else none
    | _, _ => none) else none
  | .new i => if len = 3 then (match zt_N c i with
    | some (ci, n) => some (pc + 3, L, .ref (zn σ) :: st, zx_nw σ (10 + ci) 0 n)
    | none => none) else none
  | .invokespecial i => if len = 3 ∧ room = true ∧ (st.map fun v => v.category).sum ≤ 9 then (match zt_C c i, st with
    | some (3, _), .ref _ :: r => some (pc + 3, L, r, σ)
    | _, _ => none) else none
  | .invokestatic i => if len = 3 ∧ room = true ∧ (st.map fun v => v.category).sum ≤ 13 then (match zt_C c i, st with
    | some (4, _), .int y :: .int x :: r => some (pc + 3, L, .int (if y < x then y else x) :: r, σ)
    | some (5, _), .int n :: .int dp :: .ref b :: .int sp :: .ref a :: r => if zK σ a = 1 ∧ zK σ b = 1 ∧ ¬ sp < 0 ∧ ¬ dp < 0 ∧ ¬ n < 0 ∧ sp.toNatClampNeg + n.toNatClampNeg ≤ zN σ a ∧ dp.toNatClampNeg + n.toNatClampNeg ≤ zN σ b then some (pc + 3, L, r, zx_pA σ b (va_cpy (zI σ a) (zI σ b) sp.toNatClampNeg dp.toNatClampNeg n.toNatClampNeg)) else none
    | _, _ => none) else none
  | _ => none
/-- which method an instruction calls -/
def zx_cal (c : Nat) (ins : Instr) : Option (Nat × Nat) := match ins with
  | .invokevirtual i => (match zt_C c i with
    | some (0, z) => some (0, z)
    | _ => none)
  | .invokestatic i => (match zt_C c i with
    | some (1, z) => some (1, z)
    | some (6, z) => some (6, z)
    | _ => none)
  | .invokespecial i => (match zt_C c i with
    | some (2, z) => some (2, z)
    | _ => none)
  | _ => none
/-- what a method answers where it ends -/
def zx_ret (ret : Option FieldType) (ins : Instr) (len : Nat) (st : List Value) : Option (Option Value) := match ins with
  | .ireturn => if len = 1 then (match ret, st with
    | some .int, [.int v] => some (some (.int v))
    | some .boolean, [.int v] => if v = 0 ∨ v = 1 then some (some (.int v)) else none
    | _, _ => none) else none
  | .return_ => if len = 1 then (match ret, st with
    | none, [] => some none
    | _, _ => none) else none
  | .areturn => if len = 1 then (match ret, st with
    | some (.object _), [.ref v] => some (some (.ref v))
    | _, _ => none) else none
  | _ => none
/-- a throw: the class makes its exception -/
def zx_thr (c : Nat) (ins : Instr) : Bool := match ins with
  | .new i => zt_X c i
  | _ => false
/-- the arguments of a call: one place each; the receiver is of the method's class -/
def zx_args (kd c : Nat) (as : List Value) (σ : zx_S) : Bool := as.all (fun v => v.category == 1) && (match kd, as with
  | 0, .ref o :: _ => zK σ o == 13 + c
  | 1, _ => true
  | 2, .ref _ :: _ => true
  | _, _ => false)
/-- what stands on the stack behind a call: nothing where the callee threw -/
def zx_back (r : Option Value) (st : List Value) : Option (List Value) := match r with
  | none => some st
  | some (.retAddr _) => none
  | some v => some (v :: st)
/-- the law's own catching of what out throws -/
def zx_out (q : Option Value) (a : Nat) (st : List Value) (σ : zx_S) : Option (List Value × zx_S) := match q with
  | some (.int v) => some (.int 0 :: st, zx_pJ σ a 0 v.toInt64)
  | some (.retAddr _) => some (.int 1 :: st, σ)
  | _ => none
/-- the machine: fuel, method, place, locals, stack, state; what the method answers (a retAddr: it threw), and the state behind it -/
def zx : Nat → Nat → Nat → zx_L → List Value → zx_S → Option (Option Value × zx_S)
  | 0, _, _, _, _, _ => none
  | f + 1, y, pc, L, st, σ => match zt_M y with
    | none => none
    | some M => match decode M.2.1 pc with
      | .error _ => none
      | .ok (ins, len) => match zx_cal M.2.2.2.2.1 ins with
        | some (kd, z) => (match zt_M z with
          | none => none
          | some Z => if kd = 6 then (match st with
            | .ref a :: .int p1 :: .int p0 :: .ref x :: r => if len = 3 ∧ zK σ a = 2 ∧ 1 ≤ zN σ a ∧ zK σ x = 19 ∧ (r.map fun v => v.category).sum ≤ 8 then
              (match zx f z 0 (zx_entry [.ref x, .int p0, .int p1] Z.2.2.1) [] σ with
              | some (q, σ1) => (match zx_out q a r σ1 with
                | some (st1, σ2) => zx f y (pc + 3) L st1 σ2
                | none => none)
              | none => none)
              else none
            | _ => none)
            else if len = 3 ∧ Z.2.2.2.2.2.1 ≤ st.length ∧ Z.2.2.2.2.2.2.1 < M.2.2.2.2.2.2.1 ∧ 19 + Z.2.2.1 + Z.2.2.2.2.2.2.2 ≤ M.2.2.2.2.2.2.2 ∧ ((st.drop Z.2.2.2.2.2.1).map fun v => v.category).sum ≤ 8 ∧ Z.2.2.2.2.2.1 ≤ Z.2.2.1 ∧ zx_args kd Z.2.2.2.2.1 ((st.take Z.2.2.2.2.2.1).reverse) σ = true then
            (match zx f z 0 (zx_entry ((st.take Z.2.2.2.2.2.1).reverse) Z.2.2.1) [] σ with
            | some (r, σ1) => (match zx_back r (st.drop Z.2.2.2.2.2.1) with
              | some st1 => zx f y (pc + 3) L st1 σ1
              | none => none)
            | none => none)
            else none)
        | none => if zx_thr M.2.2.2.2.1 ins then (match st with
          | [] => some (some (.retAddr 0), zx_nw σ 0 0 6)
          | _ => none) else match zx_ret M.2.2.2.1 ins len st with
          | some r => some (r, σ)
          | none => match zx_step M.2.2.2.2.1 (M.1.name == "<init>") (decide (1 ≤ M.2.2.2.2.2.2.1 ∧ 40 ≤ M.2.2.2.2.2.2.2)) ins len pc L st σ with
            | some (pc1, L1, st1, σ1) => zx f y pc1 L1 st1 σ1
            | none => none
