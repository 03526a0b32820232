/-! A small machine over the class's own cells. A cell has a number; its shape: .inl n an int row of n, .inr (.inl (c, n)) a row of n references to objects of class c, .inr (.inr c) an object of class c.
What cells hold: references, ints (booleans too), longs, by cell and place. References above 999 are rows that lie outside (the script, the class's constant rows): read only. -/
abbrev mm_G : Type := List (Nat ⊕ ((Nat × Nat) ⊕ Nat))
abbrev mm_W : Type := mm_G × (Nat → Nat → Option Nat) × (Nat → Nat → Int32) × (Nat → Nat → Int64)
abbrev mm_L : Type := List (Option Value)
abbrev mm_C : Type := Nat × mm_L × List Value × mm_W
abbrev mm_X : Type := Nat → Option (Nat × (Nat → Int32))
abbrev mm_R : Type := mm_C ⊕ ((Option Value × mm_W) ⊕ (Nat × List Value × mm_C))
/-- an instruction: what it is, two numbers for what it names, the next one's place, its pc, its length -/
abbrev mm_I : Type := Instr × Nat × Nat × Nat × Nat × Nat
/-- a method: what it returns (0 nothing, 1 int, 2 boolean, 3 long), how many locals, its instructions -/
abbrev mm_M : Type := Nat × Nat × List mm_I
def mm_u {α : Type} (f : Nat → Nat → α) (k j : Nat) (v : α) : Nat → Nat → α := fun k' j' => if k' = k ∧ j' = j then v else f k' j'
/-- a whole cell anew -/
def mm_z {α : Type} (f : Nat → Nat → α) (k : Nat) (g : Nat → α) : Nat → Nat → α := fun k' j' => if k' = k then g j' else f k' j'
def mm_rf (r : Option Nat) : Value := match r with
  | none => .null
  | some k => .ref k
/-- what an instruction does that touches the stack alone -/
def mm_pure (q : Instr) (a : Nat) (S : List Value) : Option (List Value) := match q with
  | .iconst n => some (.int (Int32.ofInt n) :: S)
  | .bipush n => some (.int (Int8.ofInt n).toInt32 :: S)
  | .sipush n => some (.int (Int16.ofInt n).toInt32 :: S)
  | .lconst n => some (.long (Int64.ofNat (n : Nat)) :: S)
  | .ldc _ => some (.int (Int32.ofNat a) :: S)
  | .ldc_w _ => some (.int (Int32.ofNat a) :: S)
  | .ldc2_w _ => some (.long (Int64.ofNat a) :: S)
  | .iadd => match S with | .int y :: .int x :: r => some (.int (x + y) :: r) | _ => none
  | .isub => match S with | .int y :: .int x :: r => some (.int (x - y) :: r) | _ => none
  | .imul => match S with | .int y :: .int x :: r => some (.int (x * y) :: r) | _ => none
  | .iand => match S with | .int y :: .int x :: r => some (.int (x &&& y) :: r) | _ => none
  | .ior => match S with | .int y :: .int x :: r => some (.int (x ||| y) :: r) | _ => none
  | .ixor => match S with | .int y :: .int x :: r => some (.int (x ^^^ y) :: r) | _ => none
  | .ishl => match S with | .int y :: .int x :: r => some (.int (x <<< (y &&& 31)) :: r) | _ => none
  | .ishr => match S with | .int y :: .int x :: r => some (.int (x >>> (y &&& 31)) :: r) | _ => none
  | .iushr => match S with | .int y :: .int x :: r => some (.int (x.toUInt32 >>> (y.toUInt32 &&& Int32.toUInt32 31)).toInt32 :: r) | _ => none
  | .idiv => match S with | .int y :: .int x :: r => if y = 0 then none else some (.int (x / y) :: r) | _ => none
  | .irem => match S with | .int y :: .int x :: r => if y = 0 then none else some (.int (x - x / y * y) :: r) | _ => none
  | .ladd => match S with | .long y :: .long x :: r => some (.long (x + y) :: r) | _ => none
  | .lsub => match S with | .long y :: .long x :: r => some (.long (x - y) :: r) | _ => none
  | .lmul => match S with | .long y :: .long x :: r => some (.long (x * y) :: r) | _ => none
  | .land => match S with | .long y :: .long x :: r => some (.long (x &&& y) :: r) | _ => none
  | .ldiv => match S with | .long y :: .long x :: r => if y = 0 then none else some (.long (x / y) :: r) | _ => none
  | .lrem => match S with | .long y :: .long x :: r => if y = 0 then none else some (.long (x - x / y * y) :: r) | _ => none
  | .lshl => match S with | .int y :: .long x :: r => some (.long (x <<< (y.toInt64 &&& 63)) :: r) | _ => none
  | .lshr => match S with | .int y :: .long x :: r => some (.long (x >>> (y.toInt64 &&& 63)) :: r) | _ => none
  | .lcmp => match S with | .long y :: .long x :: r => some (.int (lg_cmp x y) :: r) | _ => none
  | .i2l => match S with | .int x :: r => some (.long x.toInt64 :: r) | _ => none
  | .i2b => match S with | .int x :: r => some (.int x.toInt8.toInt32 :: r) | _ => none
  | .i2s => match S with | .int x :: r => some (.int x.toInt16.toInt32 :: r) | _ => none
  | .dup => match S with | v :: r => if v.category = 1 then some (v :: v :: r) else none | _ => none
  | .dup2 => match S with | v :: u :: r => if v.category = 1 ∧ u.category = 1 then some (v :: u :: v :: u :: r) else none | _ => none
  | .pop => match S with | v :: r => if v.category = 1 then some r else none | _ => none
  | _ => none
/-- a local is set -/
def mm_cl (L : mm_L) (i : Nat) : mm_L := match i with
  | 0 => L
  | j + 1 => match L[j]? with
    | some (some u) => if u.category = 2 then L.set j none else L
    | _ => L
def mm_st (L : mm_L) (i : Nat) (v : Value) : Option mm_L := if v.category = 2 then (if i + 1 < L.length then some (((mm_cl L i).set i (some v)).set (i + 1) none) else none) else (if i < L.length then some ((mm_cl L i).set i (some v)) else none)
def mm_ld (L : mm_L) (i : Nat) : Option Value := match L[i]? with
  | some (some v) => some v
  | _ => none
def mm_loc (q : Instr) (L : mm_L) (S : List Value) : Option (mm_L × List Value) := match q with
  | .iload i => match mm_ld L i with | some (.int x) => some (L, .int x :: S) | _ => none
  | .iload_n i => match mm_ld L i with | some (.int x) => some (L, .int x :: S) | _ => none
  | .lload i => match mm_ld L i with | some (.long x) => some (L, .long x :: S) | _ => none
  | .lload_n i => match mm_ld L i with | some (.long x) => some (L, .long x :: S) | _ => none
  | .aload i => match mm_ld L i with | some (.ref x) => some (L, .ref x :: S) | _ => none
  | .aload_n i => match mm_ld L i with | some (.ref x) => some (L, .ref x :: S) | _ => none
  | .istore i => match S with | .int x :: r => (mm_st L i (.int x)).map (fun L' => (L', r)) | _ => none
  | .istore_n i => match S with | .int x :: r => (mm_st L i (.int x)).map (fun L' => (L', r)) | _ => none
  | .lstore i => match S with | .long x :: r => (mm_st L i (.long x)).map (fun L' => (L', r)) | _ => none
  | .lstore_n i => match S with | .long x :: r => (mm_st L i (.long x)).map (fun L' => (L', r)) | _ => none
  | .astore i => match S with | .ref x :: r => (mm_st L i (.ref x)).map (fun L' => (L', r)) | _ => none
  | .astore_n i => match S with | .ref x :: r => (mm_st L i (.ref x)).map (fun L' => (L', r)) | _ => none
  | .iinc i n => match mm_ld L i with | some (.int x) => (mm_st L i (.int (x + Int32.ofInt n))).map (fun L' => (L', S)) | _ => none
  | _ => none
/-- a branch: where it goes (a: the target's place, nx: the next one's; of a switch: the default's, and b on the others') -/
def mm_br (q : Instr) (a nx : Nat) (S : List Value) : Option (Nat × List Value) := match q with
  | .goto _ => some (a, S)
  | .ifCond .eq _ => match S with | .int x :: r => some (if x = 0 then a else nx, r) | _ => none
  | .ifCond .ne _ => match S with | .int x :: r => some (if x ≠ 0 then a else nx, r) | _ => none
  | .ifCond .lt _ => match S with | .int x :: r => some (if x < 0 then a else nx, r) | _ => none
  | .ifCond .ge _ => match S with | .int x :: r => some (if 0 ≤ x then a else nx, r) | _ => none
  | .ifCond .gt _ => match S with | .int x :: r => some (if 0 < x then a else nx, r) | _ => none
  | .ifCond .le _ => match S with | .int x :: r => some (if x ≤ 0 then a else nx, r) | _ => none
  | .if_icmp .eq _ => match S with | .int y :: .int x :: r => some (if x = y then a else nx, r) | _ => none
  | .if_icmp .ne _ => match S with | .int y :: .int x :: r => some (if x ≠ y then a else nx, r) | _ => none
  | .if_icmp .lt _ => match S with | .int y :: .int x :: r => some (if x < y then a else nx, r) | _ => none
  | .if_icmp .ge _ => match S with | .int y :: .int x :: r => some (if y ≤ x then a else nx, r) | _ => none
  | .if_icmp .gt _ => match S with | .int y :: .int x :: r => some (if y < x then a else nx, r) | _ => none
  | .if_icmp .le _ => match S with | .int y :: .int x :: r => some (if x ≤ y then a else nx, r) | _ => none
  | _ => none
/-- a switch: its cases, and the default's place -/
def mm_tg (l : List (Int × Nat)) (a : Nat) (x : Int32) : Nat := match l with
  | [] => a
  | q :: l' => if x.toInt = q.1 then q.2 else mm_tg l' a x
/-- an int row: of the world, or outside -/
def mm_arr (X : mm_X) (w : mm_W) (k : Nat) : Option (Nat × (Nat → Int32)) := if k < 1000 then (match w.1[k]? with | some (.inl n) => some (n, w.2.2.1 k) | _ => none) else X (k - 1000)
def mm_arw (w : mm_W) (k : Nat) : Option Nat := match w.1[k]? with
  | some (.inl n) => some n
  | _ => none
/-- the fields' kinds by class: 0 int, 1 boolean, 2 long, 3 a reference -/
def mm_fks : List (List Nat) := [[3, 3, 3, 3, 3, 3, 3, 3, 0], [3, 3, 3, 3, 0, 3, 3], [3, 3, 3, 3, 3, 1], [3, 3, 3, 0, 0], [3, 3, 0, 0, 0, 0, 0], [0, 3, 0, 3, 3, 3, 3, 0, 3, 3, 0, 3], [0, 0, 3], [3, 3, 3, 3, 0], [3, 0], [3, 0, 0, 0, 0, 2, 2], [3, 3, 3, 3, 3, 3, 3, 3, 3, 3, 0], [3, 3, 3, 3, 0, 3, 3, 0, 3, 0, 3, 3, 0, 3, 0, 3, 3, 3, 3, 3, 3, 3, 3, 3, 3, 3, 0, 0, 3, 3, 0]]
def mm_nf (c : Nat) : Nat := (mm_fks[c]?.getD []).length
def mm_fk (c j : Nat) : Nat := (mm_fks[c]?.getD [])[j]?.getD 9
/-- what a step does in the heap -/
def mm_heap (X : mm_X) (q : Instr) (a b : Nat) (S : List Value) (w : mm_W) : Option (List Value × mm_W) := match q with
  | .getfield _ => match S with
    | .ref k :: r => if w.1[k]? = some (.inr (.inr a)) ∧ k < 1000 then (if mm_fk a b ≤ 1 then some (.int (w.2.2.1 k b) :: r, w) else if mm_fk a b = 2 then some (.long (w.2.2.2 k b) :: r, w) else if mm_fk a b = 3 then some (mm_rf (w.2.1 k b) :: r, w) else none) else none
    | _ => none
  | .putfield _ => match S with
    | .int x :: .ref k :: r => if w.1[k]? = some (.inr (.inr a)) ∧ k < 1000 ∧ (mm_fk a b = 0 ∨ mm_fk a b = 1 ∧ (x = 0 ∨ x = 1)) then some (r, (w.1, w.2.1, mm_u w.2.2.1 k b x, w.2.2.2)) else none
    | .long x :: .ref k :: r => if w.1[k]? = some (.inr (.inr a)) ∧ k < 1000 ∧ mm_fk a b = 2 then some (r, (w.1, w.2.1, w.2.2.1, mm_u w.2.2.2 k b x)) else none
    | .ref x :: .ref k :: r => if w.1[k]? = some (.inr (.inr a)) ∧ k < 1000 ∧ mm_fk a b = 3 then some (r, (w.1, mm_u w.2.1 k b (some x), w.2.2.1, w.2.2.2)) else none
    | _ => none
  | .iaload => match S with
    | .int i :: .ref k :: r => match mm_arr X w k with
      | some nf => if ¬ (i < 0 ∨ nf.1 ≤ i.toNatClampNeg) then some (.int (nf.2 i.toNatClampNeg) :: r, w) else none
      | none => none
    | _ => none
  | .iastore => match S with
    | .int x :: .int i :: .ref k :: r => match mm_arw w k with
      | some n => if ¬ (i < 0 ∨ n ≤ i.toNatClampNeg) ∧ k < 1000 then some (r, (w.1, w.2.1, mm_u w.2.2.1 k i.toNatClampNeg x, w.2.2.2)) else none
      | none => none
    | _ => none
  | .arraylength => match S with
    | .ref k :: r => match mm_arr X w k with
      | some nf => some (.int (Int32.ofNat nf.1) :: r, w)
      | none => none
    | _ => none
  | .aaload => match S with
    | .int i :: .ref k :: r => match w.1[k]? with
      | some (.inr (.inl cn)) => if ¬ (i < 0 ∨ cn.2 ≤ i.toNatClampNeg) ∧ k < 1000 then some (mm_rf (w.2.1 k i.toNatClampNeg) :: r, w) else none
      | _ => none
    | _ => none
  | .aastore => match S with
    | .ref v :: .int i :: .ref k :: r => match w.1[k]? with
      | some (.inr (.inl cn)) => if ¬ (i < 0 ∨ cn.2 ≤ i.toNatClampNeg) ∧ k < 1000 ∧ v < 1000 ∧ w.1[v]? = some (.inr (.inr cn.1)) then some (r, (w.1, mm_u w.2.1 k i.toNatClampNeg (some v), w.2.2.1, w.2.2.2)) else none
      | _ => none
    | _ => none
  | .newarray .int => match S with
    | .int n :: r => if ¬ n < 0 ∧ n.toNatClampNeg ≤ 1000 ∧ w.1.length < 1000 then some (.ref w.1.length :: r, (w.1 ++ [.inl n.toNatClampNeg], w.2.1, mm_z w.2.2.1 w.1.length (fun _ => 0), w.2.2.2)) else none
    | _ => none
  | .anewarray _ => match S with
    | .int n :: r => if ¬ n < 0 ∧ n.toNatClampNeg ≤ 1000 ∧ w.1.length < 1000 then some (.ref w.1.length :: r, (w.1 ++ [.inr (.inl (a, n.toNatClampNeg))], mm_z w.2.1 w.1.length (fun _ => none), w.2.2.1, w.2.2.2)) else none
    | _ => none
  | .new _ => if w.1.length < 1000 then some (.ref w.1.length :: S, (w.1 ++ [.inr (.inr a)], mm_z w.2.1 w.1.length (fun _ => none), mm_z w.2.2.1 w.1.length (fun _ => 0), mm_z w.2.2.2 w.1.length (fun _ => 0))) else none
  | .getstatic _ => some (.ref a :: S, w)
  | .invokestatic _ => if a = 1001 then (match S with
      | .int y :: .int x :: r => if (r.map fun v => v.category).sum ≤ 8 then some (.int (if x < y then y else x) :: r, w) else none
      | _ => none) else if a = 1002 then (match S with
      | .int y :: .int x :: r => if (r.map fun v => v.category).sum ≤ 8 then some (.int (if y < x then y else x) :: r, w) else none
      | _ => none) else if a = 1003 then (match S with
      | .int n :: .int dp :: .ref kd :: .int sp :: .ref ks :: r => match mm_arw w ks, mm_arw w kd with
        | some n0, some n1 => if (¬ sp < 0 ∧ ¬ dp < 0 ∧ ¬ n < 0 ∧ sp.toNatClampNeg + n.toNatClampNeg ≤ n0 ∧ dp.toNatClampNeg + n.toNatClampNeg ≤ n1) ∧ ks < 1000 ∧ kd < 1000 ∧ (r.map fun v => v.category).sum ≤ 8 then some (r, (w.1, w.2.1, mm_z w.2.2.1 kd (va_cpy (w.2.2.1 ks) (w.2.2.1 kd) sp.toNatClampNeg dp.toNatClampNeg n.toNatClampNeg), w.2.2.2)) else none
        | _, _ => none
      | _ => none) else none
  | .invokespecial _ => if a = 1000 then (match S with
      | .ref _ :: r => if (r.map fun v => v.category).sum ≤ 8 then some (r, w) else none
      | _ => none) else none
  | _ => none
/-- a call: the callee, what it gets, what stays; rk: the class whose object a virtual call wants -/
def mm_inv (rk : Nat → Nat) (q : Instr) (a b : Nat) (S : List Value) (w : mm_W) : Option (List Value × List Value) := match q with
  | .invokestatic _ => if a < 1000 ∧ b ≤ S.length ∧ ((S.drop b).map fun v => v.category).sum ≤ 8 then some ((S.take b).reverse, S.drop b) else none
  | .invokespecial _ => if a < 1000 ∧ b ≤ S.length ∧ ((S.drop b).map fun v => v.category).sum ≤ 8 then (match (S.take b).reverse with | .ref k :: r => some (.ref k :: r, S.drop b) | _ => none) else none
  | .invokevirtual _ => if a < 1000 ∧ b ≤ S.length ∧ ((S.drop b).map fun v => v.category).sum ≤ 8 then (match (S.take b).reverse with | .ref k :: r => if w.1[k]? = some (.inr (.inr (rk a))) ∧ k < 1000 then some (.ref k :: r, S.drop b) else none | _ => none) else none
  | _ => none
def mm_ret (rt : Nat) (q : Instr) (S : List Value) : Option (Option Value) := match q with
  | .return_ => if rt = 0 ∧ S = [] then some none else none
  | .ireturn => match S with | [.int x] => if rt = 1 ∨ rt = 2 ∧ (x = 0 ∨ x = 1) then some (some (.int x)) else none | _ => none
  | .lreturn => match S with | [.long x] => if rt = 3 then some (some (.long x)) else none | _ => none
  | _ => none
def mm_swi (sw : Nat → List (Int × Nat)) (q : Instr) (a b : Nat) (S : List Value) : Option (Nat × List Value) := match q with
  | .tableswitch _ _ _ _ => match S with | .int x :: r => some (mm_tg (sw b) a x, r) | _ => none
  | .lookupswitch _ _ => match S with | .int x :: r => some (mm_tg (sw b) a x, r) | _ => none
  | _ => none
/-- the kind of an instruction: 0 stack alone, 1 locals, 2 a branch, 3 the heap, 4 a call, 5 a return, 6 a switch -/
def mm_kd (q : Instr) (a : Nat) : Nat := match q with
  | .iload _ | .iload_n _ | .lload _ | .lload_n _ | .aload _ | .aload_n _ | .istore _ | .istore_n _ | .lstore _ | .lstore_n _ | .astore _ | .astore_n _ | .iinc _ _ => 1
  | .goto _ | .ifCond _ _ | .if_icmp _ _ => 2
  | .getfield _ | .putfield _ | .iaload | .iastore | .arraylength | .aaload | .aastore | .newarray _ | .anewarray _ | .new _ | .getstatic _ => 3
  | .invokestatic _ | .invokespecial _ => if a < 1000 then 4 else 3
  | .invokevirtual _ => 4
  | .return_ | .ireturn | .lreturn => 5
  | .tableswitch _ _ _ _ | .lookupswitch _ _ => 6
  | _ => 0
def mm_step (X : mm_X) (rk : Nat → Nat) (sw : Nat → List (Int × Nat)) (rt : Nat) (q : Instr) (a b nx : Nat) (c : mm_C) : Option mm_R := match mm_kd q a with
  | 0 => (mm_pure q a c.2.2.1).map (fun S' => .inl (nx, c.2.1, S', c.2.2.2))
  | 1 => (mm_loc q c.2.1 c.2.2.1).map (fun z => .inl (nx, z.1, z.2, c.2.2.2))
  | 2 => (mm_br q a nx c.2.2.1).map (fun z => .inl (z.1, c.2.1, z.2, c.2.2.2))
  | 3 => (mm_heap X q a b c.2.2.1 c.2.2.2).map (fun z => .inl (nx, c.2.1, z.1, z.2))
  | 4 => (mm_inv rk q a b c.2.2.1 c.2.2.2).map (fun z => .inr (.inr (a, z.1, (nx, c.2.1, z.2, c.2.2.2))))
  | 5 => (mm_ret rt q c.2.2.1).map (fun v => .inr (.inl (v, c.2.2.2)))
  | 6 => (mm_swi sw q a b c.2.2.1).map (fun z => .inl (z.1, c.2.1, z.2, c.2.2.2))
  | _ => none
/-- the locals with which a method begins -/
def mm_la (vs : List Value) : mm_L := vs.flatMap fun v => if v.category = 2 then [some v, none] else [some v]
def mm_en (vs : List Value) (n : Nat) : mm_L := mm_la vs ++ List.replicate (n - (mm_la vs).length) none
/-- it runs: d calls deep at most, n steps at most in each -/
def mm_run (X : mm_X) (rk : Nat → Nat) (sw : Nat → List (Int × Nat)) (tab : Nat → Option mm_M) (n : Nat) (d : Nat) (M : mm_M) (c : mm_C) : Option (Option Value × mm_W) := match n with
  | 0 => none
  | n + 1 => match M.2.2[c.1]? with
    | none => none
    | some i => match mm_step X rk sw M.1 i.1 i.2.1 i.2.2.1 i.2.2.2.1 c with
      | none => none
      | some (.inl c') => mm_run X rk sw tab n d M c'
      | some (.inr (.inl z)) => some z
      | some (.inr (.inr z)) => match d with
        | 0 => none
        | d + 1 => match tab z.1 with
          | none => none
          | some M' => if (mm_la z.2.1).length ≤ M'.2.1 then (match mm_run X rk sw tab n d M' (0, mm_en z.2.1 M'.2.1, [], z.2.2.2.2.2) with
            | none => none
            | some y => mm_run X rk sw tab n (d + 1) M (z.2.2.1, z.2.2.2.1, y.1.toList ++ z.2.2.2.2.1, y.2)) else none
