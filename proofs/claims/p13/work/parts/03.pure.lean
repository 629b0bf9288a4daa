/-! A PURE MACHINE: the methods' instructions over a list of cells; references are places in that list -/
abbrev pv_H : Type := List va_E
abbrev pv_L : Type := List (Nat × Value)
/-- a row: where it stands, the instruction, its length, what it names (places, targets), where its words stand -/
abbrev pv_R : Type := Nat × Instr × Nat × List Nat × List Nat
abbrev pv_M : Type := MethodName × ByteArray × Nat × Option FieldType × List pv_R
def pv_set1 (ls : pv_L) (i : Nat) (v : Value) : pv_L := (i, v) :: ls.filter (fun q => !(q.1 == i) && !(q.1 + 1 == i && q.2.category == 2))
def pv_set2 (ls : pv_L) (i : Nat) (v : Value) : pv_L := (i, v) :: ls.filter (fun q => !(q.1 == i) && (!(q.1 == i + 1) && !(q.1 + 1 == i && q.2.category == 2)))
def pv_get : pv_L → Nat → Option Value
  | [], _ => none
  | (j, v) :: ls, i => if j = i then some v else pv_get ls i
def pv_cat (st : List Value) : Nat := (st.map fun v => v.category).sum
def pv_pc (rows : List pv_R) (k : Nat) : Nat := match rows[k]? with
  | some r => r.1
  | none => 0
/-- what a new object of a kind holds -/
def pv_dv : FieldType → Value
  | .int => .int 0
  | .long => .long 0
  | _ => .null
def pv_tyX (ci : Nat) : Nat → FieldType := match ci with
  | 0 => tyX0 | 1 => tyX1 | 2 => tyX2 | 3 => tyX3 | 4 => tyX4 | 5 => tyX5 | 6 => tyX6 | 7 => tyX7 | 8 => tyX8 | 9 => tyX9 | 10 => tyX10 | 11 => tyX11 | _ => tyX12
def pv_nX (ci : Nat) : Nat := match vwCl[ci]? with
  | some q => q.2.2
  | none => 0
def pv_fresh (ci : Nat) : List Value := (List.range (pv_nX ci)).map (fun k => pv_dv (pv_tyX ci k))
abbrev pv_C : Type := Nat × pv_L × List Value × pv_H
/-- a load -/
def pv_lod (ls : pv_L) (i k : Nat) (t : Nat) (st : List Value) (h : pv_H) : Option pv_C := match pv_get ls i, t with
  | some (.int x), 0 => some (k + 1, ls, .int x :: st, h)
  | some (.long x), 1 => some (k + 1, ls, .long x :: st, h)
  | some (.ref x), 2 => some (k + 1, ls, .ref x :: st, h)
  | _, _ => none
/-- a store -/
def pv_sto (ls : pv_L) (i k : Nat) (t : Nat) (st : List Value) (h : pv_H) : Option pv_C := match st, t with
  | .int x :: r, 0 => some (k + 1, pv_set1 ls i (.int x), r, h)
  | .long x :: r, 1 => some (k + 1, pv_set2 ls i (.long x), r, h)
  | .ref x :: r, 2 => some (k + 1, pv_set1 ls i (.ref x), r, h)
  | _, _ => none
def pv_i2 (f : Int32 → Int32 → Int32) (k : Nat) (ls : pv_L) (st : List Value) (h : pv_H) : Option pv_C := match st with
  | .int y :: .int x :: r => some (k + 1, ls, .int (f x y) :: r, h)
  | _ => none
def pv_l2 (f : Int64 → Int64 → Int64) (k : Nat) (ls : pv_L) (st : List Value) (h : pv_H) : Option pv_C := match st with
  | .long y :: .long x :: r => some (k + 1, ls, .long (f x y) :: r, h)
  | _ => none
def pv_lsh (f : Int64 → Int32 → Int64) (k : Nat) (ls : pv_L) (st : List Value) (h : pv_H) : Option pv_C := match st with
  | .int y :: .long x :: r => some (k + 1, ls, .long (f x y) :: r, h)
  | _ => none
/-- a branch on one number, on two -/
def pv_b1 (c : Int32 → Bool) (xs : List Nat) (k : Nat) (ls : pv_L) (st : List Value) (h : pv_H) : Option pv_C := match xs, st with
  | [t], .int x :: r => if c x then some (t, ls, r, h) else some (k + 1, ls, r, h)
  | _, _ => none
def pv_b2 (c : Int32 → Int32 → Bool) (xs : List Nat) (k : Nat) (ls : pv_L) (st : List Value) (h : pv_H) : Option pv_C := match xs, st with
  | [t], .int y :: .int x :: r => if c x y then some (t, ls, r, h) else some (k + 1, ls, r, h)
  | _, _ => none
def pv_cond : Jvm.ClassFile.Cond → Int32 → Int32 → Bool
  | .eq, x, y => decide (x = y)
  | .ne, x, y => !decide (x = y)
  | .lt, x, y => decide (x < y)
  | .ge, x, y => decide (y ≤ x)
  | .gt, x, y => decide (y < x)
  | .le, x, y => decide (x ≤ y)
def pv_ald (t : Nat) (k : Nat) (ls : pv_L) (st : List Value) (h : pv_H) : Option pv_C := match st with
  | .int i :: .ref a :: r => match h[a]? with
    | some (.inl (t', n, .inl f)) => if t' = t then (if i < 0 ∨ n ≤ i.toNatClampNeg then none else some (k + 1, ls, .int (f i.toNatClampNeg) :: r, h)) else none
    | _ => none
  | _ => none
def pv_ast (t : Nat) (g : Int32 → Int32) (k : Nat) (ls : pv_L) (st : List Value) (h : pv_H) : Option pv_C := match st with
  | .int x :: .int i :: .ref a :: r => match h[a]? with
    | some (.inl (t', n, .inl f)) => if t' = t then (if i < 0 ∨ n ≤ i.toNatClampNeg then none else some (k + 1, ls, r, h.set a (.inl (t', n, .inl (upd f i.toNatClampNeg (g x)))))) else none
    | _ => none
  | _ => none
/-- the texts of the program, as bytes -/
def pv_str : List (List Nat) := [[107, 121, 120, 108, 115, 110, 106, 119, 114, 112, 100, 116, 109, 98], [103, 102, 97, 99, 111, 113], [60, 62, 61], [43, 45], [42, 47, 37]]
/-- where a sign stands first -/
def pv_ixF (x : Int32) : List Nat → Nat → Int32
  | [], _ => -1
  | b :: bs, k => if Int32.ofNat b = x then Int32.ofNat k else pv_ixF x bs (k + 1)
def pv_ix (s : Nat) (x : Int32) : Int32 := pv_ixF x (pv_str.getD s []) 0
def pv_chr (x : Int32) : Int32 := (x.toUInt32 % 65536).toInt32
def pv_one (s : Nat) (x : Int32) : Int32 := if 0 < x ∧ 0 ≤ pv_ix s (pv_chr x) then 1 else 0
def pv_lsw : List Nat → Int32 → Option Nat
  | k :: t :: ps, x => if x = Int32.ofNat k then some t else pv_lsw ps x
  | _, _ => none
/-- an instruction that neither calls nor ends -/
def pv_x (i : Instr) (xs : List Nat) (k : Nat) (ls : pv_L) (st : List Value) (h : pv_H) : Option pv_C := match i with
  | .iconst n => some (k + 1, ls, .int (Int32.ofInt n) :: st, h)
  | .bipush n => some (k + 1, ls, .int (Int8.ofInt n).toInt32 :: st, h)
  | .sipush n => some (k + 1, ls, .int (Int16.ofInt n).toInt32 :: st, h)
  | .lconst n => some (k + 1, ls, .long (Int64.ofNat n) :: st, h)
  | .ldc _ => match xs with
    | [v] => some (k + 1, ls, .int (Int32.ofNat v) :: st, h)
    | [s, 0, _] => (match st with
      | .int x :: r => if pv_cat r ≤ 4 then some (k + 2, ls, .int (pv_one s x) :: r, h) else none
      | _ => none)
    | [s, 1, i] => (match pv_get ls i with
      | some (.int x) => if pv_cat st ≤ 4 then some (k + 4, ls, .int (pv_ix s (pv_chr x)) :: st, h) else none
      | _ => none)
    | _ => none
  | .ldc_w _ => match xs with
    | [v] => some (k + 1, ls, .int (Int32.ofNat v) :: st, h)
    | _ => none
  | .ldc2_w _ => match xs with
    | [v] => some (k + 1, ls, .long (Int64.ofNat v) :: st, h)
    | _ => none
  | .iload i => pv_lod ls i k 0 st h
  | .iload_n i => pv_lod ls i k 0 st h
  | .lload i => pv_lod ls i k 1 st h
  | .lload_n i => pv_lod ls i k 1 st h
  | .aload i => pv_lod ls i k 2 st h
  | .aload_n i => pv_lod ls i k 2 st h
  | .istore i => pv_sto ls i k 0 st h
  | .istore_n i => pv_sto ls i k 0 st h
  | .lstore i => pv_sto ls i k 1 st h
  | .lstore_n i => pv_sto ls i k 1 st h
  | .astore i => pv_sto ls i k 2 st h
  | .astore_n i => pv_sto ls i k 2 st h
  | .iinc i n => match pv_get ls i with
    | some (.int x) => some (k + 1, pv_set1 ls i (.int (x + Int32.ofInt n)), st, h)
    | _ => none
  | .iadd => pv_i2 (fun x y => x + y) k ls st h
  | .isub => pv_i2 (fun x y => x - y) k ls st h
  | .imul => pv_i2 (fun x y => x * y) k ls st h
  | .iand => pv_i2 (fun x y => x &&& y) k ls st h
  | .ior => pv_i2 (fun x y => x ||| y) k ls st h
  | .ixor => pv_i2 (fun x y => x ^^^ y) k ls st h
  | .ishl => pv_i2 (fun x y => x <<< (y &&& 31)) k ls st h
  | .ishr => pv_i2 (fun x y => x >>> (y &&& 31)) k ls st h
  | .iushr => pv_i2 (fun x y => (x.toUInt32 >>> (y.toUInt32 &&& Int32.toUInt32 31)).toInt32) k ls st h
  | .idiv => match st with
    | .int y :: .int x :: r => if y = 0 then none else some (k + 1, ls, .int (x / y) :: r, h)
    | _ => none
  | .irem => match st with
    | .int y :: .int x :: r => if y = 0 then none else some (k + 1, ls, .int (x - x / y * y) :: r, h)
    | _ => none
  | .ineg => match st with
    | .int x :: r => some (k + 1, ls, .int (-x) :: r, h)
    | _ => none
  | .ladd => pv_l2 (fun x y => x + y) k ls st h
  | .lsub => pv_l2 (fun x y => x - y) k ls st h
  | .lmul => pv_l2 (fun x y => x * y) k ls st h
  | .land => pv_l2 (fun x y => x &&& y) k ls st h
  | .lor => pv_l2 (fun x y => x ||| y) k ls st h
  | .lxor => pv_l2 (fun x y => x ^^^ y) k ls st h
  | .ldiv => match st with
    | .long y :: .long x :: r => if y = 0 then none else some (k + 1, ls, .long (x / y) :: r, h)
    | _ => none
  | .lrem => match st with
    | .long y :: .long x :: r => if y = 0 then none else some (k + 1, ls, .long (x - x / y * y) :: r, h)
    | _ => none
  | .lshl => pv_lsh (fun x y => x <<< (y.toInt64 &&& 63)) k ls st h
  | .lshr => pv_lsh (fun x y => x >>> (y.toInt64 &&& 63)) k ls st h
  | .lushr => pv_lsh (fun x y => (x.toUInt64 >>> (y.toInt64.toUInt64 &&& Int64.toUInt64 63)).toInt64) k ls st h
  | .lcmp => match st with
    | .long y :: .long x :: r => some (k + 1, ls, .int (lg_cmp x y) :: r, h)
    | _ => none
  | .i2l => match st with
    | .int x :: r => some (k + 1, ls, .long x.toInt64 :: r, h)
    | _ => none
  | .l2i => match st with
    | .long x :: r => some (k + 1, ls, .int x.toInt32 :: r, h)
    | _ => none
  | .i2b => match st with
    | .int x :: r => some (k + 1, ls, .int x.toInt8.toInt32 :: r, h)
    | _ => none
  | .i2c => match st with
    | .int x :: r => some (k + 1, ls, .int (x.toUInt32 % 65536).toInt32 :: r, h)
    | _ => none
  | .dup => match st with
    | v :: r => if v.category = 1 then some (k + 1, ls, v :: v :: r, h) else none
    | _ => none
  | .pop => match st with
    | v :: r => if v.category = 1 then some (k + 1, ls, r, h) else none
    | _ => none
  | .dup2 => match st with
    | v :: w :: r => if v.category = 1 ∧ w.category = 1 then some (k + 1, ls, v :: w :: v :: w :: r, h) else none
    | _ => none
  | .goto _ => match xs with
    | [t] => some (t, ls, st, h)
    | _ => none
  | .ifCond c _ => pv_b1 (fun x => pv_cond c x 0) xs k ls st h
  | .if_icmp c _ => pv_b2 (fun x y => pv_cond c x y) xs k ls st h
  | .tableswitch _ lo hi _ => match xs, st with
    | d :: ts, .int x :: r => if x.toInt < lo ∨ hi < x.toInt then some (d, ls, r, h) else match ts[(x.toInt - lo).toNat]? with
      | some t => some (t, ls, r, h)
      | none => none
    | _, _ => none
  | .lookupswitch _ _ => match xs, st with
    | d :: ps, .int x :: r => some ((pv_lsw ps x).getD d, ls, r, h)
    | _, _ => none
  | .getfield _ => match xs, st with
    | [ci, j], .ref a :: r => match h[a]? with
      | some (.inr (ci', fs)) => if ci' = ci then (match fs[j]? with
        | some v => some (k + 1, ls, v :: r, h)
        | none => none) else none
      | _ => none
    | _, _ => none
  | .putfield _ => match xs, st with
    | [ci, j], v :: .ref a :: r => match h[a]? with
      | some (.inr (ci', fs)) => if ci' = ci ∧ j < fs.length ∧ narrow (pv_tyX ci j) v = v ∧ fits (pv_tyX ci j) v = true then some (k + 1, ls, r, h.set a (.inr (ci', fs.set j v))) else none
      | _ => none
    | _, _ => none
  | .iaload => pv_ald 0 k ls st h
  | .baload => match xs with
    | [t] => if t = 1 ∨ t = 2 then pv_ald t k ls st h else none
    | _ => none
  | .laload => match st with
    | .int i :: .ref a :: r => match h[a]? with
      | some (.inl (t', n, .inr (.inl f))) => if t' = 3 then (if i < 0 ∨ n ≤ i.toNatClampNeg then none else some (k + 1, ls, .long (f i.toNatClampNeg) :: r, h)) else none
      | _ => none
    | _ => none
  | .iastore => pv_ast 0 (fun x => x) k ls st h
  | .bastore => match xs with
    | [1] => pv_ast 1 (vp_nar .boolean) k ls st h
    | [2] => pv_ast 2 (vp_nar .byte) k ls st h
    | _ => none
  | .lastore => match st with
    | .long x :: .int i :: .ref a :: r => match h[a]? with
      | some (.inl (t', n, .inr (.inl f))) => if t' = 3 then (if i < 0 ∨ n ≤ i.toNatClampNeg then none else some (k + 1, ls, r, h.set a (.inl (t', n, .inr (.inl (vp_updL f i.toNatClampNeg x)))))) else none
      | _ => none
    | _ => none
  | .arraylength => match st with
    | .ref a :: r => match h[a]? with
      | some (.inl (t', n, _)) => if t' < 4 then some (k + 1, ls, .int (Int32.ofNat n) :: r, h) else none
      | _ => none
    | _ => none
  | .newarray ty => match ty, st with
    | .int, .int n :: r => if n < 0 ∨ 100000 < n.toNatClampNeg then none else some (k + 1, ls, .ref h.length :: r, h ++ [.inl (0, n.toNatClampNeg, .inl (fun _ => 0))])
    | .boolean, .int n :: r => if n < 0 ∨ 100000 < n.toNatClampNeg then none else some (k + 1, ls, .ref h.length :: r, h ++ [.inl (1, n.toNatClampNeg, .inl (fun _ => 0))])
    | .byte, .int n :: r => if n < 0 ∨ 100000 < n.toNatClampNeg then none else some (k + 1, ls, .ref h.length :: r, h ++ [.inl (2, n.toNatClampNeg, .inl (fun _ => 0))])
    | .long, .int n :: r => if n < 0 ∨ 100000 < n.toNatClampNeg then none else some (k + 1, ls, .ref h.length :: r, h ++ [.inl (3, n.toNatClampNeg, .inr (.inl (fun _ => 0)))])
    | _, _ => none
  | .new _ => match xs with
    | [ci] => some (k + 1, ls, .ref h.length :: st, h ++ [.inr (ci, pv_fresh ci)])
    | _ => none
  | .invokespecial _ => match xs, st with
    | [9], .ref _ :: r => if pv_cat r ≤ 8 then some (k + 1, ls, r, h) else none
    | _, _ => none
  | .invokestatic _ => match xs, st with
    | [0], .int y :: .int x :: r => if pv_cat r ≤ 8 then some (k + 1, ls, .int (if x < y then y else x) :: r, h) else none
    | [1], .int y :: .int x :: r => if pv_cat r ≤ 8 then some (k + 1, ls, .int (if y < x then y else x) :: r, h) else none
    | [2], .int x :: r => if pv_cat r ≤ 8 then some (k + 1, ls, .int (if 0 ≤ x then x else 0 - x) :: r, h) else none
    | [3], .int n :: .int dp :: .ref a :: .int sp :: .ref a0 :: r => match h[a0]?, h[a]? with
      | some (.inl (t0, n0, .inl f)), some (.inl (t1, n1, .inl g)) => if t0 = 0 ∧ t1 = 0 ∧ pv_cat r ≤ 8 ∧ ¬ sp < 0 ∧ ¬ dp < 0 ∧ ¬ n < 0 ∧ sp.toNatClampNeg + n.toNatClampNeg ≤ n0 ∧ dp.toNatClampNeg + n.toNatClampNeg ≤ n1 then
          some (k + 1, ls, r, h.set a (.inl (t1, n1, .inl (va_cpy f g sp.toNatClampNeg dp.toNatClampNeg n.toNatClampNeg)))) else none
      | _, _ => none
    | _, _ => none
  | _ => none
/-- a call: which method, with what, what stays on the stack -/
def pv_inv (i : Instr) (xs : List Nat) (st : List Value) (h : pv_H) : Option (Nat × List Value × List Value) := match i, xs with
  | .invokestatic _, [j, n] => if n ≤ st.length ∧ pv_cat (st.drop n) ≤ 8 then some (j, (st.take n).reverse, st.drop n) else none
  | .invokevirtual _, [j, n, ci] => match st.drop n with
    | .ref b :: r => match h[b]? with
      | some (.inr (ci', _)) => if ci' = ci ∧ pv_cat r ≤ 8 then some (j, .ref b :: (st.take n).reverse, r) else none
      | _ => none
    | _ => none
  | .invokespecial _, [j, n, _] => match st.drop n with
    | .ref b :: r => if pv_cat r ≤ 8 then some (j, .ref b :: (st.take n).reverse, r) else none
    | _ => none
  | _, _ => none
/-- an end -/
def pv_ret (i : Instr) (xs : List Nat) (st : List Value) : Option (Option Value) := match i, st with
  | .ireturn, [.int v] => match xs with
    | [0] => some (some (.int v))
    | [1] => if v = 0 ∨ v = 1 then some (some (.int v)) else none
    | _ => none
  | .lreturn, [.long v] => some (some (.long v))
  | .return_, [] => some none
  | _, _ => none
def pv_go (call : Nat → List Value → pv_H → Option (Option Value × pv_H)) (rows : List pv_R) : Nat → Nat → pv_L → List Value → pv_H → Option (Option Value × pv_H)
  | 0, _, _, _, _ => none
  | f + 1, k, ls, st, h => match rows[k]? with
    | none => none
    | some r => match pv_ret r.2.1 r.2.2.2.1 st with
      | some v => some (v, h)
      | none => match pv_inv r.2.1 r.2.2.2.1 st h with
        | some (j, as, rest) => match call j as h with
          | some (v, h') => pv_go call rows f (k + 1) ls (v.toList ++ rest) h'
          | none => none
        | none => match pv_x r.2.1 r.2.2.2.1 k ls st h with
          | some (k', ls', st', h') => pv_go call rows f k' ls' st' h'
          | none => none
def pv_run (pr : List pv_M) (F : Nat) : Nat → Nat → List Value → pv_H → Option (Option Value × pv_H)
  | 0, _, _, _ => none
  | d + 1, j, as, h => match pr[j]? with
    | some M => if pv_cat as ≤ M.2.2.1 then pv_go (pv_run pr F d) M.2.2.2.2 F 0 (lv_args 0 as) [] h else none
    | none => none
