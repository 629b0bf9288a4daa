def ab_br (c : Jvm.ClassFile.Cond) (t k : Nat) (s : ab_S) (x y : ab_V) (r : List ab_V) : ab_Q := match ab_iv s.1 x, ab_iv s.1 y with
  | some p, some q => match ab_cmp c p q with
    | some true => some [(t, (s.1, s.2.1, r, s.2.2.2))]
    | some false => some [(k + 1, (s.1, s.2.1, r, s.2.2.2))]
    | none => some [(t, (ab_ref c true s.1 x y p q, s.2.1, r, s.2.2.2)), (k + 1, (ab_ref c false s.1 x y p q, s.2.1, r, s.2.2.2))]
  | _, _ => none
def ab_ald (tg t k : Nat) (s : ab_S) : ab_Q := match s.2.2.1 with
  | i :: a :: r => match ab_iv s.1 i, ab_rv a with
    | some p, some b => match s.2.2.2[b]? with
      | some (.inl (t', n, df, es)) => bif t' == t && (Nat.ble 2147483648 p.1 && Nat.blt p.2 (n + 2147483648)) then ab_psh k s (tg, ab_ldr df es (p.1 - 2147483648) (p.2 - p.1)) r else none
      | _ => none
    | _, _ => none
  | _ => none
def ab_ast (t : Nat) (F : Nat × Nat → Nat × Nat) (k : Nat) (s : ab_S) : ab_Q := match s.2.2.1 with
  | v :: i :: a :: r => match ab_iv s.1 v, ab_iv s.1 i, ab_rv a with
    | some w, some p, some b => match s.2.2.2[b]? with
      | some (.inl (t', n, df, es)) => bif t' == t && (Nat.ble 2147483648 p.1 && Nat.blt p.2 (n + 2147483648)) then some [(k + 1, (s.1, s.2.1, r, s.2.2.2.set b (.inl (t', n, ab_sto df es (p.1 - 2147483648) (p.2 - p.1) (F w)))))] else none
      | _ => none
    | _, _, _ => none
  | _ => none
def ab_lst (k : Nat) (s : ab_S) : ab_Q := match s.2.2.1 with
  | v :: i :: a :: r => match ab_lv v, ab_iv s.1 i, ab_rv a with
    | some w, some p, some b => match s.2.2.2[b]? with
      | some (.inl (t', n, df, es)) => bif t' == 3 && (Nat.ble 2147483648 p.1 && Nat.blt p.2 (n + 2147483648)) then some [(k + 1, (s.1, s.2.1, r, s.2.2.2.set b (.inl (t', n, ab_sto df es (p.1 - 2147483648) (p.2 - p.1) w))))] else none
      | _ => none
    | _, _, _ => none
  | _ => none
def ab_bool (p : Nat × Nat) : Nat × Nat := bif Nat.ble 2147483648 p.1 && Nat.ble p.2 2147483649 then p else (2147483648, 2147483649)
def ab_byte (p : Nat × Nat) : Nat × Nat := bif Nat.ble 2147483520 p.1 && Nat.ble p.2 2147483775 then p else (2147483520, 2147483775)
def ab_ty (ty : FieldType) (a : ab_V) : Bool := match ty with
  | .int => ab_kd a == 0
  | .long => ab_kd a == 1
  | .object _ => ab_kd a == 2
  | .array _ => ab_kd a == 2
  | _ => false
def ab_inc (G : ab_G) (a : ab_V) (n : Int) : Option ab_V := bif a.1 == 1 && (decide (n = 1) && Nat.ble (G.2 + a.2.1) 4294967294) then some (1, a.2.1 + 1, a.2.2) else match ab_iv G a with
  | some p => some (0, ab_add p (ab_n (Int32.ofInt n), ab_n (Int32.ofInt n)))
  | none => none
def ab_con (x : Int32) : ab_V := (0, ab_n x, ab_n x)
def ab_con64 (x : Int64) : ab_V := (2, ab_m x, ab_m x)
def ab_tsw (s : ab_S) : Nat → List Nat → Nat × Nat → List (Nat × ab_S)
  | _, [], _ => []
  | n, t :: ts, p => bif Nat.ble p.1 n && Nat.ble n p.2 then (t, s) :: ab_tsw s (n + 1) ts p else ab_tsw s (n + 1) ts p
def ab_cpc (t0 t1 : Nat) (n dp sp : Nat × Nat) (n0 n1 : Nat) (r : List ab_V) : Bool := (t0 == 0 && t1 == 0) && ((n.1 == n.2 && dp.1 == dp.2 && sp.1 == sp.2) && ((Nat.ble 2147483648 n.1 && Nat.ble 2147483648 dp.1 && Nat.ble 2147483648 sp.1) && ((Nat.ble (sp.1 - 2147483648 + (n.1 - 2147483648)) n0 && Nat.ble (dp.1 - 2147483648 + (n.1 - 2147483648)) n1) && Nat.ble ((r.map ab_ct).sum) 8)))
def ab_x (i : Instr) (xs : List Nat) (k : Nat) (s : ab_S) : ab_Q := match i with
  | .iconst n => ab_psh k s (ab_con (Int32.ofInt n)) s.2.2.1
  | .bipush n => ab_psh k s (ab_con (Int8.ofInt n).toInt32) s.2.2.1
  | .sipush n => ab_psh k s (ab_con (Int16.ofInt n).toInt32) s.2.2.1
  | .lconst n => ab_psh k s (ab_con64 (Int64.ofNat n)) s.2.2.1
  | .ldc _ => match xs with
    | [v] => ab_psh k s (ab_con (Int32.ofNat v)) s.2.2.1
    | _ => none
  | .ldc_w _ => match xs with
    | [v] => ab_psh k s (ab_con (Int32.ofNat v)) s.2.2.1
    | _ => none
  | .ldc2_w _ => match xs with
    | [v] => ab_psh k s (ab_con64 (Int64.ofNat v)) s.2.2.1
    | _ => none
  | .iload i => ab_lod s i k 0
  | .iload_n i => ab_lod s i k 0
  | .lload i => ab_lod s i k 1
  | .lload_n i => ab_lod s i k 1
  | .aload i => ab_lod s i k 2
  | .aload_n i => ab_lod s i k 2
  | .istore i => ab_st1 s i k 0
  | .istore_n i => ab_st1 s i k 0
  | .lstore i => ab_st2 s i k
  | .lstore_n i => ab_st2 s i k
  | .astore i => ab_st1 s i k 2
  | .astore_n i => ab_st1 s i k 2
  | .iinc i n => match ab_get s.2.1 i with
    | some a => match ab_inc s.1 a n with
      | some b => some [(k + 1, (s.1, ab_set1 s.2.1 i b, s.2.2.1, s.2.2.2))]
      | none => none
    | none => none
  | .iadd => ab_i2 ab_add k s
  | .isub => ab_i2 ab_sub k s
  | .imul => ab_i2 ab_mul k s
  | .iand => ab_i2 ab_and k s
  | .ior => ab_i2 (ab_ex (fun x y => x ||| y)) k s
  | .ixor => ab_i2 (ab_ex (fun x y => x ^^^ y)) k s
  | .ishl => ab_i2 (ab_ex (fun x y => x <<< (y &&& 31))) k s
  | .ishr => ab_i2 (ab_ex (fun x y => x >>> (y &&& 31))) k s
  | .iushr => ab_i2 (ab_ex (fun x y => (x.toUInt32 >>> (y.toUInt32 &&& Int32.toUInt32 31)).toInt32)) k s
  | .idiv => match s.2.2.1 with
    | y :: x :: r => match ab_iv s.1 x, ab_iv s.1 y with
      | some p, some q => bif Nat.blt 2147483648 q.1 then ab_psh k s (0, ab_div p q) r else none
      | _, _ => none
    | _ => none
  | .irem => match s.2.2.1 with
    | y :: x :: r => match ab_iv s.1 x, ab_iv s.1 y with
      | some p, some q => bif Nat.blt 2147483648 q.1 then ab_psh k s (0, ab_rem p q) r else none
      | _, _ => none
    | _ => none
  | .ineg => ab_i1 (ab_e1 (fun x => -x) ab_top) 0 k s
  | .ladd => ab_l2 (ab_ex64 (fun x y => x + y)) 2 k s
  | .lsub => ab_l2 (ab_ex64 (fun x y => x - y)) 2 k s
  | .lmul => ab_l2 (ab_ex64 (fun x y => x * y)) 2 k s
  | .land => ab_l2 ab_lnd 2 k s
  | .lor => ab_l2 (ab_ex64 (fun x y => x ||| y)) 2 k s
  | .lxor => ab_l2 (ab_ex64 (fun x y => x ^^^ y)) 2 k s
  | .ldiv => match s.2.2.1 with
    | y :: x :: r => match ab_lv x, ab_lv y with
      | some p, some q => bif Nat.blt 0 q.1 then ab_psh k s (2, ab_ex64 (fun x y => x / y) p q) r else none
      | _, _ => none
    | _ => none
  | .lrem => match s.2.2.1 with
    | y :: x :: r => match ab_lv x, ab_lv y with
      | some p, some q => bif Nat.blt 0 q.1 then ab_psh k s (2, ab_ex64 (fun x y => x - x / y * y) p q) r else none
      | _, _ => none
    | _ => none
  | .lshl => ab_ls (ab_shf (fun x y => x <<< (y.toInt64 &&& 63))) k s
  | .lshr => ab_ls (ab_shf (fun x y => x >>> (y.toInt64 &&& 63))) k s
  | .lushr => ab_ls (ab_shf (fun x y => (x.toUInt64 >>> (y.toInt64.toUInt64 &&& Int64.toUInt64 63)).toInt64)) k s
  | .lcmp => ab_l2 ab_lcm 0 k s
  | .i2l => ab_i1 ab_i2l 2 k s
  | .l2i => ab_l1 ab_l2i k s
  | .i2b => ab_i1 (ab_e1 (fun x => x.toInt8.toInt32) ab_top) 0 k s
  | .i2c => ab_i1 (ab_e1 (fun x => (x.toUInt32 % 65536).toInt32) ab_top) 0 k s
  | .dup => match s.2.2.1 with
    | v :: r => bif ab_ct v == 1 then ab_psh k s v (v :: r) else none
    | _ => none
  | .pop => match s.2.2.1 with
    | v :: r => bif ab_ct v == 1 then some [(k + 1, (s.1, s.2.1, r, s.2.2.2))] else none
    | _ => none
  | .dup2 => match s.2.2.1 with
    | v :: w :: r => bif ab_ct v == 1 && ab_ct w == 1 then ab_psh k s v (w :: v :: w :: r) else none
    | _ => none
  | .goto _ => match xs with
    | [t] => some [(t, s)]
    | _ => none
  | .ifCond c _ => match xs, s.2.2.1 with
    | [t], x :: r => ab_br c t k s x (0, 2147483648, 2147483648) r
    | _, _ => none
  | .if_icmp c _ => match xs, s.2.2.1 with
    | [t], y :: x :: r => ab_br c t k s x y r
    | _, _ => none
  | .tableswitch _ lo hi _ => match xs, s.2.2.1 with
    | d :: ts, x :: r => match ab_iv s.1 x with
      | some p => bif decide (-2147483648 ≤ lo ∧ hi - lo < (ts.length : Int) ∧ lo ≤ hi) then some ((bif Nat.blt p.1 (lo + 2147483648).toNat || Nat.blt (hi + 2147483648).toNat p.2 then [(d, (s.1, s.2.1, r, s.2.2.2))] else []) ++ ab_tsw (s.1, s.2.1, r, s.2.2.2) (lo + 2147483648).toNat ts p) else none
      | none => none
    | _, _ => none
  | .getfield _ => match xs, s.2.2.1 with
    | [ci, j], a :: r => match ab_rv a with
      | some b => match s.2.2.2[b]? with
        | some (.inr (ci', fs)) => bif ci' == ci then (match fs[j]? with
          | some v => ab_psh k s v r
          | none => none) else none
        | _ => none
      | none => none
    | _, _ => none
  | .putfield _ => match xs, s.2.2.1 with
    | [ci, j], v :: a :: r => match ab_rv a with
      | some b => match s.2.2.2[b]? with
        | some (.inr (ci', fs)) => bif ci' == ci && (Nat.blt j fs.length && ab_ty (pv_tyX ci j) v) then some [(k + 1, (s.1, s.2.1, r, s.2.2.2.set b (.inr (ci', fs.set j v))))] else none
        | _ => none
      | none => none
    | _, _ => none
  | .iaload => ab_ald 0 0 k s
  | .baload => match xs with
    | [t] => bif t == 1 || t == 2 then ab_ald 0 t k s else none
    | _ => none
  | .laload => ab_ald 2 3 k s
  | .iastore => ab_ast 0 (fun w => w) k s
  | .bastore => match xs with
    | [1] => ab_ast 1 ab_bool k s
    | [2] => ab_ast 2 ab_byte k s
    | _ => none
  | .lastore => ab_lst k s
  | .arraylength => match s.2.2.1 with
    | a :: r => match ab_rv a with
      | some b => match s.2.2.2[b]? with
        | some (.inl (_, n, _)) => ab_psh k s (ab_con (Int32.ofNat n)) r
        | _ => none
      | none => none
    | _ => none
  | .invokespecial _ => match xs, s.2.2.1 with
    | [9], a :: r => bif ab_kd a == 2 && Nat.ble ((r.map ab_ct).sum) 8 then some [(k + 1, (s.1, s.2.1, r, s.2.2.2))] else none
    | _, _ => none
  | .invokestatic _ => match xs, s.2.2.1 with
    | [0], y :: x :: r => match ab_iv s.1 x, ab_iv s.1 y with
      | some p, some q => bif Nat.ble ((r.map ab_ct).sum) 8 then ab_psh k s (0, ab_max p q) r else none
      | _, _ => none
    | [1], y :: x :: r => match ab_iv s.1 x, ab_iv s.1 y with
      | some p, some q => bif Nat.ble ((r.map ab_ct).sum) 8 then ab_psh k s (0, ab_min p q) r else none
      | _, _ => none
    | [2], x :: r => match ab_iv s.1 x with
      | some p => bif Nat.ble ((r.map ab_ct).sum) 8 then ab_psh k s (0, ab_abs p) r else none
      | none => none
    | [3], n :: dp :: a :: sp :: a0 :: r => match ab_iv s.1 n, ab_iv s.1 dp, ab_rv a, ab_iv s.1 sp, ab_rv a0 with
      | some n, some dp, some a, some sp, some a0 => match s.2.2.2[a0]?, s.2.2.2[a]? with
        | some (.inl (t0, n0, d0, e0)), some (.inl (t1, n1, d1, e1)) =>
          bif ab_cpc t0 t1 n dp sp n0 n1 r then
            some [(k + 1, (s.1, s.2.1, r, s.2.2.2.set a (.inl (t1, n1, d1, ab_cp d0 e0 d1 e1 (sp.1 - 2147483648) (dp.1 - 2147483648) (n.1 - 2147483648) n1))))] else none
        | _, _ => none
      | _, _, _, _, _ => none
    | _, _ => none
  | _ => none
