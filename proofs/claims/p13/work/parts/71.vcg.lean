/-! A GENERATOR OF CONDITIONS over the pure machine: numbers are integers, the heap a function of places -/
abbrev qV : Type := (Bool × Int) ⊕ (Int ⊕ Nat)
abbrev qA : Type := Nat → Int → Int
abbrev qL : Type := List (Nat × qV)
abbrev qY : Type := Nat × Nat × Nat × List (Nat × Nat)
abbrev qK : Type := Option qV → qA → Prop
abbrev qS : Type := List qV → qA → qK → Prop
abbrev qC : Type := Nat × List (Nat × Nat × Nat) × (List Int → qA → Nat → Prop)
abbrev ni (z : Int) : qV := .inl (true, z)
abbrev nl (z : Int) : qV := .inr (.inl z)
abbrev rf (n : Nat) : qV := .inr (.inr n)
abbrev rng (z : Int) : Prop := -2147483648 ≤ z ∧ z < 2147483648
abbrev rngL (z : Int) : Prop := -9223372036854775808 ≤ z ∧ z < 9223372036854775808
def wI (z : Int) : Int := (Int32.ofInt z).toInt
def wL (z : Int) : Int := (Int64.ofInt z).toInt
def qv : qV → Value
  | .inl (_, z) => .int (Int32.ofInt z)
  | .inr (.inl z) => .long (Int64.ofInt z)
  | .inr (.inr n) => .ref n
def qok : qV → Prop
  | .inl (true, z) => rng z
  | .inl (false, _) => True
  | .inr (.inl z) => rngL z
  | .inr (.inr _) => True
def qcat : qV → Nat
  | .inr (.inl _) => 2
  | _ => 1
/-! the heap: a cell is (0, t, n, _) numbers, (1, 3, n, _) longs, (2, its kind, _, what its fields are: (0, _) a number, (1, _) a long, (2, _) a place that changes, (3, n) the place n) -/
def qfv (A : qA) (r j : Nat) : Nat × Nat → Value
  | (0, _) => .int (Int32.ofInt (A r j))
  | (1, _) => .long (Int64.ofInt (A r j))
  | (2, _) => if A r j < 0 then .null else .ref (A r j).toNat
  | (_, n) => .ref n
def qfs (A : qA) (r : Nat) : Nat → List (Nat × Nat) → List Value
  | _, [] => []
  | j, k :: ks => qfv A r j k :: qfs A r (j + 1) ks
def qce (A : qA) (r : Nat) : qY → va_E
  | (0, t, n, _) => .inl (t, n, .inl (fun j => Int32.ofInt (A r j)))
  | (1, t, n, _) => .inl (t, n, .inr (.inl (fun j => Int64.ofInt (A r j))))
  | (_, ci, _, ks) => .inr (ci, qfs A r 0 ks)
def qmk (A : qA) : Nat → List qY → pv_H
  | _, [] => []
  | r, y :: L => qce A r y :: qmk A (r + 1) L
def qH (L : List qY) (A : qA) : pv_H := qmk A 0 L
/-- the place of a field -/
def fd (j : Nat) : Int := j
def qu (A : qA) (r : Nat) (j v : Int) : qA := fun b i => if b = r ∧ i = j then v else A b i
def qcpy (A : qA) (r0 : Nat) (sp : Int) (r : Nat) (dp n : Int) : qA := fun b i => if b = r ∧ dp ≤ i ∧ i < dp + n then A r0 (sp + (i - dp)) else A b i
def qlng (L : List qY) (r : Nat) (j : Int) : Bool := match L[r]? with
  | some (1, _) => true
  | some (2, _, _, ks) => (match ks[j.toNat]? with
    | some (1, _) => true
    | _ => false)
  | _ => false
def qokA (L : List qY) (A : qA) : Prop := ∀ r j, rngL (A r j) ∧ (qlng L r j = false → rng (A r j))
/-! locals -/
def ql (lo : qL) : pv_L := lo.map (fun q => (q.1, qv q.2))
def qget : qL → Nat → Option qV
  | [], _ => none
  | (j, v) :: lo, i => bif Nat.beq j i then some v else qget lo i
def qset1 (lo : qL) (i : Nat) (v : qV) : qL := (i, v) :: lo.filter (fun q => !(q.1 == i) && !(q.1 + 1 == i && qcat q.2 == 2))
def qset2 (lo : qL) (i : Nat) (v : qV) : qL := (i, v) :: lo.filter (fun q => !(q.1 == i) && (!(q.1 == i + 1) && !(q.1 + 1 == i && qcat q.2 == 2)))
def qargsL : Nat → List qV → qL
  | _, [] => []
  | i, v :: vs => (i, v) :: qargsL (bif qcat v == 2 then i + 2 else i + 1) vs
def qcats : List qV → Nat
  | [] => 0
  | v :: vs => qcat v + qcats vs
/-! numbers -/
def qsm (m : Nat) : Int → Bool
  | .ofNat n => Nat.blt n m
  | .negSucc n => Nat.blt n m
def qput (md : Bool) : Bool → Int → (Int → Prop) → Prop
  | true, z, P => P z
  | false, z, P => match md with
    | true => P (wI z)
    | false => rng z ∧ P z
def qc : Jvm.ClassFile.Cond → Int → Int → Prop
  | .eq, a, b => a = b
  | .ne, a, b => a ≠ b
  | .lt, a, b => a < b
  | .ge, a, b => b ≤ a
  | .gt, a, b => b < a
  | .le, a, b => a ≤ b
def qbr : Jvm.ClassFile.Cond → Int → Int → Prop → Prop → Prop
  | .eq, a, b, P, R => (a = b → P) ∧ (a ≠ b → R)
  | .ne, a, b, P, R => (a ≠ b → P) ∧ (a = b → R)
  | .lt, a, b, P, R => (a < b → P) ∧ (b ≤ a → R)
  | .ge, a, b, P, R => (b ≤ a → P) ∧ (a < b → R)
  | .gt, a, b, P, R => (b < a → P) ∧ (a ≤ b → R)
  | .le, a, b, P, R => (a ≤ b → P) ∧ (b < a → R)
def qn (v : Nat) : Int := bif Nat.blt v 2147483648 then (v : Int) else (v : Int) - 4294967296
def qnL (v : Nat) : Int := bif Nat.blt v 9223372036854775808 then (v : Int) else (v : Int) - 18446744073709551616
def qd (a b : Int) : Int := Int.tdiv a b
def qm (a b : Int) : Int := Int.tmod a b
def ia (a b : Int) : Int := (Int32.ofInt a &&& Int32.ofInt b).toInt
def io (a b : Int) : Int := (Int32.ofInt a ||| Int32.ofInt b).toInt
def ix (a b : Int) : Int := (Int32.ofInt a ^^^ Int32.ofInt b).toInt
def sl (a b : Int) : Int := (Int32.ofInt a <<< (Int32.ofInt b &&& 31)).toInt
def sr (a b : Int) : Int := (Int32.ofInt a >>> (Int32.ofInt b &&& 31)).toInt
def su (a b : Int) : Int := ((Int32.ofInt a).toUInt32 >>> ((Int32.ofInt b).toUInt32 &&& Int32.toUInt32 31)).toInt32.toInt
def ja (a b : Int) : Int := (Int64.ofInt a &&& Int64.ofInt b).toInt
def jo (a b : Int) : Int := (Int64.ofInt a ||| Int64.ofInt b).toInt
def jx (a b : Int) : Int := (Int64.ofInt a ^^^ Int64.ofInt b).toInt
def jsl (a b : Int) : Int := (Int64.ofInt a <<< ((Int32.ofInt b).toInt64 &&& 63)).toInt
def jsr (a b : Int) : Int := (Int64.ofInt a >>> ((Int32.ofInt b).toInt64 &&& 63)).toInt
def jsu (a b : Int) : Int := ((Int64.ofInt a).toUInt64 >>> ((Int32.ofInt b).toInt64.toUInt64 &&& Int64.toUInt64 63)).toInt64.toInt
def jc (a b : Int) : Int := if a = b then 0 else if b < a then 1 else -1
def qone (s : Nat) (x : Int) : Int := (pv_one s (Int32.ofInt x)).toInt
def qix (s : Nat) (x : Int) : Int := (pv_ix s (pv_chr (Int32.ofInt x))).toInt
def w8 (z : Int) : Int := (Int32.ofInt z).toInt8.toInt32.toInt
/-! places that change: what they are taken to be -/
def qtau (t : List (Nat × Nat × Nat)) (r j : Nat) : Option Nat := match t with
  | [] => none
  | (r', j', n) :: t => bif Nat.beq r r' && Nat.beq j j' then some n else qtau t r j
/-! an instruction that neither calls nor ends -/
section QX
variable (L : List qY) (T : List (Nat × Nat × Nat)) (md : Bool)
def qlod (t : Nat) (lo : qL) (i k : Nat) (st : List qV) (A : qA) (nx : Nat → qL → List qV → qA → Prop) : Prop := match qget lo i, t with
  | some (.inl z), 0 => nx (k + 1) lo (.inl z :: st) A
  | some (.inr (.inl z)), 1 => nx (k + 1) lo (nl z :: st) A
  | some (.inr (.inr z)), 2 => nx (k + 1) lo (rf z :: st) A
  | _, _ => False
def qsto (t : Nat) (lo : qL) (i k : Nat) (st : List qV) (A : qA) (nx : Nat → qL → List qV → qA → Prop) : Prop := match st, t with
  | .inl z :: r, 0 => nx (k + 1) (qset1 lo i (.inl z)) r A
  | .inr (.inl z) :: r, 1 => nx (k + 1) (qset2 lo i (nl z)) r A
  | .inr (.inr z) :: r, 2 => nx (k + 1) (qset1 lo i (rf z)) r A
  | _, _ => False
def qi2 (t : Bool) (f : Int → Int → Int) (k : Nat) (lo : qL) (st : List qV) (A : qA) (nx : Nat → qL → List qV → qA → Prop) : Prop := match st with
  | .inl (_, y) :: .inl (_, x) :: r => ∀ v, v = f x y → nx (k + 1) lo (.inl (t, v) :: r) A
  | _ => False
def qiadd (k : Nat) (lo : qL) (st : List qV) (A : qA) (nx : Nat → qL → List qV → qA → Prop) : Prop := match st with
  | .inl (_, y) :: .inl (_, x) :: r => ∀ v, v = x + y → nx (k + 1) lo (.inl (false, v) :: r) A
  | _ => False
def qisub (k : Nat) (lo : qL) (st : List qV) (A : qA) (nx : Nat → qL → List qV → qA → Prop) : Prop := match st with
  | .inl (_, y) :: .inl (_, x) :: r => ∀ v, v = x - y → nx (k + 1) lo (.inl (false, v) :: r) A
  | _ => False
def qimul (k : Nat) (lo : qL) (st : List qV) (A : qA) (nx : Nat → qL → List qV → qA → Prop) : Prop := match st with
  | .inl (_, y) :: .inl (_, x) :: r => ∀ v, v = x * y → nx (k + 1) lo (.inl (false, v) :: r) A
  | _ => False
def jadd (x y : Int) : Int := wL (x + y)
def jsub (x y : Int) : Int := wL (x - y)
def jmul (x y : Int) : Int := wL (x * y)
def qj2 (f : Int → Int → Int) (k : Nat) (lo : qL) (st : List qV) (A : qA) (nx : Nat → qL → List qV → qA → Prop) : Prop := match st with
  | .inr (.inl y) :: .inr (.inl x) :: r => ∀ v, v = f x y → nx (k + 1) lo (nl v :: r) A
  | _ => False
def qjs (f : Int → Int → Int) (k : Nat) (lo : qL) (st : List qV) (A : qA) (nx : Nat → qL → List qV → qA → Prop) : Prop := match st with
  | .inl (_, y) :: .inr (.inl x) :: r => ∀ v, v = f x y → nx (k + 1) lo (nl v :: r) A
  | _ => False
def qsw (x : Int) (f : Nat → Prop) : List Nat → Int → Prop
  | [], _ => True
  | t :: ts, c => (x = c → f t) ∧ qsw x f ts (c + 1)
def qlsw (x : Int) (f : Nat → Prop) (d : Nat) : List Nat → Prop
  | k :: t :: ps => bif Nat.blt k 2147483648 then ((x = (k : Int) → f t) ∧ (x ≠ (k : Int) → qlsw x f d ps)) else False
  | _ => f d
def qty (ci j : Nat) : Nat := match pv_tyX ci j with
  | .int => 0
  | .long => 1
  | .object _ => 2
  | _ => 9
def qald (t : Nat) (k : Nat) (lo : qL) (st : List qV) (A : qA) (nx : Nat → qL → List qV → qA → Prop) : Prop := match st with
  | .inl (_, i) :: .inr (.inr a) :: r => match L[a]? with
    | some (0, t', n, _) => bif Nat.beq t' t && Nat.blt n 2147483648 then ((0 ≤ i ∧ i < n) ∧ ∀ v, rng v → v = A a i → nx (k + 1) lo (ni v :: r) A) else False
    | _ => False
  | _ => False
def qast (k : Nat) (lo : qL) (st : List qV) (A : qA) (nx : Nat → qL → List qV → qA → Prop) : Prop := match st with
  | .inl (t, x) :: .inl (_, i) :: .inr (.inr a) :: r => match L[a]? with
    | some (0, 0, n, _) => bif Nat.blt n 2147483648 then ((0 ≤ i ∧ i < n) ∧ qput md t x (fun z => ∀ A', A' = qu A a i z → nx (k + 1) lo r A')) else False
    | _ => False
  | _ => False
def qbst (t : Nat) (p : Int → Prop) (k : Nat) (lo : qL) (st : List qV) (A : qA) (nx : Nat → qL → List qV → qA → Prop) : Prop := match st with
  | .inl (_, z) :: .inl (_, i) :: .inr (.inr a) :: r => match L[a]? with
    | some (0, t', n, _) => bif Nat.beq t' t && Nat.blt n 2147483648 then ((0 ≤ i ∧ i < n) ∧ p z ∧ ∀ A', A' = qu A a i z → nx (k + 1) lo r A') else False
    | _ => False
  | _ => False
def qgf (xs : List Nat) (k : Nat) (lo : qL) (st : List qV) (A : qA) (nx : Nat → qL → List qV → qA → Prop) : Prop := match xs, st with
  | [ci, j], .inr (.inr a) :: r => match L[a]? with
    | some (2, ci', _, ks) => bif Nat.beq ci' ci then (match ks[j]? with
      | some (0, _) => bif qlng L a (fd j) then False else ∀ v, rng v → v = A a (fd j) → nx (k + 1) lo (ni v :: r) A
      | some (1, _) => ∀ v, v = A a (fd j) → nx (k + 1) lo (nl v :: r) A
      | some (2, _) => (match qtau T a j with
        | some n => A a (fd j) = n ∧ nx (k + 1) lo (rf n :: r) A
        | none => False)
      | some (_, n) => nx (k + 1) lo (rf n :: r) A
      | none => False) else False
    | _ => False
  | _, _ => False
def qpf (xs : List Nat) (k : Nat) (lo : qL) (st : List qV) (A : qA) (nx : Nat → qL → List qV → qA → Prop) : Prop := match xs, st with
  | [ci, j], v :: .inr (.inr a) :: r => match L[a]? with
    | some (2, ci', _, ks) => bif Nat.beq ci' ci then (match ks[j]?, qty ci j, v with
      | some (0, _), 0, .inl (t, x) => qput md t x (fun z => ∀ A', A' = qu A a (fd j) z → nx (k + 1) lo r A')
      | some (1, _), 1, .inr (.inl z) => bif qlng L a (fd j) then (∀ A', A' = qu A a (fd j) z → nx (k + 1) lo r A') else False
      | some (2, _), 2, .inr (.inr n) => bif Nat.blt n 2147483648 then (∀ A', A' = qu A a (fd j) n → nx (k + 1) lo r A') else False
      | _, _, _ => False) else False
    | _ => False
  | _, _ => False
def qx (i : Instr) (xs : List Nat) (k : Nat) (lo : qL) (st : List qV) (A : qA) (nx : Nat → qL → List qV → qA → Prop) : Prop := match i with
  | .iconst n => nx (k + 1) lo (.inl (qsm 2147483648 n, n) :: st) A
  | .bipush n => bif qsm 128 n then nx (k + 1) lo (ni n :: st) A else False
  | .sipush n => bif qsm 32768 n then nx (k + 1) lo (ni n :: st) A else False
  | .lconst n => bif Nat.blt n 2147483648 then (∀ v, v = ((n : Nat) : Int) → nx (k + 1) lo (nl v :: st) A) else False
  | .ldc _ => match xs with
    | [v] => bif Nat.blt v 4294967296 then nx (k + 1) lo (ni (qn v) :: st) A else False
    | [s, 0, _] => (match st with
      | .inl (_, x) :: r => bif Nat.ble (qcats r) 4 then (∀ v, v = qone s x → nx (k + 2) lo (ni v :: r) A) else False
      | _ => False)
    | [s, 1, i] => (match qget lo i with
      | some (.inl (_, x)) => bif Nat.ble (qcats st) 4 then (∀ v, v = qix s x → nx (k + 4) lo (ni v :: st) A) else False
      | _ => False)
    | _ => False
  | .ldc_w _ => match xs with
    | [v] => bif Nat.blt v 4294967296 then nx (k + 1) lo (ni (qn v) :: st) A else False
    | _ => False
  | .ldc2_w _ => match xs with
    | [v] => bif Nat.blt v 18446744073709551616 then nx (k + 1) lo (nl (qnL v) :: st) A else False
    | _ => False
  | .iload i => qlod 0 lo i k st A nx
  | .iload_n i => qlod 0 lo i k st A nx
  | .lload i => qlod 1 lo i k st A nx
  | .lload_n i => qlod 1 lo i k st A nx
  | .aload i => qlod 2 lo i k st A nx
  | .aload_n i => qlod 2 lo i k st A nx
  | .istore i => qsto 0 lo i k st A nx
  | .istore_n i => qsto 0 lo i k st A nx
  | .lstore i => qsto 1 lo i k st A nx
  | .lstore_n i => qsto 1 lo i k st A nx
  | .astore i => qsto 2 lo i k st A nx
  | .astore_n i => qsto 2 lo i k st A nx
  | .iinc i n => match qget lo i with
    | some (.inl (_, z)) => ∀ v, v = z + n → nx (k + 1) (qset1 lo i (.inl (false, v))) st A
    | _ => False
  | .iadd => qiadd k lo st A nx
  | .isub => qisub k lo st A nx
  | .imul => qimul k lo st A nx
  | .iand => qi2 true ia k lo st A nx
  | .ior => qi2 true io k lo st A nx
  | .ixor => qi2 true ix k lo st A nx
  | .ishl => qi2 true sl k lo st A nx
  | .ishr => qi2 true sr k lo st A nx
  | .iushr => qi2 true su k lo st A nx
  | .idiv => match st with
    | .inl (ty, y) :: .inl (tx, x) :: r => qput md tx x (fun x => qput md ty y (fun y => y ≠ 0 ∧ ∀ v, v = qd x y → nx (k + 1) lo (.inl (false, v) :: r) A))
    | _ => False
  | .irem => match st with
    | .inl (ty, y) :: .inl (tx, x) :: r => qput md tx x (fun x => qput md ty y (fun y => y ≠ 0 ∧ ∀ v, v = qm x y → nx (k + 1) lo (ni v :: r) A))
    | _ => False
  | .ineg => match st with
    | .inl (_, x) :: r => ∀ v, v = -x → nx (k + 1) lo (.inl (false, v) :: r) A
    | _ => False
  | .ladd => qj2 jadd k lo st A nx
  | .lsub => qj2 jsub k lo st A nx
  | .lmul => qj2 jmul k lo st A nx
  | .land => qj2 ja k lo st A nx
  | .lor => qj2 jo k lo st A nx
  | .lxor => qj2 jx k lo st A nx
  | .ldiv => match st with
    | .inr (.inl y) :: .inr (.inl x) :: r => y ≠ 0 ∧ ∀ v, v = wL (Int.tdiv x y) → nx (k + 1) lo (nl v :: r) A
    | _ => False
  | .lrem => match st with
    | .inr (.inl y) :: .inr (.inl x) :: r => y ≠ 0 ∧ ∀ v, v = Int.tmod x y → nx (k + 1) lo (nl v :: r) A
    | _ => False
  | .lshl => qjs jsl k lo st A nx
  | .lshr => qjs jsr k lo st A nx
  | .lushr => qjs jsu k lo st A nx
  | .lcmp => match st with
    | .inr (.inl y) :: .inr (.inl x) :: r => ∀ v, v = jc x y → nx (k + 1) lo (ni v :: r) A
    | _ => False
  | .i2l => match st with
    | .inl (tx, x) :: r => qput md tx x (fun x => nx (k + 1) lo (nl x :: r) A)
    | _ => False
  | .l2i => match st with
    | .inr (.inl x) :: r => nx (k + 1) lo (.inl (false, x) :: r) A
    | _ => False
  | .i2b => match st with
    | .inl (_, x) :: r => ∀ v, v = w8 x → nx (k + 1) lo (ni v :: r) A
    | _ => False
  | .i2c => match st with
    | .inl (_, x) :: r => ∀ v, v = x % 65536 → nx (k + 1) lo (ni v :: r) A
    | _ => False
  | .dup => match st with
    | v :: r => bif Nat.beq (qcat v) 1 then nx (k + 1) lo (v :: v :: r) A else False
    | _ => False
  | .pop => match st with
    | v :: r => bif Nat.beq (qcat v) 1 then nx (k + 1) lo r A else False
    | _ => False
  | .dup2 => match st with
    | v :: w :: r => bif Nat.beq (qcat v) 1 && Nat.beq (qcat w) 1 then nx (k + 1) lo (v :: w :: v :: w :: r) A else False
    | _ => False
  | .goto _ => match xs with
    | [t] => nx t lo st A
    | _ => False
  | .ifCond c _ => match xs, st with
    | [t], .inl (tx, x) :: r => qput md tx x (fun x => qbr c x 0 (nx t lo r A) (nx (k + 1) lo r A))
    | _, _ => False
  | .if_icmp c _ => match xs, st with
    | [t], .inl (ty, y) :: .inl (tx, x) :: r => qput md tx x (fun x => qput md ty y (fun y => qbr c x y (nx t lo r A) (nx (k + 1) lo r A)))
    | _, _ => False
  | .tableswitch _ a b _ => match xs, st with
    | d :: ts, .inl (tx, x) :: r => bif Nat.beq ts.length (b - a + 1).toNat then qput md tx x (fun x => (x < a ∨ b < x → nx d lo r A) ∧ qsw x (fun t => nx t lo r A) ts a) else False
    | _, _ => False
  | .lookupswitch _ _ => match xs, st with
    | d :: ps, .inl (tx, x) :: r => qput md tx x (fun x => qlsw x (fun t => nx t lo r A) d ps)
    | _, _ => False
  | .getfield _ => qgf L T xs k lo st A nx
  | .putfield _ => qpf L md xs k lo st A nx
  | .iaload => qald L 0 k lo st A nx
  | .baload => match xs with
    | [1] => qald L 1 k lo st A nx
    | [2] => qald L 2 k lo st A nx
    | _ => False
  | .laload => match st with
    | .inl (_, i) :: .inr (.inr a) :: r => match L[a]? with
      | some (1, 3, n, _) => bif Nat.blt n 2147483648 then ((0 ≤ i ∧ i < n) ∧ ∀ v, v = A a i → nx (k + 1) lo (nl v :: r) A) else False
      | _ => False
    | _ => False
  | .iastore => qast L md k lo st A nx
  | .bastore => match xs with
    | [1] => qbst L 1 (fun z => z = 0 ∨ z = 1) k lo st A nx
    | [2] => qbst L 2 (fun z => -128 ≤ z ∧ z < 128) k lo st A nx
    | _ => False
  | .lastore => match st with
    | .inr (.inl z) :: .inl (_, i) :: .inr (.inr a) :: r => match L[a]? with
      | some (1, 3, n, _) => bif Nat.blt n 2147483648 then ((0 ≤ i ∧ i < n) ∧ ∀ A', A' = qu A a i z → nx (k + 1) lo r A') else False
      | _ => False
    | _ => False
  | .arraylength => match st with
    | .inr (.inr a) :: r => match L[a]? with
      | some (0, 0, n, _) => bif Nat.blt n 2147483648 then nx (k + 1) lo (ni n :: r) A else False
      | _ => False
    | _ => False
  | .invokestatic _ => match xs, st with
    | [0], .inl (ty, y) :: .inl (tx, x) :: r => bif Nat.ble (qcats r) 8 then qput md tx x (fun x => qput md ty y (fun y => ∀ v, v = max x y → nx (k + 1) lo (ni v :: r) A)) else False
    | [1], .inl (ty, y) :: .inl (tx, x) :: r => bif Nat.ble (qcats r) 8 then qput md tx x (fun x => qput md ty y (fun y => ∀ v, v = min x y → nx (k + 1) lo (ni v :: r) A)) else False
    | [2], .inl (tx, x) :: r => bif Nat.ble (qcats r) 8 then qput md tx x (fun x => -2147483648 < x ∧ ∀ v, v = (if 0 ≤ x then x else -x) → nx (k + 1) lo (ni v :: r) A) else False
    | [3], .inl (_, n) :: .inl (_, dp) :: .inr (.inr a) :: .inl (_, sp) :: .inr (.inr a0) :: r => (match L[a0]?, L[a]? with
      | some (0, 0, n0, _), some (0, 0, n1, _) => bif Nat.ble (qcats r) 8 && Nat.blt n0 2147483648 && Nat.blt n1 2147483648 then (((0 ≤ sp ∧ 0 ≤ dp ∧ 0 ≤ n) ∧ sp + n ≤ n0 ∧ dp + n ≤ n1) ∧ ∀ A', A' = qcpy A a0 sp a dp n → nx (k + 1) lo r A') else False
      | _, _ => False)
    | _, _ => False
  | _ => False
end QX
/-! calls, ends, cuts -/
def qargs (md : Bool) : List qV → (List qV → Prop) → Prop
  | [], P => P []
  | .inl (t, x) :: vs, P => qput md t x (fun x => qargs md vs (fun ws => P (ni x :: ws)))
  | .inr x :: vs, P => qargs md vs (fun ws => P (.inr x :: ws))
def qinv (L : List qY) (i : Instr) (xs : List Nat) (st : List qV) : Option (Nat × List qV × List qV) := match i, xs with
  | .invokestatic _, [j, n] => bif Nat.ble n st.length && Nat.ble (qcats (st.drop n)) 8 then some (j, (st.take n).reverse, st.drop n) else none
  | .invokevirtual _, [j, n, ci] => match st.drop n with
    | .inr (.inr b) :: r => match L[b]? with
      | some (2, ci', _) => bif Nat.beq ci' ci && Nat.ble (qcats r) 8 then some (j, rf b :: (st.take n).reverse, r) else none
      | _ => none
    | _ => none
  | _, _ => none
def qret (md : Bool) (i : Instr) (xs : List Nat) (st : List qV) (A : qA) (K : qK) : Option Prop := match i, st with
  | .ireturn, [.inl (t, x)] => match xs with
    | [0] => some (qput md t x (fun z => K (some (ni z)) A))
    | [1] => some ((x = 0 ∨ x = 1) ∧ K (some (ni x)) A)
    | _ => none
  | .lreturn, [.inr (.inl z)] => some (K (some (nl z)) A)
  | .return_, [] => some (K none A)
  | _, _ => none
def qfind (S : List (Nat × qS)) (j : Nat) : Option qS := match S with
  | [] => none
  | (i, s) :: S => bif Nat.beq i j then some s else qfind S j
def qcol (md : Bool) : List (Nat × Nat × Nat) → qL → (List Int → Prop) → Prop
  | [], _, c => c []
  | (i, 0, _) :: tm, lo, c => match qget lo i with
    | some (.inl (t, x)) => qput md t x (fun x => qcol md tm lo (fun zs => c (x :: zs)))
    | _ => False
  | (i, 1, _) :: tm, lo, c => match qget lo i with
    | some (.inr (.inl z)) => qcol md tm lo (fun zs => c (z :: zs))
    | _ => False
  | (i, 2, n) :: tm, lo, c => match qget lo i with
    | some (.inr (.inr m)) => bif Nat.beq m n then qcol md tm lo c else False
    | _ => False
  | (i, _, _) :: tm, lo, c => match qget lo i with
    | some (.inl (t, x)) => qput true t x (fun z => qcol md tm lo (fun zs => c (z :: zs)))
    | _ => False
def qcnt : List (Nat × Nat × Nat) → Nat
  | [] => 0
  | (_, 2, _) :: tm => qcnt tm
  | _ :: tm => qcnt tm + 1
def qfill : List (Nat × Nat × Nat) → List Int → qL
  | [], _ => []
  | (i, 2, n) :: tm, zs => (i, rf n) :: qfill tm zs
  | (i, 1, _) :: tm, z :: zs => (i, nl z) :: qfill tm zs
  | (i, _, _) :: tm, z :: zs => (i, ni z) :: qfill tm zs
  | _ :: _, [] => []
def qrz : List (Nat × Nat × Nat) → List Int → Prop
  | [], _ => True
  | (_, 2, _) :: tm, zs => qrz tm zs
  | (_, 1, _) :: tm, z :: zs => rngL z ∧ qrz tm zs
  | _ :: tm, z :: zs => rng z ∧ qrz tm zs
  | _ :: _, [] => True
def qall : Nat → (List Int → Prop) → Prop
  | 0, P => P []
  | n + 1, P => ∀ x, qall n (fun zs => P (x :: zs))
def qfindC (C : List qC) (k : Nat) : Option qC := match C with
  | [] => none
  | c :: C => bif Nat.beq c.1 k then some c else qfindC C k
def qbd (bd : Option Nat) (P : Nat → Prop) : Prop := match bd with
  | none => ∃ n, P n
  | some m => ∃ n, n < m ∧ P n
def qjmp (md : Bool) (C : List qC) (bd : Option Nat) (go : Nat → qL → List qV → qA → Prop) (k : Nat) (lo : qL) (st : List qV) (A : qA) : Prop := match qfindC C k with
  | none => go k lo st A
  | some c => match st with
    | [] => qcol md c.2.1 lo (fun zs => qbd bd (fun n => c.2.2 zs A n))
    | _ => False
def qwp (L : List qY) (T : List (Nat × Nat × Nat)) (md : Bool) (S : List (Nat × qS)) (C : List qC) (rows : List pv_R) (K : qK) (bd : Option Nat) : Nat → Nat → qL → List qV → qA → Prop
  | 0, _, _, _, _ => False
  | f + 1, k, lo, st, A => match rows[k]? with
    | none => False
    | some r => match qret md r.2.1 r.2.2.2.1 st A K with
      | some P => P
      | none => match qinv L r.2.1 r.2.2.2.1 st with
        | some (j, as, rest) => (match qfind S j with
          | some sp => qargs md as (fun bs => sp bs A (fun v A' => qjmp md C bd (qwp L T md S C rows K bd f) (k + 1) lo (v.toList ++ rest) A'))
          | none => False)
        | none => qx L T md r.2.1 r.2.2.2.1 k lo st A (qjmp md C bd (qwp L T md S C rows K bd f))
