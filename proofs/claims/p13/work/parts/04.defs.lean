/-! words, links, what a row must keep: definitions alone, so that the program's tables stand on them -/
def pv_T : List Cond := lw_tbl.filter goodWord
def pv_isN : Cond → Bool
  | .fieldLinkNest .. => true
  | .methodLinkNest .. => true
  | _ => false
def pv_N : List Cond := lw_tbl.filter pv_isN
/-! WHAT A ROW MUST KEEP, as a program tells -/
def pv_nx (rows : List pv_R) (k pc len L : Nat) : Bool := len == L && pv_pc rows (k + 1) == pc + L
/-- the owners of code, by their numbers -/
def pv_cn : List String := ["CliffGarden$Brow", "CliffGarden$Court", "CliffGarden$Falls", "CliffGarden$Nets", "CliffGarden$Planting", "CliffGarden$Reader", "CliffGarden$Rounds", "CliffGarden$Statute", "CliffGarden$Swallow", "CliffGarden$Tape", "CliffGarden$Water", "CliffGarden", "CliffGardenModel", "java/util/Arrays", "java/lang/Integer", "java/lang/Long"]
def pv_my (y : MethodName) (n : Nat) : Bool := decide (y.cls ≠ "java/lang/invoke/MethodHandle" ∧ y.cls ≠ "java/lang/invoke/VarHandle" ∧ (parseMethodDescriptor y.desc).map (fun d => d.parameters.length) = some n)
/-- what a link's number says -/
def pv_sem (pr : List pv_M) (c : List Nat) : Prop := match c with
  | [0, o, idx, ci, j] => ∀ own q, pv_cn[o]? = some own → vwCl[ci]? = some q → (Cond.fieldLink own idx (q.2.1 j).1 (q.2.1 j).2.1 (q.2.1 j).2.2.1 ∈ pv_T ∨ ∃ hst, Cond.fieldLinkNest own idx (q.2.1 j).1 (q.2.1 j).2.1 (q.2.1 j).2.2.1 hst ∈ pv_N)
  | [1, o, idx, ci, j] => ∀ own q, pv_cn[o]? = some own → vwCl[ci]? = some q → Cond.fieldLink own idx (q.2.1 j).1 (q.2.1 j).2.1 (q.2.1 j).2.2.1 ∈ pv_T ∧ (q.2.1 j).1 = own
  | [2, o, idx, v] => ∀ own, pv_cn[o]? = some own → Cond.constant own idx (Int32.ofNat v) ∈ pv_T
  | [3, o, idx, v] => ∀ own, pv_cn[o]? = some own → Cond.constantLong own idx (Int64.ofNat v) ∈ pv_T
  | [4, o, idx, ci] => ∀ own q, pv_cn[o]? = some own → vwCl[ci]? = some q → Cond.classLink own idx q.1 ∈ pv_T ∧ Cond.instantiable q.1 q.2.2 ∈ pv_T ∧ Cond.initialized q.1 ∈ pv_T
  | [5, o, idx] => ∀ own, pv_cn[o]? = some own → Cond.methodLink own idx Lib.objectInit ∈ pv_T ∧ Cond.instanceMethod Lib.objectInit ∈ pv_T ∧ Cond.code Lib.objectInit ⟨#[0xb1]⟩ 1 none ∈ pv_T
  | [6, o, idx, 0] => ∀ own, pv_cn[o]? = some own → Cond.methodLink own idx Lib.Math.max.name ∈ pv_T ∧ Cond.static Lib.Math.max.name ∈ pv_T ∧ Cond.initialized "java/lang/Math" ∈ pv_T ∧ Cond.code Lib.Math.max.name Lib.Math.max.code 2 (some .int) ∈ pv_T
  | [6, o, idx, 1] => ∀ own, pv_cn[o]? = some own → Cond.methodLink own idx Lib.Math.min.name ∈ pv_T ∧ Cond.static Lib.Math.min.name ∈ pv_T ∧ Cond.initialized "java/lang/Math" ∈ pv_T ∧ Cond.code Lib.Math.min.name Lib.Math.min.code 2 (some .int) ∈ pv_T
  | [6, o, idx, 2] => ∀ own, pv_cn[o]? = some own → Cond.methodLink own idx Lib.Math.abs.name ∈ pv_T ∧ Cond.static Lib.Math.abs.name ∈ pv_T ∧ Cond.initialized "java/lang/Math" ∈ pv_T ∧ Cond.code Lib.Math.abs.name Lib.Math.abs.code 1 (some .int) ∈ pv_T
  | [6, o, idx, 3] => ∀ own, pv_cn[o]? = some own → Cond.methodLink own idx arraycopyName ∈ pv_T ∧ Cond.static arraycopyName ∈ pv_T ∧ Cond.initialized "java/lang/System" ∈ pv_T ∧ Cond.native arraycopyName ∈ pv_T
  | [7, o, idx, j, n] => ∀ own M, pv_cn[o]? = some own → pr[j]? = some M → (Cond.methodLink own idx M.1 ∈ pv_T ∨ ∃ hst, Cond.methodLinkNest own idx M.1 hst ∈ pv_N) ∧ Cond.static M.1 ∈ pv_T ∧ pv_my M.1 n = true
  | [8, o, idx, j, n, ci] => ∀ own M q, pv_cn[o]? = some own → pr[j]? = some M → vwCl[ci]? = some q → (Cond.methodLink own idx M.1 ∈ pv_T ∨ ∃ hst, Cond.methodLinkNest own idx M.1 hst ∈ pv_N) ∧ Cond.instanceMethod M.1 ∈ pv_T ∧ Cond.selects M.1.cls M.1 M.1 ∈ pv_T ∧ pv_my M.1 n = true ∧ q.1 = M.1.cls
  | [9, o, idx, j, n] => ∀ own M, pv_cn[o]? = some own → pr[j]? = some M → (Cond.methodLink own idx M.1 ∈ pv_T ∨ ∃ hst, Cond.methodLinkNest own idx M.1 hst ∈ pv_N) ∧ Cond.instanceMethod M.1 ∈ pv_T ∧ pv_my M.1 n = true ∧ M.1.name = "<init>" ∧ M.2.2.2.1 = none
  | _ => True
def pv_lk (LK : List (List Nat)) (p : Nat) (c : List Nat) : Bool := decide (LK[p]? = some c)
theorem pv_lk_inv {LK : List (List Nat)} {p : Nat} {c : List Nat} (h : pv_lk LK p c = true) : c ∈ LK := List.mem_of_getElem? (of_decide_eq_true h)
/-- what holds of every method: its code's word, its class's -/
def pv_mf (M : pv_M) : Prop := Cond.code M.1 M.2.1 M.2.2.1 M.2.2.2.1 ∈ pv_T ∧ Cond.initialized M.1.cls ∈ pv_T
def pv_LKs (pr : List pv_M) (LK : List (List Nat)) : Prop := (∀ c ∈ LK, pv_sem pr c) ∧ ∀ (j : Nat) (M : pv_M), pr[j]? = some M → pv_mf M
def pv_jp (rows : List pv_R) (pc : Nat) (off : Int) (t : Nat) : Bool := decide ((pc : Int) + off = (pv_pc rows t : Int))
def pv_okx (LK : List (List Nat)) (rows : List pv_R) (o : Nat) (mn : String) (nL k pc len : Nat) (i : Instr) (xs ps : List Nat) : Bool := match i with
  | .iconst _ => pv_nx rows k pc len 1
  | .bipush _ => pv_nx rows k pc len 2
  | .sipush _ => pv_nx rows k pc len 3
  | .lconst _ => pv_nx rows k pc len 1
  | .ldc idx => match xs, ps with
    | [v], [p] => pv_nx rows k pc len 2 && pv_lk LK p [2, o, idx, v]
    | _, _ => false
  | .ldc_w idx => match xs, ps with
    | [v], [p] => pv_nx rows k pc len 3 && pv_lk LK p [2, o, idx, v]
    | _, _ => false
  | .ldc2_w idx => match xs, ps with
    | [v], [p] => pv_nx rows k pc len 3 && pv_lk LK p [3, o, idx, v]
    | _, _ => false
  | .iload _ => pv_nx rows k pc len 2
  | .lload _ => pv_nx rows k pc len 2
  | .aload _ => pv_nx rows k pc len 2
  | .iload_n _ => pv_nx rows k pc len 1
  | .lload_n _ => pv_nx rows k pc len 1
  | .aload_n _ => pv_nx rows k pc len 1
  | .istore i => pv_nx rows k pc len 2 && decide (i < nL)
  | .lstore i => pv_nx rows k pc len 2 && decide (i + 1 < nL)
  | .astore i => pv_nx rows k pc len 2 && decide (i < nL)
  | .istore_n i => pv_nx rows k pc len 1 && decide (i.val < nL)
  | .lstore_n i => pv_nx rows k pc len 1 && decide (i.val + 1 < nL)
  | .astore_n i => pv_nx rows k pc len 1 && decide (i.val < nL)
  | .iinc i _ => pv_nx rows k pc len 3 && decide (i < nL)
  | .iadd => pv_nx rows k pc len 1
  | .isub => pv_nx rows k pc len 1
  | .imul => pv_nx rows k pc len 1
  | .iand => pv_nx rows k pc len 1
  | .ior => pv_nx rows k pc len 1
  | .ixor => pv_nx rows k pc len 1
  | .ishl => pv_nx rows k pc len 1
  | .ishr => pv_nx rows k pc len 1
  | .iushr => pv_nx rows k pc len 1
  | .idiv => pv_nx rows k pc len 1
  | .irem => pv_nx rows k pc len 1
  | .ineg => pv_nx rows k pc len 1
  | .ladd => pv_nx rows k pc len 1
  | .lsub => pv_nx rows k pc len 1
  | .lmul => pv_nx rows k pc len 1
  | .land => pv_nx rows k pc len 1
  | .lor => pv_nx rows k pc len 1
  | .lxor => pv_nx rows k pc len 1
  | .ldiv => pv_nx rows k pc len 1
  | .lrem => pv_nx rows k pc len 1
  | .lshl => pv_nx rows k pc len 1
  | .lshr => pv_nx rows k pc len 1
  | .lushr => pv_nx rows k pc len 1
  | .lcmp => pv_nx rows k pc len 1
  | .i2l => pv_nx rows k pc len 1
  | .l2i => pv_nx rows k pc len 1
  | .i2b => pv_nx rows k pc len 1
  | .i2c => pv_nx rows k pc len 1
  | .dup => pv_nx rows k pc len 1
  | .pop => pv_nx rows k pc len 1
  | .dup2 => pv_nx rows k pc len 1
  | .goto off => match xs with
    | [t] => len == 3 && pv_jp rows pc off t
    | _ => false
  | .ifCond _ off => match xs with
    | [t] => pv_nx rows k pc len 3 && pv_jp rows pc off t
    | _ => false
  | .if_icmp _ off => match xs with
    | [t] => pv_nx rows k pc len 3 && pv_jp rows pc off t
    | _ => false
  | .tableswitch d lo hi offs => match xs with
    | t :: ts => pv_jp rows pc d t && decide (ts.length = offs.size) && (offs.toList.zip ts).all (fun q => pv_jp rows pc q.1 q.2)
    | _ => false
  | .getfield idx => match xs, ps with
    | [ci, j], [p] => pv_nx rows k pc len 3 && (match vwCl[ci]? with
      | some q => decide (j < q.2.2) && pv_lk LK p [0, o, idx, ci, j]
      | none => false)
    | _, _ => false
  | .putfield idx => match xs, ps with
    | [ci, j], [p] => pv_nx rows k pc len 3 && (match vwCl[ci]? with
      | some q => decide (j < q.2.2) && (if (q.2.1 j).2.2.2 then pv_lk LK p [1, o, idx, ci, j] && decide (mn = "<init>") else pv_lk LK p [0, o, idx, ci, j])
      | none => false)
    | _, _ => false
  | .iaload => pv_nx rows k pc len 1
  | .baload => pv_nx rows k pc len 1
  | .laload => pv_nx rows k pc len 1
  | .iastore => pv_nx rows k pc len 1
  | .bastore => pv_nx rows k pc len 1
  | .lastore => pv_nx rows k pc len 1
  | .arraylength => pv_nx rows k pc len 1
  | .newarray _ => pv_nx rows k pc len 2
  | .new idx => match xs, ps with
    | [ci], [p] => pv_nx rows k pc len 3 && (match vwCl[ci]? with
      | some _ => pv_lk LK p [4, o, idx, ci]
      | none => false)
    | _, _ => false
  | .invokespecial idx => match xs, ps with
    | [9], [p] => pv_nx rows k pc len 3 && pv_lk LK p [5, o, idx]
    | _, _ => false
  | .invokestatic idx => match xs, ps with
    | [z], [p] => pv_nx rows k pc len 3 && pv_lk LK p [6, o, idx, z]
    | _, _ => false
  | _ => false
/-! CALLS, ENDS, WHOLE METHODS -/
def pv_isR : Instr → Bool
  | .ireturn => true
  | .lreturn => true
  | .return_ => true
  | _ => false
def pv_isC (i : Instr) (xs : List Nat) : Bool := match i with
  | .invokestatic _ => decide (2 ≤ xs.length)
  | .invokevirtual _ => true
  | .invokespecial _ => decide (2 ≤ xs.length)
  | _ => false
def pv_okc (LK : List (List Nat)) (o : Nat) (i : Instr) (xs ps : List Nat) : Bool := match i, xs, ps with
  | .invokestatic idx, [j, n], [p] => pv_lk LK p [7, o, idx, j, n]
  | .invokevirtual idx, [j, n, ci], [p] => pv_lk LK p [8, o, idx, j, n, ci] && decide (ci < 13)
  | .invokespecial idx, [j, n, _], [p] => pv_lk LK p [9, o, idx, j, n]
  | _, _, _ => false
def pv_okr (rt : Option FieldType) (i : Instr) (xs : List Nat) : Bool := match i with
  | .ireturn => match xs with
    | [0] => decide (rt = some .int)
    | [1] => decide (rt = some .boolean)
    | _ => false
  | .lreturn => decide (rt = some .long)
  | .return_ => decide (rt = none)
  | _ => false
def pv_okR (LK : List (List Nat)) (M : pv_M) (o k : Nat) (r : pv_R) : Bool := decide (decode M.2.1 r.1 = .ok (r.2.1, r.2.2.1)) &&
  (if pv_isR r.2.1 then pv_okr M.2.2.2.1 r.2.1 r.2.2.2.1 && r.2.2.1 == 1
   else if pv_isC r.2.1 r.2.2.2.1 then pv_okc LK o r.2.1 r.2.2.2.1 r.2.2.2.2 && pv_nx M.2.2.2.2 k r.1 r.2.2.1 3
   else pv_okx LK M.2.2.2.2 o M.1.name M.2.2.1 k r.1 r.2.2.1 r.2.1 r.2.2.2.1 r.2.2.2.2)
def pv_okM (LK : List (List Nat)) (M : pv_M) : Bool := plainName M.1.cls && pv_pc M.2.2.2.2 0 == 0 && decide (M.2.2.1 ≤ 30) && (List.range pv_cn.length).any (fun o => decide (pv_cn[o]? = some M.1.cls) && (List.range M.2.2.2.2.length).all (fun k => match M.2.2.2.2[k]? with
  | some r => decide (r.2.1 = .nop) || pv_okR LK M o k r
  | none => true))
