/-! WHAT A ROW MUST KEEP, as a program tells -/
def pv_nx (rows : List pv_R) (k pc len L : Nat) : Bool := len == L && pv_pc rows (k + 1) == pc + L
/-- the owners of code, by their numbers -/
def pv_cn : List String := ["CliffGarden$Brow", "CliffGarden$Court", "CliffGarden$Falls", "CliffGarden$Nets", "CliffGarden$Planting", "CliffGarden$Reader", "CliffGarden$Rounds", "CliffGarden$Statute", "CliffGarden$Swallow", "CliffGarden$Tape", "CliffGarden$Water", "CliffGarden", "CliffGardenModel", "java/util/Arrays", "java/lang/Integer", "java/lang/Long"]
def pv_my (y : MethodName) (n : Nat) : Bool := decide (y.cls ≠ "java/lang/invoke/MethodHandle" ∧ y.cls ≠ "java/lang/invoke/VarHandle" ∧ (parseMethodDescriptor y.desc).map (fun d => d.parameters.length) = some n)
/-- what a link's number says -/
def pv_sem (pr : List pv_M) (c : List Nat) : Prop := match c with
  | [0, o, idx, ci, j] => ∀ own q, pv_cn[o]? = some own → vwCl[ci]? = some q → (Cond.fieldLink own idx (q.2.1 j).1 (q.2.1 j).2.1 (q.2.1 j).2.2.1 ∈ pv_T ∨ ∃ hst, Cond.fieldLinkNest own idx (q.2.1 j).1 (q.2.1 j).2.1 (q.2.1 j).2.2.1 hst ∈ pv_N)
  | [1, o, idx, ci, j] => ∀ own q, pv_cn[o]? = some own → vwCl[ci]? = some q → Cond.fieldLink own idx (q.2.1 j).1 (q.2.1 j).2.1 (q.2.1 j).2.2.1 ∈ pv_T ∧ (q.2.1 j).1 = own
  | [2, o, idx, v] => ∀ own, pv_cn[o]? = some own → Cond.constant own idx (Int32.ofNat v) ∈ pv_T
  | [3, o, idx, v] => ∀ own, pv_cn[o]? = some own → Cond.constantLong own idx (Int64.ofNat v) ∈ pv_T
  | [4, o, idx, ci] => ∀ own q, pv_cn[o]? = some own → vwCl[ci]? = some q → Cond.classLink own idx q.1 ∈ pv_T ∧ Cond.instantiable q.1 q.2.2 ∈ pv_T ∧ Cond.initialized q.1 ∈ pv_T
  | [5, o, idx] => ∀ own, pv_cn[o]? = some own → Cond.methodLink own idx Lib.objectInit ∈ pv_T ∧ Cond.instanceMethod Lib.objectInit ∈ pv_T ∧ Cond.code Lib.objectInit ⟨#[0xb1]⟩ 1 none ∈ pv_T
  | [6, o, idx, 0] => ∀ own, pv_cn[o]? = some own → Cond.methodLink own idx Lib.Math.max.name ∈ pv_T ∧ Cond.static Lib.Math.max.name ∈ pv_T ∧ Cond.initialized "java/lang/Math" ∈ pv_T ∧ Cond.code Lib.Math.max.name Lib.Math.max.code 2 (some .int) ∈ pv_T
  | [6, o, idx, 1] => ∀ own, pv_cn[o]? = some own → Cond.methodLink own idx Lib.Math.min.name ∈ pv_T ∧ Cond.static Lib.Math.min.name ∈ pv_T ∧ Cond.initialized "java/lang/Math" ∈ pv_T ∧ Cond.code Lib.Math.min.name Lib.Math.min.code 2 (some .int) ∈ pv_T
  | [6, o, idx, 2] => ∀ own, pv_cn[o]? = some own → Cond.methodLink own idx Lib.Math.abs.name ∈ pv_T ∧ Cond.static Lib.Math.abs.name ∈ pv_T ∧ Cond.initialized "java/lang/Math" ∈ pv_T ∧ Cond.code Lib.Math.abs.name Lib.Math.abs.code 1 (some .int) ∈ pv_T
  | [6, o, idx, 3] => ∀ own, pv_cn[o]? = some own → Cond.methodLink own idx arraycopyName ∈ pv_T ∧ Cond.static arraycopyName ∈ pv_T ∧ Cond.initialized "java/lang/System" ∈ pv_T ∧ Cond.native arraycopyName ∈ pv_T
  | [7, o, idx, j, n] => ∀ own M, pv_cn[o]? = some own → pr[j]? = some M → (Cond.methodLink own idx M.1 ∈ pv_T ∨ ∃ hst, Cond.methodLinkNest own idx M.1 hst ∈ pv_N) ∧ Cond.static M.1 ∈ pv_T ∧ pv_my M.1 n = true
  | [8, o, idx, j, n, ci] => ∀ own M q, pv_cn[o]? = some own → pr[j]? = some M → vwCl[ci]? = some q → (Cond.methodLink own idx M.1 ∈ pv_T ∨ ∃ hst, Cond.methodLinkNest own idx M.1 hst ∈ pv_N) ∧ Cond.instanceMethod M.1 ∈ pv_T ∧ Cond.selects M.1.cls M.1 M.1 ∈ pv_T ∧ pv_my M.1 n = true ∧ q.1 = M.1.cls
  | [9, o, idx, j, n] => ∀ own M, pv_cn[o]? = some own → pr[j]? = some M → (Cond.methodLink own idx M.1 ∈ pv_T ∨ ∃ hst, Cond.methodLinkNest own idx M.1 hst ∈ pv_N) ∧ Cond.instanceMethod M.1 ∈ pv_T ∧ pv_my M.1 n = true ∧ M.1.name = "<init>" ∧ M.2.2.2.1 = none
  | _ => True
def pv_lk (LK : List (List Nat)) (p : Nat) (c : List Nat) : Bool := decide (LK[p]? = some c)
theorem pv_lk_inv {LK : List (List Nat)} {p : Nat} {c : List Nat} (h : pv_lk LK p c = true) : c ∈ LK := List.mem_of_getElem? (of_decide_eq_true h)
/-- what holds of every method: its code's word, its class's -/
def pv_mf (M : pv_M) : Prop := Cond.code M.1 M.2.1 M.2.2.1 M.2.2.2.1 ∈ pv_T ∧ Cond.initialized M.1.cls ∈ pv_T
def pv_LKs (pr : List pv_M) (LK : List (List Nat)) : Prop := (∀ c ∈ LK, pv_sem pr c) ∧ ∀ (j : Nat) (M : pv_M), pr[j]? = some M → pv_mf M
def pv_jp (rows : List pv_R) (pc : Nat) (off : Int) (t : Nat) : Bool := decide ((pc : Int) + off = (pv_pc rows t : Int))
def pv_okx (LK : List (List Nat)) (rows : List pv_R) (o : Nat) (mn : String) (nL k pc len : Nat) (i : Instr) (xs ps : List Nat) : Bool := match i with
  | .iconst _ => pv_nx rows k pc len 1
  | .bipush _ => pv_nx rows k pc len 2
  | .sipush _ => pv_nx rows k pc len 3
  | .lconst _ => pv_nx rows k pc len 1
  | .ldc idx => match xs, ps with
    | [v], [p] => pv_nx rows k pc len 2 && pv_lk LK p [2, o, idx, v]
    | _, _ => false
  | .ldc_w idx => match xs, ps with
    | [v], [p] => pv_nx rows k pc len 3 && pv_lk LK p [2, o, idx, v]
    | _, _ => false
  | .ldc2_w idx => match xs, ps with
    | [v], [p] => pv_nx rows k pc len 3 && pv_lk LK p [3, o, idx, v]
    | _, _ => false
  | .iload _ => pv_nx rows k pc len 2
  | .lload _ => pv_nx rows k pc len 2
  | .aload _ => pv_nx rows k pc len 2
  | .iload_n _ => pv_nx rows k pc len 1
  | .lload_n _ => pv_nx rows k pc len 1
  | .aload_n _ => pv_nx rows k pc len 1
  | .istore i => pv_nx rows k pc len 2 && decide (i < nL)
  | .lstore i => pv_nx rows k pc len 2 && decide (i + 1 < nL)
  | .astore i => pv_nx rows k pc len 2 && decide (i < nL)
  | .istore_n i => pv_nx rows k pc len 1 && decide (i.val < nL)
  | .lstore_n i => pv_nx rows k pc len 1 && decide (i.val + 1 < nL)
  | .astore_n i => pv_nx rows k pc len 1 && decide (i.val < nL)
  | .iinc i _ => pv_nx rows k pc len 3 && decide (i < nL)
  | .iadd => pv_nx rows k pc len 1
  | .isub => pv_nx rows k pc len 1
  | .imul => pv_nx rows k pc len 1
  | .iand => pv_nx rows k pc len 1
  | .ior => pv_nx rows k pc len 1
  | .ixor => pv_nx rows k pc len 1
  | .ishl => pv_nx rows k pc len 1
  | .ishr => pv_nx rows k pc len 1
  | .iushr => pv_nx rows k pc len 1
  | .idiv => pv_nx rows k pc len 1
  | .irem => pv_nx rows k pc len 1
  | .ineg => pv_nx rows k pc len 1
  | .ladd => pv_nx rows k pc len 1
  | .lsub => pv_nx rows k pc len 1
  | .lmul => pv_nx rows k pc len 1
  | .land => pv_nx rows k pc len 1
  | .lor => pv_nx rows k pc len 1
  | .lxor => pv_nx rows k pc len 1
  | .ldiv => pv_nx rows k pc len 1
  | .lrem => pv_nx rows k pc len 1
  | .lshl => pv_nx rows k pc len 1
  | .lshr => pv_nx rows k pc len 1
  | .lushr => pv_nx rows k pc len 1
  | .lcmp => pv_nx rows k pc len 1
  | .i2l => pv_nx rows k pc len 1
  | .l2i => pv_nx rows k pc len 1
  | .i2b => pv_nx rows k pc len 1
  | .i2c => pv_nx rows k pc len 1
  | .dup => pv_nx rows k pc len 1
  | .pop => pv_nx rows k pc len 1
  | .dup2 => pv_nx rows k pc len 1
  | .goto off => match xs with
    | [t] => len == 3 && pv_jp rows pc off t
    | _ => false
  | .ifCond _ off => match xs with
    | [t] => pv_nx rows k pc len 3 && pv_jp rows pc off t
    | _ => false
  | .if_icmp _ off => match xs with
    | [t] => pv_nx rows k pc len 3 && pv_jp rows pc off t
    | _ => false
  | .tableswitch d lo hi offs => match xs with
    | t :: ts => pv_jp rows pc d t && decide (ts.length = offs.size) && (offs.toList.zip ts).all (fun q => pv_jp rows pc q.1 q.2)
    | _ => false
  | .getfield idx => match xs, ps with
    | [ci, j], [p] => pv_nx rows k pc len 3 && (match vwCl[ci]? with
      | some q => decide (j < q.2.2) && pv_lk LK p [0, o, idx, ci, j]
      | none => false)
    | _, _ => false
  | .putfield idx => match xs, ps with
    | [ci, j], [p] => pv_nx rows k pc len 3 && (match vwCl[ci]? with
      | some q => decide (j < q.2.2) && (if (q.2.1 j).2.2.2 then pv_lk LK p [1, o, idx, ci, j] && decide (mn = "<init>") else pv_lk LK p [0, o, idx, ci, j])
      | none => false)
    | _, _ => false
  | .iaload => pv_nx rows k pc len 1
  | .baload => pv_nx rows k pc len 1
  | .laload => pv_nx rows k pc len 1
  | .iastore => pv_nx rows k pc len 1
  | .bastore => pv_nx rows k pc len 1
  | .lastore => pv_nx rows k pc len 1
  | .arraylength => pv_nx rows k pc len 1
  | .newarray _ => pv_nx rows k pc len 2
  | .new idx => match xs, ps with
    | [ci], [p] => pv_nx rows k pc len 3 && (match vwCl[ci]? with
      | some _ => pv_lk LK p [4, o, idx, ci]
      | none => false)
    | _, _ => false
  | .invokespecial idx => match xs, ps with
    | [9], [p] => pv_nx rows k pc len 3 && pv_lk LK p [5, o, idx]
    | _, _ => false
  | .invokestatic idx => match xs, ps with
    | [z], [p] => pv_nx rows k pc len 3 && pv_lk LK p [6, o, idx, z]
    | _, _ => false
  | _ => false
theorem pv_nx_inv {rows : List pv_R} {k pc len L : Nat} (h : pv_nx rows k pc len L = true) : len = L ∧ pv_pc rows (k + 1) = pc + L := by
  simpa [pv_nx] using h
theorem pv_jp_inv {rows : List pv_R} {pc t : Nat} {off : Int} (h : pv_jp rows pc off t = true) : (pc : Int) + off = (pv_pc rows t : Int) := by
  simpa [pv_jp] using h
/-- the classes' fields: their words are among the tables', their types, their names apart -/
theorem pv_cl (ci : Nat) {q : vw_C} (h : vwCl[ci]? = some q) : (∀ w ∈ u_ws q.1 q.2.1 q.2.2, w ∈ pv_T) ∧ (∀ k, k < q.2.2 → parseFieldDescriptor (q.2.1 k).2.2.1 = some (pv_tyX ci k)) ∧ (∀ a, a < q.2.2 → ∀ b, b < q.2.2 → a ≠ b → (q.2.1 a).2.1 ≠ (q.2.1 b).2.1) := by
  have key : ∀ w ∈ u_ws q.1 q.2.1 q.2.2, goodWord w = true ∧ w ∈ lw_tbl → w ∈ pv_T := fun w _ hw => List.mem_filter.mpr ⟨hw.2, hw.1⟩
  match ci, h with
  | 0, h => cases h; exact ⟨fun w hw => key w hw (by revert w; decide +kernel), tyX0_ok, nmX0⟩
  | 1, h => cases h; exact ⟨fun w hw => key w hw (by revert w; decide +kernel), tyX1_ok, nmX1⟩
  | 2, h => cases h; exact ⟨fun w hw => key w hw (by revert w; decide +kernel), tyX2_ok, nmX2⟩
  | 3, h => cases h; exact ⟨fun w hw => key w hw (by revert w; decide +kernel), tyX3_ok, nmX3⟩
  | 4, h => cases h; exact ⟨fun w hw => key w hw (by revert w; decide +kernel), tyX4_ok, nmX4⟩
  | 5, h => cases h; exact ⟨fun w hw => key w hw (by revert w; decide +kernel), tyX5_ok, nmX5⟩
  | 6, h => cases h; exact ⟨fun w hw => key w hw (by revert w; decide +kernel), tyX6_ok, nmX6⟩
  | 7, h => cases h; exact ⟨fun w hw => key w hw (by revert w; decide +kernel), tyX7_ok, nmX7⟩
  | 8, h => cases h; exact ⟨fun w hw => key w hw (by revert w; decide +kernel), tyX8_ok, nmX8⟩
  | 9, h => cases h; exact ⟨fun w hw => key w hw (by revert w; decide +kernel), tyX9_ok, nmX9⟩
  | 10, h => cases h; exact ⟨fun w hw => key w hw (by revert w; decide +kernel), tyX10_ok, nmX10⟩
  | 11, h => cases h; exact ⟨fun w hw => key w hw (by revert w; decide +kernel), tyX11_ok, nmX11⟩
  | 12, h => cases h; exact ⟨fun w hw => key w hw (by revert w; decide +kernel), tyX12_ok, nmX12⟩
  | n + 13, h => simp [vwCl] at h
