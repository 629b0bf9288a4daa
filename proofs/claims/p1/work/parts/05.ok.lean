/-! WHAT A ROW MUST KEEP, as a program tells -/
def pv_nx (rows : List pv_R) (k pc len L : Nat) : Bool := len == L && pv_pc rows (k + 1) == pc + L
def pv_wd (p : Nat) (w : Cond) : Bool := decide (lw_tbl[p]? = some w) && goodWord w
def pv_jp (rows : List pv_R) (pc : Nat) (off : Int) (t : Nat) : Bool := decide ((pc : Int) + off = (pv_pc rows t : Int))
/-- a field's link: of its own class, or of a nest mate -/
def pv_fk (own : String) (idx p : Nat) (q : String × String × String × Bool) : Bool := match lw_tbl[p]? with
  | some (.fieldLink o i r n d) => decide (o = own ∧ i = idx ∧ r = q.1 ∧ n = q.2.1 ∧ d = q.2.2.1)
  | some (.fieldLinkNest o i r n d _) => decide (o = own ∧ i = idx ∧ r = q.1 ∧ n = q.2.1 ∧ d = q.2.2.1)
  | _ => false
def pv_fp (own : String) (idx p : Nat) (q : String × String × String × Bool) : Bool := match lw_tbl[p]? with
  | some (.fieldLink o i r n d) => decide (o = own ∧ i = idx ∧ r = q.1 ∧ n = q.2.1 ∧ d = q.2.2.1)
  | _ => false
def pv_okx (rows : List pv_R) (own mn : String) (nL k pc len : Nat) (i : Instr) (xs ps : List Nat) : Bool := match i with
  | .iconst _ => pv_nx rows k pc len 1
  | .bipush _ => pv_nx rows k pc len 2
  | .sipush _ => pv_nx rows k pc len 3
  | .lconst _ => pv_nx rows k pc len 1
  | .ldc idx => match xs, ps with
    | [v], [p] => pv_nx rows k pc len 2 && pv_wd p (.constant own idx (Int32.ofNat v))
    | _, _ => false
  | .ldc_w idx => match xs, ps with
    | [v], [p] => pv_nx rows k pc len 3 && pv_wd p (.constant own idx (Int32.ofNat v))
    | _, _ => false
  | .ldc2_w idx => match xs, ps with
    | [v], [p] => pv_nx rows k pc len 3 && pv_wd p (.constantLong own idx (Int64.ofNat v))
    | _, _ => false
  | .iload _ => pv_nx rows k pc len 2
  | .lload _ => pv_nx rows k pc len 2
  | .aload _ => pv_nx rows k pc len 2
  | .iload_n _ => pv_nx rows k pc len 1
  | .lload_n _ => pv_nx rows k pc len 1
  | .aload_n _ => pv_nx rows k pc len 1
  | .istore i => pv_nx rows k pc len 2 && decide (i < nL)
  | .lstore i => pv_nx rows k pc len 2 && decide (i + 1 < nL)
  | .astore i => pv_nx rows k pc len 2 && decide (i < nL)
  | .istore_n i => pv_nx rows k pc len 1 && decide (i.val < nL)
  | .lstore_n i => pv_nx rows k pc len 1 && decide (i.val + 1 < nL)
  | .astore_n i => pv_nx rows k pc len 1 && decide (i.val < nL)
  | .iinc i _ => pv_nx rows k pc len 3 && decide (i < nL)
  | .iadd => pv_nx rows k pc len 1
  | .isub => pv_nx rows k pc len 1
  | .imul => pv_nx rows k pc len 1
  | .iand => pv_nx rows k pc len 1
  | .ior => pv_nx rows k pc len 1
  | .ixor => pv_nx rows k pc len 1
  | .ishl => pv_nx rows k pc len 1
  | .ishr => pv_nx rows k pc len 1
  | .iushr => pv_nx rows k pc len 1
  | .idiv => pv_nx rows k pc len 1
  | .irem => pv_nx rows k pc len 1
  | .ineg => pv_nx rows k pc len 1
  | .ladd => pv_nx rows k pc len 1
  | .lsub => pv_nx rows k pc len 1
  | .lmul => pv_nx rows k pc len 1
  | .land => pv_nx rows k pc len 1
  | .lor => pv_nx rows k pc len 1
  | .lxor => pv_nx rows k pc len 1
  | .ldiv => pv_nx rows k pc len 1
  | .lrem => pv_nx rows k pc len 1
  | .lshl => pv_nx rows k pc len 1
  | .lshr => pv_nx rows k pc len 1
  | .lushr => pv_nx rows k pc len 1
  | .lcmp => pv_nx rows k pc len 1
  | .i2l => pv_nx rows k pc len 1
  | .l2i => pv_nx rows k pc len 1
  | .i2b => pv_nx rows k pc len 1
  | .i2c => pv_nx rows k pc len 1
  | .dup => pv_nx rows k pc len 1
  | .pop => pv_nx rows k pc len 1
  | .dup2 => pv_nx rows k pc len 1
  | .goto off => match xs with
    | [t] => len == 3 && pv_jp rows pc off t
    | _ => false
  | .ifCond _ off => match xs with
    | [t] => pv_nx rows k pc len 3 && pv_jp rows pc off t
    | _ => false
  | .if_icmp _ off => match xs with
    | [t] => pv_nx rows k pc len 3 && pv_jp rows pc off t
    | _ => false
  | .tableswitch d lo hi offs => match xs with
    | t :: ts => pv_jp rows pc d t && decide (ts.length = offs.size) && (offs.toList.zip ts).all (fun q => pv_jp rows pc q.1 q.2)
    | _ => false
  | .getfield idx => match xs, ps with
    | [ci, j], [p] => pv_nx rows k pc len 3 && (match vwCl[ci]? with
      | some q => decide (j < q.2.2) && pv_fk own idx p (q.2.1 j)
      | none => false)
    | _, _ => false
  | .putfield idx => match xs, ps with
    | [ci, j], [p] => pv_nx rows k pc len 3 && (match vwCl[ci]? with
      | some q => decide (j < q.2.2) && (if (q.2.1 j).2.2.2 then pv_fp own idx p (q.2.1 j) && decide (mn = "<init>" ∧ (q.2.1 j).1 = own) else pv_fk own idx p (q.2.1 j))
      | none => false)
    | _, _ => false
  | .iaload => pv_nx rows k pc len 1
  | .baload => pv_nx rows k pc len 1
  | .laload => pv_nx rows k pc len 1
  | .iastore => pv_nx rows k pc len 1
  | .bastore => pv_nx rows k pc len 1
  | .lastore => pv_nx rows k pc len 1
  | .arraylength => pv_nx rows k pc len 1
  | .newarray _ => pv_nx rows k pc len 2
  | .new idx => match xs, ps with
    | [ci], [p, p1, p2] => pv_nx rows k pc len 3 && (match vwCl[ci]? with
      | some q => pv_wd p (.classLink own idx q.1) && pv_wd p1 (.instantiable q.1 q.2.2) && pv_wd p2 (.initialized q.1)
      | none => false)
    | _, _ => false
  | .invokespecial idx => match xs, ps with
    | [9], [p, p1, p2] => pv_nx rows k pc len 3 && pv_wd p (.methodLink own idx Lib.objectInit) && pv_wd p1 (.instanceMethod Lib.objectInit) && pv_wd p2 (.code Lib.objectInit ⟨#[0xb1]⟩ 1 none)
    | _, _ => false
  | .invokestatic idx => match xs, ps with
    | [0], [p, p1, p2, p3] => pv_nx rows k pc len 3 && pv_wd p (.methodLink own idx Lib.Math.max.name) && pv_wd p1 (.static Lib.Math.max.name) && pv_wd p2 (.initialized "java/lang/Math") && pv_wd p3 (.code Lib.Math.max.name Lib.Math.max.code 2 (some .int))
    | [1], [p, p1, p2, p3] => pv_nx rows k pc len 3 && pv_wd p (.methodLink own idx Lib.Math.min.name) && pv_wd p1 (.static Lib.Math.min.name) && pv_wd p2 (.initialized "java/lang/Math") && pv_wd p3 (.code Lib.Math.min.name Lib.Math.min.code 2 (some .int))
    | [2], [p, p1, p2, p3] => pv_nx rows k pc len 3 && pv_wd p (.methodLink own idx Lib.Math.abs.name) && pv_wd p1 (.static Lib.Math.abs.name) && pv_wd p2 (.initialized "java/lang/Math") && pv_wd p3 (.code Lib.Math.abs.name Lib.Math.abs.code 1 (some .int))
    | [3], [p, p1, p2, p3] => pv_nx rows k pc len 3 && pv_wd p (.methodLink own idx arraycopyName) && pv_wd p1 (.static arraycopyName) && pv_wd p2 (.initialized "java/lang/System") && pv_wd p3 (.native arraycopyName)
    | _, _ => false
  | _ => false
theorem pv_nx_inv {rows : List pv_R} {k pc len L : Nat} (h : pv_nx rows k pc len L = true) : len = L ∧ pv_pc rows (k + 1) = pc + L := by
  simpa [pv_nx] using h
theorem pv_wd_inv {p : Nat} {w : Cond} (h : pv_wd p w = true) : w ∈ pv_T := by
  simp only [pv_wd, Bool.and_eq_true, decide_eq_true_eq] at h
  exact List.mem_filter.mpr ⟨List.mem_of_getElem? h.1, h.2⟩
theorem pv_jp_inv {rows : List pv_R} {pc t : Nat} {off : Int} (h : pv_jp rows pc off t = true) : (pc : Int) + off = (pv_pc rows t : Int) := by
  simpa [pv_jp] using h
theorem pv_fk_inv {own : String} {idx p : Nat} {q : String × String × String × Bool} (h : pv_fk own idx p q = true) : Cond.fieldLink own idx q.1 q.2.1 q.2.2.1 ∈ pv_T ∨ ∃ hst, Cond.fieldLinkNest own idx q.1 q.2.1 q.2.2.1 hst ∈ pv_N := by
  unfold pv_fk at h
  split at h
  · next o i r n d hw =>
    simp only [decide_eq_true_eq] at h
    obtain ⟨rfl, rfl, rfl, rfl, rfl⟩ := h
    exact Or.inl (List.mem_filter.mpr ⟨List.mem_of_getElem? hw, rfl⟩)
  · next o i r n d hst hw =>
    simp only [decide_eq_true_eq] at h
    obtain ⟨rfl, rfl, rfl, rfl, rfl⟩ := h
    exact Or.inr ⟨hst, List.mem_filter.mpr ⟨List.mem_of_getElem? hw, rfl⟩⟩
  · cases h
theorem pv_fp_inv {own : String} {idx p : Nat} {q : String × String × String × Bool} (h : pv_fp own idx p q = true) : Cond.fieldLink own idx q.1 q.2.1 q.2.2.1 ∈ pv_T := by
  unfold pv_fp at h
  split at h
  · next o i r n d hw =>
    simp only [decide_eq_true_eq] at h
    obtain ⟨rfl, rfl, rfl, rfl, rfl⟩ := h
    exact List.mem_filter.mpr ⟨List.mem_of_getElem? hw, rfl⟩
  · cases h
/-- the classes' fields: their words are among the tables', their types, their names apart -/
theorem pv_cl (ci : Nat) {q : vw_C} (h : vwCl[ci]? = some q) : (∀ w ∈ u_ws q.1 q.2.1 q.2.2, w ∈ pv_T) ∧ (∀ k, k < q.2.2 → parseFieldDescriptor (q.2.1 k).2.2.1 = some (pv_tyX ci k)) ∧ (∀ a, a < q.2.2 → ∀ b, b < q.2.2 → a ≠ b → (q.2.1 a).2.1 ≠ (q.2.1 b).2.1) := by
  have key : ∀ w ∈ u_ws q.1 q.2.1 q.2.2, goodWord w = true ∧ w ∈ lw_tbl → w ∈ pv_T := fun w _ hw => List.mem_filter.mpr ⟨hw.2, hw.1⟩
  match ci, h with
  | 0, h => cases h; exact ⟨fun w hw => key w hw (by revert w; decide +kernel), tyX0_ok, nmX0⟩
  | 1, h => cases h; exact ⟨fun w hw => key w hw (by revert w; decide +kernel), tyX1_ok, nmX1⟩
  | 2, h => cases h; exact ⟨fun w hw => key w hw (by revert w; decide +kernel), tyX2_ok, nmX2⟩
  | 3, h => cases h; exact ⟨fun w hw => key w hw (by revert w; decide +kernel), tyX3_ok, nmX3⟩
  | 4, h => cases h; exact ⟨fun w hw => key w hw (by revert w; decide +kernel), tyX4_ok, nmX4⟩
  | 5, h => cases h; exact ⟨fun w hw => key w hw (by revert w; decide +kernel), tyX5_ok, nmX5⟩
  | 6, h => cases h; exact ⟨fun w hw => key w hw (by revert w; decide +kernel), tyX6_ok, nmX6⟩
  | 7, h => cases h; exact ⟨fun w hw => key w hw (by revert w; decide +kernel), tyX7_ok, nmX7⟩
  | 8, h => cases h; exact ⟨fun w hw => key w hw (by revert w; decide +kernel), tyX8_ok, nmX8⟩
  | 9, h => cases h; exact ⟨fun w hw => key w hw (by revert w; decide +kernel), tyX9_ok, nmX9⟩
  | 10, h => cases h; exact ⟨fun w hw => key w hw (by revert w; decide +kernel), tyX10_ok, nmX10⟩
  | 11, h => cases h; exact ⟨fun w hw => key w hw (by revert w; decide +kernel), tyX11_ok, nmX11⟩
  | 12, h => cases h; exact ⟨fun w hw => key w hw (by revert w; decide +kernel), tyX12_ok, nmX12⟩
  | n + 13, h => simp [vwCl] at h
