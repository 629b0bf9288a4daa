/-! A METHOD'S ROWS AGAINST ITS BYTES, IN ONE PASS: an instruction is written as bytes -/
def dq_at (c : ByteArray) (pc b : Nat) : Prop := ∃ h : pc < c.size, c[pc].toNat = b
theorem dq_u1 {c : ByteArray} {pc b : Nat} (h : dq_at c pc b) : (Jvm.ClassFile.Reader.u1 : Jvm.ClassFile.Decoder Nat) c pc = .ok (b, pc + 1) := by
  obtain ⟨h1, h2⟩ := h
  show (if h : pc < c.size then (do set (pc + 1); pure c[pc].toNat : Jvm.ClassFile.Decoder Nat) else throw (Jvm.ClassFile.HasTruncated.truncated pc)) c pc = _
  rw [dif_pos h1, ← h2]
  rfl
theorem dq_b1 {α : Type} {c : ByteArray} {pc b : Nat} (h : dq_at c pc b) (K : Nat → Jvm.ClassFile.Decoder α) : ((Jvm.ClassFile.Reader.u1 : Jvm.ClassFile.Decoder Nat) >>= K) c pc = K b c (pc + 1) := by
  show Except.bind ((Jvm.ClassFile.Reader.u1 : Jvm.ClassFile.Decoder Nat) c pc) (fun z => K z.1 c z.2) = _
  rw [dq_u1 h]
  rfl
theorem dq_b2 {α : Type} {c : ByteArray} {pc x : Nat} (h : dq_at c pc (x / 256) ∧ dq_at c (pc + 1) (x % 256)) (K : Nat → Jvm.ClassFile.Decoder α) : ((Jvm.ClassFile.Reader.u2 : Jvm.ClassFile.Decoder Nat) >>= K) c pc = K x c (pc + 1 + 1) := by
  have e : (Jvm.ClassFile.Reader.u2 : Jvm.ClassFile.Decoder Nat) c pc = .ok (x, pc + 1 + 1) := by
    refine (dq_b1 h.1 _).trans ?_
    refine (dq_b1 h.2 _).trans ?_
    show Except.ok (x / 256 * 256 + x % 256, pc + 1 + 1) = _
    rw [show x / 256 * 256 + x % 256 = x by omega]
  show Except.bind ((Jvm.ClassFile.Reader.u2 : Jvm.ClassFile.Decoder Nat) c pc) (fun z => K z.1 c z.2) = _
  rw [e]
  rfl
theorem dq_g8 {x : Int} (h : -128 ≤ x ∧ x < 128) : Jvm.ClassFile.Reader.signed 8 (x % 256).toNat = x := by
  unfold Jvm.ClassFile.Reader.signed
  by_cases h0 : 0 ≤ x
  · rw [if_pos (show (x % 256).toNat < 128 by omega)]
    omega
  · rw [if_neg (show ¬ (x % 256).toNat < 128 by omega)]
    show ((x % 256).toNat : Int) - ((256 : Nat) : Int) = x
    omega
theorem dq_g16 {x : Int} (h : -32768 ≤ x ∧ x < 32768) : Jvm.ClassFile.Reader.signed 16 (x % 65536).toNat = x := by
  unfold Jvm.ClassFile.Reader.signed
  by_cases h0 : 0 ≤ x
  · rw [if_pos (show (x % 65536).toNat < 32768 by omega)]
    omega
  · rw [if_neg (show ¬ (x % 65536).toNat < 32768 by omega)]
    show ((x % 65536).toNat : Int) - ((65536 : Nat) : Int) = x
    omega
theorem dq_s1 {α : Type} {c : ByteArray} {pc : Nat} {x : Int} (hx : -128 ≤ x ∧ x < 128) (h : dq_at c pc (x % 256).toNat) (K : Int → Jvm.ClassFile.Decoder α) : ((Jvm.ClassFile.Reader.s1 : Jvm.ClassFile.Decoder Int) >>= K) c pc = K x c (pc + 1) := by
  show Except.bind (Except.bind ((Jvm.ClassFile.Reader.u1 : Jvm.ClassFile.Decoder Nat) c pc) (fun z => Except.ok (Jvm.ClassFile.Reader.signed 8 z.1, z.2))) (fun z => K z.1 c z.2) = _
  rw [dq_u1 h]
  show K (Jvm.ClassFile.Reader.signed 8 (x % 256).toNat) c (pc + 1) = _
  rw [dq_g8 hx]
theorem dq_s2 {α : Type} {c : ByteArray} {pc : Nat} {x : Int} (hx : -32768 ≤ x ∧ x < 32768) (h : dq_at c pc ((x % 65536).toNat / 256) ∧ dq_at c (pc + 1) ((x % 65536).toNat % 256)) (K : Int → Jvm.ClassFile.Decoder α) : ((Jvm.ClassFile.Reader.s2 : Jvm.ClassFile.Decoder Int) >>= K) c pc = K x c (pc + 1 + 1) := by
  have e : (Jvm.ClassFile.Reader.u2 : Jvm.ClassFile.Decoder Nat) c pc = .ok ((x % 65536).toNat, pc + 1 + 1) := (congrFun (congrFun (bind_pure (Jvm.ClassFile.Reader.u2 : Jvm.ClassFile.Decoder Nat)) c) pc).symm.trans ((dq_b2 h pure).trans rfl)
  show Except.bind (Except.bind ((Jvm.ClassFile.Reader.u2 : Jvm.ClassFile.Decoder Nat) c pc) (fun z => Except.ok (Jvm.ClassFile.Reader.signed 16 z.1, z.2))) (fun z => K z.1 c z.2) = _
  rw [e]
  show K (Jvm.ClassFile.Reader.signed 16 (x % 65536).toNat) c (pc + 1 + 1) = _
  rw [dq_g16 hx]
theorem dq_dec {c : ByteArray} {pc n L : Nat} {i : Instr} (h : (Jvm.ClassFile.Decoder.instr pc) c pc = .ok (i, n)) (hn : n - pc = L) : decode c pc = .ok (i, L) := by
  show Except.bind ((Jvm.ClassFile.Decoder.instr pc) c pc) (fun z => Except.ok (z.1, z.2 - pc)) = _
  rw [h, ← hn]
  rfl
def dq_cn : Jvm.ClassFile.Cond → Nat
  | .eq => 0
  | .ne => 1
  | .lt => 2
  | .ge => 3
  | .gt => 4
  | .le => 5
def dq_ty : Jvm.ClassFile.ArrayType → Nat
  | .boolean => 4
  | .char => 5
  | .float => 6
  | .double => 7
  | .byte => 8
  | .short => 9
  | .int => 10
  | .long => 11
def dq_w (op x : Nat) : List Nat := [op, x / 256, x % 256]
def dq_s (op : Nat) (x : Int) : List Nat := if -32768 ≤ x ∧ x < 32768 then [op, (x % 65536).toNat / 256, (x % 65536).toNat % 256] else []
def dq_t (op : Nat) (x : Int) : List Nat := if -128 ≤ x ∧ x < 128 then [op, (x % 256).toNat] else []
def dq_i (op a : Nat) (x : Int) : List Nat := if -128 ≤ x ∧ x < 128 then [op, a, (x % 256).toNat] else []
/-- an instruction's bytes; [] where it is none of these -/
def dq_enc : Instr → List Nat
  | .iaload => [46]
  | .laload => [47]
  | .baload => [51]
  | .iastore => [79]
  | .lastore => [80]
  | .bastore => [84]
  | .iadd => [96]
  | .ladd => [97]
  | .isub => [100]
  | .lsub => [101]
  | .imul => [104]
  | .lmul => [105]
  | .idiv => [108]
  | .ldiv => [109]
  | .irem => [112]
  | .lrem => [113]
  | .ineg => [116]
  | .ishl => [120]
  | .lshl => [121]
  | .ishr => [122]
  | .lshr => [123]
  | .iushr => [124]
  | .lushr => [125]
  | .iand => [126]
  | .land => [127]
  | .ior => [128]
  | .lor => [129]
  | .ixor => [130]
  | .lxor => [131]
  | .i2l => [133]
  | .l2i => [136]
  | .i2b => [145]
  | .i2c => [146]
  | .lcmp => [148]
  | .dup => [89]
  | .dup2 => [92]
  | .pop => [87]
  | .pop2 => [88]
  | .arraylength => [190]
  | .ireturn => [172]
  | .lreturn => [173]
  | .return_ => [177]
  | .ldc a => [18, a]
  | .iload a => [21, a]
  | .lload a => [22, a]
  | .aload a => [25, a]
  | .istore a => [54, a]
  | .lstore a => [55, a]
  | .astore a => [58, a]
  | .ldc_w a => dq_w 19 a
  | .ldc2_w a => dq_w 20 a
  | .getfield a => dq_w 180 a
  | .putfield a => dq_w 181 a
  | .invokevirtual a => dq_w 182 a
  | .invokespecial a => dq_w 183 a
  | .invokestatic a => dq_w 184 a
  | .new a => dq_w 187 a
  | .iload_n n => [26 + n.val]
  | .lload_n n => [30 + n.val]
  | .aload_n n => [42 + n.val]
  | .istore_n n => [59 + n.val]
  | .lstore_n n => [63 + n.val]
  | .astore_n n => [75 + n.val]
  | .iconst i => if -1 ≤ i ∧ i ≤ 5 then [(i + 3).toNat] else []
  | .lconst l => [9 + l.val]
  | .bipush x => dq_t 16 x
  | .sipush x => dq_s 17 x
  | .iinc a x => dq_i 132 a x
  | .goto x => dq_s 167 x
  | .ifCond cd x => dq_s (153 + dq_cn cd) x
  | .if_icmp cd x => dq_s (159 + dq_cn cd) x
  | .newarray ty => [188, dq_ty ty]
  | _ => []
section DQ
variable {c : ByteArray} {pc : Nat}
theorem dq_iaload (h : dq_at c pc 46) : decode c pc = .ok (.iaload, 1) := by
  refine dq_dec (n := pc + 1) ?_ (by omega)
  refine (dq_b1 h _).trans ?_
  rfl
theorem dq_laload (h : dq_at c pc 47) : decode c pc = .ok (.laload, 1) := by
  refine dq_dec (n := pc + 1) ?_ (by omega)
  refine (dq_b1 h _).trans ?_
  rfl
theorem dq_baload (h : dq_at c pc 51) : decode c pc = .ok (.baload, 1) := by
  refine dq_dec (n := pc + 1) ?_ (by omega)
  refine (dq_b1 h _).trans ?_
  rfl
theorem dq_iastore (h : dq_at c pc 79) : decode c pc = .ok (.iastore, 1) := by
  refine dq_dec (n := pc + 1) ?_ (by omega)
  refine (dq_b1 h _).trans ?_
  rfl
theorem dq_lastore (h : dq_at c pc 80) : decode c pc = .ok (.lastore, 1) := by
  refine dq_dec (n := pc + 1) ?_ (by omega)
  refine (dq_b1 h _).trans ?_
  rfl
theorem dq_bastore (h : dq_at c pc 84) : decode c pc = .ok (.bastore, 1) := by
  refine dq_dec (n := pc + 1) ?_ (by omega)
  refine (dq_b1 h _).trans ?_
  rfl
theorem dq_iadd (h : dq_at c pc 96) : decode c pc = .ok (.iadd, 1) := by
  refine dq_dec (n := pc + 1) ?_ (by omega)
  refine (dq_b1 h _).trans ?_
  rfl
theorem dq_ladd (h : dq_at c pc 97) : decode c pc = .ok (.ladd, 1) := by
  refine dq_dec (n := pc + 1) ?_ (by omega)
  refine (dq_b1 h _).trans ?_
  rfl
theorem dq_isub (h : dq_at c pc 100) : decode c pc = .ok (.isub, 1) := by
  refine dq_dec (n := pc + 1) ?_ (by omega)
  refine (dq_b1 h _).trans ?_
  rfl
theorem dq_lsub (h : dq_at c pc 101) : decode c pc = .ok (.lsub, 1) := by
  refine dq_dec (n := pc + 1) ?_ (by omega)
  refine (dq_b1 h _).trans ?_
  rfl
theorem dq_imul (h : dq_at c pc 104) : decode c pc = .ok (.imul, 1) := by
  refine dq_dec (n := pc + 1) ?_ (by omega)
  refine (dq_b1 h _).trans ?_
  rfl
theorem dq_lmul (h : dq_at c pc 105) : decode c pc = .ok (.lmul, 1) := by
  refine dq_dec (n := pc + 1) ?_ (by omega)
  refine (dq_b1 h _).trans ?_
  rfl
theorem dq_idiv (h : dq_at c pc 108) : decode c pc = .ok (.idiv, 1) := by
  refine dq_dec (n := pc + 1) ?_ (by omega)
  refine (dq_b1 h _).trans ?_
  rfl
theorem dq_ldiv (h : dq_at c pc 109) : decode c pc = .ok (.ldiv, 1) := by
  refine dq_dec (n := pc + 1) ?_ (by omega)
  refine (dq_b1 h _).trans ?_
  rfl
theorem dq_irem (h : dq_at c pc 112) : decode c pc = .ok (.irem, 1) := by
  refine dq_dec (n := pc + 1) ?_ (by omega)
  refine (dq_b1 h _).trans ?_
  rfl
theorem dq_lrem (h : dq_at c pc 113) : decode c pc = .ok (.lrem, 1) := by
  refine dq_dec (n := pc + 1) ?_ (by omega)
  refine (dq_b1 h _).trans ?_
  rfl
theorem dq_ineg (h : dq_at c pc 116) : decode c pc = .ok (.ineg, 1) := by
  refine dq_dec (n := pc + 1) ?_ (by omega)
  refine (dq_b1 h _).trans ?_
  rfl
theorem dq_ishl (h : dq_at c pc 120) : decode c pc = .ok (.ishl, 1) := by
  refine dq_dec (n := pc + 1) ?_ (by omega)
  refine (dq_b1 h _).trans ?_
  rfl
theorem dq_lshl (h : dq_at c pc 121) : decode c pc = .ok (.lshl, 1) := by
  refine dq_dec (n := pc + 1) ?_ (by omega)
  refine (dq_b1 h _).trans ?_
  rfl
theorem dq_ishr (h : dq_at c pc 122) : decode c pc = .ok (.ishr, 1) := by
  refine dq_dec (n := pc + 1) ?_ (by omega)
  refine (dq_b1 h _).trans ?_
  rfl
theorem dq_lshr (h : dq_at c pc 123) : decode c pc = .ok (.lshr, 1) := by
  refine dq_dec (n := pc + 1) ?_ (by omega)
  refine (dq_b1 h _).trans ?_
  rfl
theorem dq_iushr (h : dq_at c pc 124) : decode c pc = .ok (.iushr, 1) := by
  refine dq_dec (n := pc + 1) ?_ (by omega)
  refine (dq_b1 h _).trans ?_
  rfl
theorem dq_lushr (h : dq_at c pc 125) : decode c pc = .ok (.lushr, 1) := by
  refine dq_dec (n := pc + 1) ?_ (by omega)
  refine (dq_b1 h _).trans ?_
  rfl
theorem dq_iand (h : dq_at c pc 126) : decode c pc = .ok (.iand, 1) := by
  refine dq_dec (n := pc + 1) ?_ (by omega)
  refine (dq_b1 h _).trans ?_
  rfl
theorem dq_land (h : dq_at c pc 127) : decode c pc = .ok (.land, 1) := by
  refine dq_dec (n := pc + 1) ?_ (by omega)
  refine (dq_b1 h _).trans ?_
  rfl
theorem dq_ior (h : dq_at c pc 128) : decode c pc = .ok (.ior, 1) := by
  refine dq_dec (n := pc + 1) ?_ (by omega)
  refine (dq_b1 h _).trans ?_
  rfl
theorem dq_lor (h : dq_at c pc 129) : decode c pc = .ok (.lor, 1) := by
  refine dq_dec (n := pc + 1) ?_ (by omega)
  refine (dq_b1 h _).trans ?_
  rfl
theorem dq_ixor (h : dq_at c pc 130) : decode c pc = .ok (.ixor, 1) := by
  refine dq_dec (n := pc + 1) ?_ (by omega)
  refine (dq_b1 h _).trans ?_
  rfl
theorem dq_lxor (h : dq_at c pc 131) : decode c pc = .ok (.lxor, 1) := by
  refine dq_dec (n := pc + 1) ?_ (by omega)
  refine (dq_b1 h _).trans ?_
  rfl
theorem dq_i2l (h : dq_at c pc 133) : decode c pc = .ok (.i2l, 1) := by
  refine dq_dec (n := pc + 1) ?_ (by omega)
  refine (dq_b1 h _).trans ?_
  rfl
theorem dq_l2i (h : dq_at c pc 136) : decode c pc = .ok (.l2i, 1) := by
  refine dq_dec (n := pc + 1) ?_ (by omega)
  refine (dq_b1 h _).trans ?_
  rfl
theorem dq_i2b (h : dq_at c pc 145) : decode c pc = .ok (.i2b, 1) := by
  refine dq_dec (n := pc + 1) ?_ (by omega)
  refine (dq_b1 h _).trans ?_
  rfl
theorem dq_i2c (h : dq_at c pc 146) : decode c pc = .ok (.i2c, 1) := by
  refine dq_dec (n := pc + 1) ?_ (by omega)
  refine (dq_b1 h _).trans ?_
  rfl
theorem dq_lcmp (h : dq_at c pc 148) : decode c pc = .ok (.lcmp, 1) := by
  refine dq_dec (n := pc + 1) ?_ (by omega)
  refine (dq_b1 h _).trans ?_
  rfl
theorem dq_dup (h : dq_at c pc 89) : decode c pc = .ok (.dup, 1) := by
  refine dq_dec (n := pc + 1) ?_ (by omega)
  refine (dq_b1 h _).trans ?_
  rfl
theorem dq_dup2 (h : dq_at c pc 92) : decode c pc = .ok (.dup2, 1) := by
  refine dq_dec (n := pc + 1) ?_ (by omega)
  refine (dq_b1 h _).trans ?_
  rfl
theorem dq_pop (h : dq_at c pc 87) : decode c pc = .ok (.pop, 1) := by
  refine dq_dec (n := pc + 1) ?_ (by omega)
  refine (dq_b1 h _).trans ?_
  rfl
theorem dq_pop2 (h : dq_at c pc 88) : decode c pc = .ok (.pop2, 1) := by
  refine dq_dec (n := pc + 1) ?_ (by omega)
  refine (dq_b1 h _).trans ?_
  rfl
theorem dq_arraylength (h : dq_at c pc 190) : decode c pc = .ok (.arraylength, 1) := by
  refine dq_dec (n := pc + 1) ?_ (by omega)
  refine (dq_b1 h _).trans ?_
  rfl
theorem dq_ireturn (h : dq_at c pc 172) : decode c pc = .ok (.ireturn, 1) := by
  refine dq_dec (n := pc + 1) ?_ (by omega)
  refine (dq_b1 h _).trans ?_
  rfl
theorem dq_lreturn (h : dq_at c pc 173) : decode c pc = .ok (.lreturn, 1) := by
  refine dq_dec (n := pc + 1) ?_ (by omega)
  refine (dq_b1 h _).trans ?_
  rfl
theorem dq_return_ (h : dq_at c pc 177) : decode c pc = .ok (.return_, 1) := by
  refine dq_dec (n := pc + 1) ?_ (by omega)
  refine (dq_b1 h _).trans ?_
  rfl
theorem dq_ldc {a : Nat} (h : dq_at c pc 18) (h1 : dq_at c (pc + 1) a) : decode c pc = .ok (.ldc a, 2) := by
  refine dq_dec (n := pc + 1 + 1) ?_ (by omega)
  refine (dq_b1 h _).trans ?_
  refine (dq_b1 h1 _).trans ?_
  rfl
theorem dq_iload {a : Nat} (h : dq_at c pc 21) (h1 : dq_at c (pc + 1) a) : decode c pc = .ok (.iload a, 2) := by
  refine dq_dec (n := pc + 1 + 1) ?_ (by omega)
  refine (dq_b1 h _).trans ?_
  refine (dq_b1 h1 _).trans ?_
  rfl
theorem dq_lload {a : Nat} (h : dq_at c pc 22) (h1 : dq_at c (pc + 1) a) : decode c pc = .ok (.lload a, 2) := by
  refine dq_dec (n := pc + 1 + 1) ?_ (by omega)
  refine (dq_b1 h _).trans ?_
  refine (dq_b1 h1 _).trans ?_
  rfl
theorem dq_aload {a : Nat} (h : dq_at c pc 25) (h1 : dq_at c (pc + 1) a) : decode c pc = .ok (.aload a, 2) := by
  refine dq_dec (n := pc + 1 + 1) ?_ (by omega)
  refine (dq_b1 h _).trans ?_
  refine (dq_b1 h1 _).trans ?_
  rfl
theorem dq_istore {a : Nat} (h : dq_at c pc 54) (h1 : dq_at c (pc + 1) a) : decode c pc = .ok (.istore a, 2) := by
  refine dq_dec (n := pc + 1 + 1) ?_ (by omega)
  refine (dq_b1 h _).trans ?_
  refine (dq_b1 h1 _).trans ?_
  rfl
theorem dq_lstore {a : Nat} (h : dq_at c pc 55) (h1 : dq_at c (pc + 1) a) : decode c pc = .ok (.lstore a, 2) := by
  refine dq_dec (n := pc + 1 + 1) ?_ (by omega)
  refine (dq_b1 h _).trans ?_
  refine (dq_b1 h1 _).trans ?_
  rfl
theorem dq_astore {a : Nat} (h : dq_at c pc 58) (h1 : dq_at c (pc + 1) a) : decode c pc = .ok (.astore a, 2) := by
  refine dq_dec (n := pc + 1 + 1) ?_ (by omega)
  refine (dq_b1 h _).trans ?_
  refine (dq_b1 h1 _).trans ?_
  rfl
theorem dq_ldc_w {a : Nat} (h : dq_at c pc 19) (h1 : dq_at c (pc + 1) (a / 256) ∧ dq_at c (pc + 1 + 1) (a % 256)) : decode c pc = .ok (.ldc_w a, 3) := by
  refine dq_dec (n := pc + 1 + 1 + 1) ?_ (by omega)
  refine (dq_b1 h _).trans ?_
  refine (dq_b2 h1 _).trans ?_
  rfl
theorem dq_ldc2_w {a : Nat} (h : dq_at c pc 20) (h1 : dq_at c (pc + 1) (a / 256) ∧ dq_at c (pc + 1 + 1) (a % 256)) : decode c pc = .ok (.ldc2_w a, 3) := by
  refine dq_dec (n := pc + 1 + 1 + 1) ?_ (by omega)
  refine (dq_b1 h _).trans ?_
  refine (dq_b2 h1 _).trans ?_
  rfl
theorem dq_getfield {a : Nat} (h : dq_at c pc 180) (h1 : dq_at c (pc + 1) (a / 256) ∧ dq_at c (pc + 1 + 1) (a % 256)) : decode c pc = .ok (.getfield a, 3) := by
  refine dq_dec (n := pc + 1 + 1 + 1) ?_ (by omega)
  refine (dq_b1 h _).trans ?_
  refine (dq_b2 h1 _).trans ?_
  rfl
theorem dq_putfield {a : Nat} (h : dq_at c pc 181) (h1 : dq_at c (pc + 1) (a / 256) ∧ dq_at c (pc + 1 + 1) (a % 256)) : decode c pc = .ok (.putfield a, 3) := by
  refine dq_dec (n := pc + 1 + 1 + 1) ?_ (by omega)
  refine (dq_b1 h _).trans ?_
  refine (dq_b2 h1 _).trans ?_
  rfl
theorem dq_invokevirtual {a : Nat} (h : dq_at c pc 182) (h1 : dq_at c (pc + 1) (a / 256) ∧ dq_at c (pc + 1 + 1) (a % 256)) : decode c pc = .ok (.invokevirtual a, 3) := by
  refine dq_dec (n := pc + 1 + 1 + 1) ?_ (by omega)
  refine (dq_b1 h _).trans ?_
  refine (dq_b2 h1 _).trans ?_
  rfl
theorem dq_invokespecial {a : Nat} (h : dq_at c pc 183) (h1 : dq_at c (pc + 1) (a / 256) ∧ dq_at c (pc + 1 + 1) (a % 256)) : decode c pc = .ok (.invokespecial a, 3) := by
  refine dq_dec (n := pc + 1 + 1 + 1) ?_ (by omega)
  refine (dq_b1 h _).trans ?_
  refine (dq_b2 h1 _).trans ?_
  rfl
theorem dq_invokestatic {a : Nat} (h : dq_at c pc 184) (h1 : dq_at c (pc + 1) (a / 256) ∧ dq_at c (pc + 1 + 1) (a % 256)) : decode c pc = .ok (.invokestatic a, 3) := by
  refine dq_dec (n := pc + 1 + 1 + 1) ?_ (by omega)
  refine (dq_b1 h _).trans ?_
  refine (dq_b2 h1 _).trans ?_
  rfl
theorem dq_new {a : Nat} (h : dq_at c pc 187) (h1 : dq_at c (pc + 1) (a / 256) ∧ dq_at c (pc + 1 + 1) (a % 256)) : decode c pc = .ok (.new a, 3) := by
  refine dq_dec (n := pc + 1 + 1 + 1) ?_ (by omega)
  refine (dq_b1 h _).trans ?_
  refine (dq_b2 h1 _).trans ?_
  rfl
theorem dq_iload_n0 (h : dq_at c pc 26) : decode c pc = .ok (.iload_n 0, 1) := by
  refine dq_dec (n := pc + 1) ?_ (by omega)
  refine (dq_b1 h _).trans ?_
  rfl
theorem dq_iload_n1 (h : dq_at c pc 27) : decode c pc = .ok (.iload_n 1, 1) := by
  refine dq_dec (n := pc + 1) ?_ (by omega)
  refine (dq_b1 h _).trans ?_
  rfl
theorem dq_iload_n2 (h : dq_at c pc 28) : decode c pc = .ok (.iload_n 2, 1) := by
  refine dq_dec (n := pc + 1) ?_ (by omega)
  refine (dq_b1 h _).trans ?_
  rfl
theorem dq_iload_n3 (h : dq_at c pc 29) : decode c pc = .ok (.iload_n 3, 1) := by
  refine dq_dec (n := pc + 1) ?_ (by omega)
  refine (dq_b1 h _).trans ?_
  rfl
theorem dq_lload_n0 (h : dq_at c pc 30) : decode c pc = .ok (.lload_n 0, 1) := by
  refine dq_dec (n := pc + 1) ?_ (by omega)
  refine (dq_b1 h _).trans ?_
  rfl
theorem dq_lload_n1 (h : dq_at c pc 31) : decode c pc = .ok (.lload_n 1, 1) := by
  refine dq_dec (n := pc + 1) ?_ (by omega)
  refine (dq_b1 h _).trans ?_
  rfl
theorem dq_lload_n2 (h : dq_at c pc 32) : decode c pc = .ok (.lload_n 2, 1) := by
  refine dq_dec (n := pc + 1) ?_ (by omega)
  refine (dq_b1 h _).trans ?_
  rfl
theorem dq_lload_n3 (h : dq_at c pc 33) : decode c pc = .ok (.lload_n 3, 1) := by
  refine dq_dec (n := pc + 1) ?_ (by omega)
  refine (dq_b1 h _).trans ?_
  rfl
theorem dq_aload_n0 (h : dq_at c pc 42) : decode c pc = .ok (.aload_n 0, 1) := by
  refine dq_dec (n := pc + 1) ?_ (by omega)
  refine (dq_b1 h _).trans ?_
  rfl
theorem dq_aload_n1 (h : dq_at c pc 43) : decode c pc = .ok (.aload_n 1, 1) := by
  refine dq_dec (n := pc + 1) ?_ (by omega)
  refine (dq_b1 h _).trans ?_
  rfl
theorem dq_aload_n2 (h : dq_at c pc 44) : decode c pc = .ok (.aload_n 2, 1) := by
  refine dq_dec (n := pc + 1) ?_ (by omega)
  refine (dq_b1 h _).trans ?_
  rfl
theorem dq_aload_n3 (h : dq_at c pc 45) : decode c pc = .ok (.aload_n 3, 1) := by
  refine dq_dec (n := pc + 1) ?_ (by omega)
  refine (dq_b1 h _).trans ?_
  rfl
theorem dq_istore_n0 (h : dq_at c pc 59) : decode c pc = .ok (.istore_n 0, 1) := by
  refine dq_dec (n := pc + 1) ?_ (by omega)
  refine (dq_b1 h _).trans ?_
  rfl
theorem dq_istore_n1 (h : dq_at c pc 60) : decode c pc = .ok (.istore_n 1, 1) := by
  refine dq_dec (n := pc + 1) ?_ (by omega)
  refine (dq_b1 h _).trans ?_
  rfl
theorem dq_istore_n2 (h : dq_at c pc 61) : decode c pc = .ok (.istore_n 2, 1) := by
  refine dq_dec (n := pc + 1) ?_ (by omega)
  refine (dq_b1 h _).trans ?_
  rfl
theorem dq_istore_n3 (h : dq_at c pc 62) : decode c pc = .ok (.istore_n 3, 1) := by
  refine dq_dec (n := pc + 1) ?_ (by omega)
  refine (dq_b1 h _).trans ?_
  rfl
theorem dq_lstore_n0 (h : dq_at c pc 63) : decode c pc = .ok (.lstore_n 0, 1) := by
  refine dq_dec (n := pc + 1) ?_ (by omega)
  refine (dq_b1 h _).trans ?_
  rfl
theorem dq_lstore_n1 (h : dq_at c pc 64) : decode c pc = .ok (.lstore_n 1, 1) := by
  refine dq_dec (n := pc + 1) ?_ (by omega)
  refine (dq_b1 h _).trans ?_
  rfl
theorem dq_lstore_n2 (h : dq_at c pc 65) : decode c pc = .ok (.lstore_n 2, 1) := by
  refine dq_dec (n := pc + 1) ?_ (by omega)
  refine (dq_b1 h _).trans ?_
  rfl
theorem dq_lstore_n3 (h : dq_at c pc 66) : decode c pc = .ok (.lstore_n 3, 1) := by
  refine dq_dec (n := pc + 1) ?_ (by omega)
  refine (dq_b1 h _).trans ?_
  rfl
theorem dq_astore_n0 (h : dq_at c pc 75) : decode c pc = .ok (.astore_n 0, 1) := by
  refine dq_dec (n := pc + 1) ?_ (by omega)
  refine (dq_b1 h _).trans ?_
  rfl
theorem dq_astore_n1 (h : dq_at c pc 76) : decode c pc = .ok (.astore_n 1, 1) := by
  refine dq_dec (n := pc + 1) ?_ (by omega)
  refine (dq_b1 h _).trans ?_
  rfl
theorem dq_astore_n2 (h : dq_at c pc 77) : decode c pc = .ok (.astore_n 2, 1) := by
  refine dq_dec (n := pc + 1) ?_ (by omega)
  refine (dq_b1 h _).trans ?_
  rfl
theorem dq_astore_n3 (h : dq_at c pc 78) : decode c pc = .ok (.astore_n 3, 1) := by
  refine dq_dec (n := pc + 1) ?_ (by omega)
  refine (dq_b1 h _).trans ?_
  rfl
theorem dq_lconst0 (h : dq_at c pc 9) : decode c pc = .ok (.lconst 0, 1) := by
  refine dq_dec (n := pc + 1) ?_ (by omega)
  refine (dq_b1 h _).trans ?_
  rfl
theorem dq_lconst1 (h : dq_at c pc 10) : decode c pc = .ok (.lconst 1, 1) := by
  refine dq_dec (n := pc + 1) ?_ (by omega)
  refine (dq_b1 h _).trans ?_
  rfl
theorem dq_iconst0 (h : dq_at c pc 2) : decode c pc = .ok (.iconst (-1), 1) := by
  refine dq_dec (n := pc + 1) ?_ (by omega)
  refine (dq_b1 h _).trans ?_
  rfl
theorem dq_iconst1 (h : dq_at c pc 3) : decode c pc = .ok (.iconst (0), 1) := by
  refine dq_dec (n := pc + 1) ?_ (by omega)
  refine (dq_b1 h _).trans ?_
  rfl
theorem dq_iconst2 (h : dq_at c pc 4) : decode c pc = .ok (.iconst (1), 1) := by
  refine dq_dec (n := pc + 1) ?_ (by omega)
  refine (dq_b1 h _).trans ?_
  rfl
theorem dq_iconst3 (h : dq_at c pc 5) : decode c pc = .ok (.iconst (2), 1) := by
  refine dq_dec (n := pc + 1) ?_ (by omega)
  refine (dq_b1 h _).trans ?_
  rfl
theorem dq_iconst4 (h : dq_at c pc 6) : decode c pc = .ok (.iconst (3), 1) := by
  refine dq_dec (n := pc + 1) ?_ (by omega)
  refine (dq_b1 h _).trans ?_
  rfl
theorem dq_iconst5 (h : dq_at c pc 7) : decode c pc = .ok (.iconst (4), 1) := by
  refine dq_dec (n := pc + 1) ?_ (by omega)
  refine (dq_b1 h _).trans ?_
  rfl
theorem dq_iconst6 (h : dq_at c pc 8) : decode c pc = .ok (.iconst (5), 1) := by
  refine dq_dec (n := pc + 1) ?_ (by omega)
  refine (dq_b1 h _).trans ?_
  rfl
theorem dq_sipush {x : Int} (hx : -32768 ≤ x ∧ x < 32768) (h : dq_at c pc 17) (h1 : dq_at c (pc + 1) ((x % 65536).toNat / 256) ∧ dq_at c (pc + 1 + 1) ((x % 65536).toNat % 256)) : decode c pc = .ok (.sipush x, 3) := by
  refine dq_dec (n := pc + 1 + 1 + 1) ?_ (by omega)
  refine (dq_b1 h _).trans ?_
  refine (dq_s2 hx h1 _).trans ?_
  rfl
theorem dq_goto {x : Int} (hx : -32768 ≤ x ∧ x < 32768) (h : dq_at c pc 167) (h1 : dq_at c (pc + 1) ((x % 65536).toNat / 256) ∧ dq_at c (pc + 1 + 1) ((x % 65536).toNat % 256)) : decode c pc = .ok (.goto x, 3) := by
  refine dq_dec (n := pc + 1 + 1 + 1) ?_ (by omega)
  refine (dq_b1 h _).trans ?_
  refine (dq_s2 hx h1 _).trans ?_
  rfl
theorem dq_ifCond_eq {x : Int} (hx : -32768 ≤ x ∧ x < 32768) (h : dq_at c pc 153) (h1 : dq_at c (pc + 1) ((x % 65536).toNat / 256) ∧ dq_at c (pc + 1 + 1) ((x % 65536).toNat % 256)) : decode c pc = .ok (.ifCond .eq x, 3) := by
  refine dq_dec (n := pc + 1 + 1 + 1) ?_ (by omega)
  refine (dq_b1 h _).trans ?_
  refine (dq_s2 hx h1 _).trans ?_
  rfl
theorem dq_if_icmp_eq {x : Int} (hx : -32768 ≤ x ∧ x < 32768) (h : dq_at c pc 159) (h1 : dq_at c (pc + 1) ((x % 65536).toNat / 256) ∧ dq_at c (pc + 1 + 1) ((x % 65536).toNat % 256)) : decode c pc = .ok (.if_icmp .eq x, 3) := by
  refine dq_dec (n := pc + 1 + 1 + 1) ?_ (by omega)
  refine (dq_b1 h _).trans ?_
  refine (dq_s2 hx h1 _).trans ?_
  rfl
theorem dq_ifCond_ne {x : Int} (hx : -32768 ≤ x ∧ x < 32768) (h : dq_at c pc 154) (h1 : dq_at c (pc + 1) ((x % 65536).toNat / 256) ∧ dq_at c (pc + 1 + 1) ((x % 65536).toNat % 256)) : decode c pc = .ok (.ifCond .ne x, 3) := by
  refine dq_dec (n := pc + 1 + 1 + 1) ?_ (by omega)
  refine (dq_b1 h _).trans ?_
  refine (dq_s2 hx h1 _).trans ?_
  rfl
theorem dq_if_icmp_ne {x : Int} (hx : -32768 ≤ x ∧ x < 32768) (h : dq_at c pc 160) (h1 : dq_at c (pc + 1) ((x % 65536).toNat / 256) ∧ dq_at c (pc + 1 + 1) ((x % 65536).toNat % 256)) : decode c pc = .ok (.if_icmp .ne x, 3) := by
  refine dq_dec (n := pc + 1 + 1 + 1) ?_ (by omega)
  refine (dq_b1 h _).trans ?_
  refine (dq_s2 hx h1 _).trans ?_
  rfl
theorem dq_ifCond_lt {x : Int} (hx : -32768 ≤ x ∧ x < 32768) (h : dq_at c pc 155) (h1 : dq_at c (pc + 1) ((x % 65536).toNat / 256) ∧ dq_at c (pc + 1 + 1) ((x % 65536).toNat % 256)) : decode c pc = .ok (.ifCond .lt x, 3) := by
  refine dq_dec (n := pc + 1 + 1 + 1) ?_ (by omega)
  refine (dq_b1 h _).trans ?_
  refine (dq_s2 hx h1 _).trans ?_
  rfl
theorem dq_if_icmp_lt {x : Int} (hx : -32768 ≤ x ∧ x < 32768) (h : dq_at c pc 161) (h1 : dq_at c (pc + 1) ((x % 65536).toNat / 256) ∧ dq_at c (pc + 1 + 1) ((x % 65536).toNat % 256)) : decode c pc = .ok (.if_icmp .lt x, 3) := by
  refine dq_dec (n := pc + 1 + 1 + 1) ?_ (by omega)
  refine (dq_b1 h _).trans ?_
  refine (dq_s2 hx h1 _).trans ?_
  rfl
theorem dq_ifCond_ge {x : Int} (hx : -32768 ≤ x ∧ x < 32768) (h : dq_at c pc 156) (h1 : dq_at c (pc + 1) ((x % 65536).toNat / 256) ∧ dq_at c (pc + 1 + 1) ((x % 65536).toNat % 256)) : decode c pc = .ok (.ifCond .ge x, 3) := by
  refine dq_dec (n := pc + 1 + 1 + 1) ?_ (by omega)
  refine (dq_b1 h _).trans ?_
  refine (dq_s2 hx h1 _).trans ?_
  rfl
theorem dq_if_icmp_ge {x : Int} (hx : -32768 ≤ x ∧ x < 32768) (h : dq_at c pc 162) (h1 : dq_at c (pc + 1) ((x % 65536).toNat / 256) ∧ dq_at c (pc + 1 + 1) ((x % 65536).toNat % 256)) : decode c pc = .ok (.if_icmp .ge x, 3) := by
  refine dq_dec (n := pc + 1 + 1 + 1) ?_ (by omega)
  refine (dq_b1 h _).trans ?_
  refine (dq_s2 hx h1 _).trans ?_
  rfl
theorem dq_ifCond_gt {x : Int} (hx : -32768 ≤ x ∧ x < 32768) (h : dq_at c pc 157) (h1 : dq_at c (pc + 1) ((x % 65536).toNat / 256) ∧ dq_at c (pc + 1 + 1) ((x % 65536).toNat % 256)) : decode c pc = .ok (.ifCond .gt x, 3) := by
  refine dq_dec (n := pc + 1 + 1 + 1) ?_ (by omega)
  refine (dq_b1 h _).trans ?_
  refine (dq_s2 hx h1 _).trans ?_
  rfl
theorem dq_if_icmp_gt {x : Int} (hx : -32768 ≤ x ∧ x < 32768) (h : dq_at c pc 163) (h1 : dq_at c (pc + 1) ((x % 65536).toNat / 256) ∧ dq_at c (pc + 1 + 1) ((x % 65536).toNat % 256)) : decode c pc = .ok (.if_icmp .gt x, 3) := by
  refine dq_dec (n := pc + 1 + 1 + 1) ?_ (by omega)
  refine (dq_b1 h _).trans ?_
  refine (dq_s2 hx h1 _).trans ?_
  rfl
theorem dq_ifCond_le {x : Int} (hx : -32768 ≤ x ∧ x < 32768) (h : dq_at c pc 158) (h1 : dq_at c (pc + 1) ((x % 65536).toNat / 256) ∧ dq_at c (pc + 1 + 1) ((x % 65536).toNat % 256)) : decode c pc = .ok (.ifCond .le x, 3) := by
  refine dq_dec (n := pc + 1 + 1 + 1) ?_ (by omega)
  refine (dq_b1 h _).trans ?_
  refine (dq_s2 hx h1 _).trans ?_
  rfl
theorem dq_if_icmp_le {x : Int} (hx : -32768 ≤ x ∧ x < 32768) (h : dq_at c pc 164) (h1 : dq_at c (pc + 1) ((x % 65536).toNat / 256) ∧ dq_at c (pc + 1 + 1) ((x % 65536).toNat % 256)) : decode c pc = .ok (.if_icmp .le x, 3) := by
  refine dq_dec (n := pc + 1 + 1 + 1) ?_ (by omega)
  refine (dq_b1 h _).trans ?_
  refine (dq_s2 hx h1 _).trans ?_
  rfl
theorem dq_bipush {x : Int} (hx : -128 ≤ x ∧ x < 128) (h : dq_at c pc 16) (h1 : dq_at c (pc + 1) (x % 256).toNat) : decode c pc = .ok (.bipush x, 2) := by
  refine dq_dec (n := pc + 1 + 1) ?_ (by omega)
  refine (dq_b1 h _).trans ?_
  refine (dq_s1 hx h1 _).trans ?_
  rfl
theorem dq_iinc {a : Nat} {x : Int} (hx : -128 ≤ x ∧ x < 128) (h : dq_at c pc 132) (h0 : dq_at c (pc + 1) a) (h1 : dq_at c (pc + 1 + 1) (x % 256).toNat) : decode c pc = .ok (.iinc a x, 3) := by
  refine dq_dec (n := pc + 1 + 1 + 1) ?_ (by omega)
  refine (dq_b1 h _).trans ?_
  refine (dq_b1 h0 _).trans ?_
  refine (dq_s1 hx h1 _).trans ?_
  rfl
theorem dq_newarray_boolean (h : dq_at c pc 188) (h1 : dq_at c (pc + 1) 4) : decode c pc = .ok (.newarray .boolean, 2) := by
  refine dq_dec (n := pc + 1 + 1) ?_ (by omega)
  refine (dq_b1 h _).trans ?_
  refine (dq_b1 h1 _).trans ?_
  rfl
theorem dq_newarray_char (h : dq_at c pc 188) (h1 : dq_at c (pc + 1) 5) : decode c pc = .ok (.newarray .char, 2) := by
  refine dq_dec (n := pc + 1 + 1) ?_ (by omega)
  refine (dq_b1 h _).trans ?_
  refine (dq_b1 h1 _).trans ?_
  rfl
theorem dq_newarray_float (h : dq_at c pc 188) (h1 : dq_at c (pc + 1) 6) : decode c pc = .ok (.newarray .float, 2) := by
  refine dq_dec (n := pc + 1 + 1) ?_ (by omega)
  refine (dq_b1 h _).trans ?_
  refine (dq_b1 h1 _).trans ?_
  rfl
theorem dq_newarray_double (h : dq_at c pc 188) (h1 : dq_at c (pc + 1) 7) : decode c pc = .ok (.newarray .double, 2) := by
  refine dq_dec (n := pc + 1 + 1) ?_ (by omega)
  refine (dq_b1 h _).trans ?_
  refine (dq_b1 h1 _).trans ?_
  rfl
theorem dq_newarray_byte (h : dq_at c pc 188) (h1 : dq_at c (pc + 1) 8) : decode c pc = .ok (.newarray .byte, 2) := by
  refine dq_dec (n := pc + 1 + 1) ?_ (by omega)
  refine (dq_b1 h _).trans ?_
  refine (dq_b1 h1 _).trans ?_
  rfl
theorem dq_newarray_short (h : dq_at c pc 188) (h1 : dq_at c (pc + 1) 9) : decode c pc = .ok (.newarray .short, 2) := by
  refine dq_dec (n := pc + 1 + 1) ?_ (by omega)
  refine (dq_b1 h _).trans ?_
  refine (dq_b1 h1 _).trans ?_
  rfl
theorem dq_newarray_int (h : dq_at c pc 188) (h1 : dq_at c (pc + 1) 10) : decode c pc = .ok (.newarray .int, 2) := by
  refine dq_dec (n := pc + 1 + 1) ?_ (by omega)
  refine (dq_b1 h _).trans ?_
  refine (dq_b1 h1 _).trans ?_
  rfl
theorem dq_newarray_long (h : dq_at c pc 188) (h1 : dq_at c (pc + 1) 11) : decode c pc = .ok (.newarray .long, 2) := by
  refine dq_dec (n := pc + 1 + 1) ?_ (by omega)
  refine (dq_b1 h _).trans ?_
  refine (dq_b1 h1 _).trans ?_
  rfl
end DQ
theorem dq_enc_ok {c : ByteArray} {pc : Nat} {i : Instr} (H : ∀ k b, (dq_enc i)[k]? = some b → dq_at c (pc + k) b) (hne : dq_enc i ≠ []) : decode c pc = .ok (i, (dq_enc i).length) := by
  cases i with
  | iaload => exact dq_iaload (H 0 _ rfl)
  | laload => exact dq_laload (H 0 _ rfl)
  | baload => exact dq_baload (H 0 _ rfl)
  | iastore => exact dq_iastore (H 0 _ rfl)
  | lastore => exact dq_lastore (H 0 _ rfl)
  | bastore => exact dq_bastore (H 0 _ rfl)
  | iadd => exact dq_iadd (H 0 _ rfl)
  | ladd => exact dq_ladd (H 0 _ rfl)
  | isub => exact dq_isub (H 0 _ rfl)
  | lsub => exact dq_lsub (H 0 _ rfl)
  | imul => exact dq_imul (H 0 _ rfl)
  | lmul => exact dq_lmul (H 0 _ rfl)
  | idiv => exact dq_idiv (H 0 _ rfl)
  | ldiv => exact dq_ldiv (H 0 _ rfl)
  | irem => exact dq_irem (H 0 _ rfl)
  | lrem => exact dq_lrem (H 0 _ rfl)
  | ineg => exact dq_ineg (H 0 _ rfl)
  | ishl => exact dq_ishl (H 0 _ rfl)
  | lshl => exact dq_lshl (H 0 _ rfl)
  | ishr => exact dq_ishr (H 0 _ rfl)
  | lshr => exact dq_lshr (H 0 _ rfl)
  | iushr => exact dq_iushr (H 0 _ rfl)
  | lushr => exact dq_lushr (H 0 _ rfl)
  | iand => exact dq_iand (H 0 _ rfl)
  | land => exact dq_land (H 0 _ rfl)
  | ior => exact dq_ior (H 0 _ rfl)
  | lor => exact dq_lor (H 0 _ rfl)
  | ixor => exact dq_ixor (H 0 _ rfl)
  | lxor => exact dq_lxor (H 0 _ rfl)
  | i2l => exact dq_i2l (H 0 _ rfl)
  | l2i => exact dq_l2i (H 0 _ rfl)
  | i2b => exact dq_i2b (H 0 _ rfl)
  | i2c => exact dq_i2c (H 0 _ rfl)
  | lcmp => exact dq_lcmp (H 0 _ rfl)
  | dup => exact dq_dup (H 0 _ rfl)
  | dup2 => exact dq_dup2 (H 0 _ rfl)
  | pop => exact dq_pop (H 0 _ rfl)
  | pop2 => exact dq_pop2 (H 0 _ rfl)
  | arraylength => exact dq_arraylength (H 0 _ rfl)
  | ireturn => exact dq_ireturn (H 0 _ rfl)
  | lreturn => exact dq_lreturn (H 0 _ rfl)
  | return_ => exact dq_return_ (H 0 _ rfl)
  | ldc a => exact dq_ldc (H 0 _ rfl) (H 1 _ rfl)
  | iload a => exact dq_iload (H 0 _ rfl) (H 1 _ rfl)
  | lload a => exact dq_lload (H 0 _ rfl) (H 1 _ rfl)
  | aload a => exact dq_aload (H 0 _ rfl) (H 1 _ rfl)
  | istore a => exact dq_istore (H 0 _ rfl) (H 1 _ rfl)
  | lstore a => exact dq_lstore (H 0 _ rfl) (H 1 _ rfl)
  | astore a => exact dq_astore (H 0 _ rfl) (H 1 _ rfl)
  | ldc_w a => exact dq_ldc_w (H 0 _ rfl) ⟨H 1 _ rfl, H 2 _ rfl⟩
  | ldc2_w a => exact dq_ldc2_w (H 0 _ rfl) ⟨H 1 _ rfl, H 2 _ rfl⟩
  | getfield a => exact dq_getfield (H 0 _ rfl) ⟨H 1 _ rfl, H 2 _ rfl⟩
  | putfield a => exact dq_putfield (H 0 _ rfl) ⟨H 1 _ rfl, H 2 _ rfl⟩
  | invokevirtual a => exact dq_invokevirtual (H 0 _ rfl) ⟨H 1 _ rfl, H 2 _ rfl⟩
  | invokespecial a => exact dq_invokespecial (H 0 _ rfl) ⟨H 1 _ rfl, H 2 _ rfl⟩
  | invokestatic a => exact dq_invokestatic (H 0 _ rfl) ⟨H 1 _ rfl, H 2 _ rfl⟩
  | new a => exact dq_new (H 0 _ rfl) ⟨H 1 _ rfl, H 2 _ rfl⟩
  | iload_n n =>
    match n, H with
    | ⟨0, _⟩, H => exact dq_iload_n0 (H 0 _ rfl)
    | ⟨1, _⟩, H => exact dq_iload_n1 (H 0 _ rfl)
    | ⟨2, _⟩, H => exact dq_iload_n2 (H 0 _ rfl)
    | ⟨3, _⟩, H => exact dq_iload_n3 (H 0 _ rfl)
  | lload_n n =>
    match n, H with
    | ⟨0, _⟩, H => exact dq_lload_n0 (H 0 _ rfl)
    | ⟨1, _⟩, H => exact dq_lload_n1 (H 0 _ rfl)
    | ⟨2, _⟩, H => exact dq_lload_n2 (H 0 _ rfl)
    | ⟨3, _⟩, H => exact dq_lload_n3 (H 0 _ rfl)
  | aload_n n =>
    match n, H with
    | ⟨0, _⟩, H => exact dq_aload_n0 (H 0 _ rfl)
    | ⟨1, _⟩, H => exact dq_aload_n1 (H 0 _ rfl)
    | ⟨2, _⟩, H => exact dq_aload_n2 (H 0 _ rfl)
    | ⟨3, _⟩, H => exact dq_aload_n3 (H 0 _ rfl)
  | istore_n n =>
    match n, H with
    | ⟨0, _⟩, H => exact dq_istore_n0 (H 0 _ rfl)
    | ⟨1, _⟩, H => exact dq_istore_n1 (H 0 _ rfl)
    | ⟨2, _⟩, H => exact dq_istore_n2 (H 0 _ rfl)
    | ⟨3, _⟩, H => exact dq_istore_n3 (H 0 _ rfl)
  | lstore_n n =>
    match n, H with
    | ⟨0, _⟩, H => exact dq_lstore_n0 (H 0 _ rfl)
    | ⟨1, _⟩, H => exact dq_lstore_n1 (H 0 _ rfl)
    | ⟨2, _⟩, H => exact dq_lstore_n2 (H 0 _ rfl)
    | ⟨3, _⟩, H => exact dq_lstore_n3 (H 0 _ rfl)
  | astore_n n =>
    match n, H with
    | ⟨0, _⟩, H => exact dq_astore_n0 (H 0 _ rfl)
    | ⟨1, _⟩, H => exact dq_astore_n1 (H 0 _ rfl)
    | ⟨2, _⟩, H => exact dq_astore_n2 (H 0 _ rfl)
    | ⟨3, _⟩, H => exact dq_astore_n3 (H 0 _ rfl)
  | lconst n =>
    match n, H with
    | ⟨0, _⟩, H => exact dq_lconst0 (H 0 _ rfl)
    | ⟨1, _⟩, H => exact dq_lconst1 (H 0 _ rfl)
  | iconst i =>
    by_cases hx : -1 ≤ i ∧ i ≤ 5
    · have e : dq_enc (.iconst i) = [(i + 3).toNat] := if_pos hx
      rw [e] at H ⊢
      have h0 := H 0 _ rfl
      have hc : i = -1 ∨ i = 0 ∨ i = 1 ∨ i = 2 ∨ i = 3 ∨ i = 4 ∨ i = 5 := by omega
      rcases hc with rfl | rfl | rfl | rfl | rfl | rfl | rfl
      · exact dq_iconst0 h0
      · exact dq_iconst1 h0
      · exact dq_iconst2 h0
      · exact dq_iconst3 h0
      · exact dq_iconst4 h0
      · exact dq_iconst5 h0
      · exact dq_iconst6 h0
    · exact absurd (if_neg hx) hne
  | bipush x =>
    by_cases hx : -128 ≤ x ∧ x < 128
    · have e : dq_enc (.bipush x) = [16, (x % 256).toNat] := if_pos hx
      rw [e] at H ⊢
      exact dq_bipush hx (H 0 _ rfl) (H 1 _ rfl)
    · exact absurd (if_neg hx) hne
  | iinc a x =>
    by_cases hx : -128 ≤ x ∧ x < 128
    · have e : dq_enc (.iinc a x) = [132, a, (x % 256).toNat] := if_pos hx
      rw [e] at H ⊢
      exact dq_iinc hx (H 0 _ rfl) (H 1 _ rfl) (H 2 _ rfl)
    · exact absurd (if_neg hx) hne
  | newarray ty => cases ty with
    | boolean => exact dq_newarray_boolean (H 0 _ rfl) (H 1 _ rfl)
    | char => exact dq_newarray_char (H 0 _ rfl) (H 1 _ rfl)
    | float => exact dq_newarray_float (H 0 _ rfl) (H 1 _ rfl)
    | double => exact dq_newarray_double (H 0 _ rfl) (H 1 _ rfl)
    | byte => exact dq_newarray_byte (H 0 _ rfl) (H 1 _ rfl)
    | short => exact dq_newarray_short (H 0 _ rfl) (H 1 _ rfl)
    | int => exact dq_newarray_int (H 0 _ rfl) (H 1 _ rfl)
    | long => exact dq_newarray_long (H 0 _ rfl) (H 1 _ rfl)
  | sipush x =>
    by_cases hx : -32768 ≤ x ∧ x < 32768
    · have e : dq_enc (.sipush x) = [17, (x % 65536).toNat / 256, (x % 65536).toNat % 256] := if_pos hx
      rw [e] at H ⊢
      exact dq_sipush hx (H 0 _ rfl) ⟨H 1 _ rfl, H 2 _ rfl⟩
    · exact absurd (if_neg hx) hne
  | goto x =>
    by_cases hx : -32768 ≤ x ∧ x < 32768
    · have e : dq_enc (.goto x) = [167, (x % 65536).toNat / 256, (x % 65536).toNat % 256] := if_pos hx
      rw [e] at H ⊢
      exact dq_goto hx (H 0 _ rfl) ⟨H 1 _ rfl, H 2 _ rfl⟩
    · exact absurd (if_neg hx) hne
  | ifCond cd x =>
    by_cases hx : -32768 ≤ x ∧ x < 32768
    · have e : dq_enc (.ifCond cd x) = [153 + dq_cn cd, (x % 65536).toNat / 256, (x % 65536).toNat % 256] := if_pos hx
      rw [e] at H ⊢
      cases cd with
      | eq => exact dq_ifCond_eq hx (H 0 _ rfl) ⟨H 1 _ rfl, H 2 _ rfl⟩
      | ne => exact dq_ifCond_ne hx (H 0 _ rfl) ⟨H 1 _ rfl, H 2 _ rfl⟩
      | lt => exact dq_ifCond_lt hx (H 0 _ rfl) ⟨H 1 _ rfl, H 2 _ rfl⟩
      | ge => exact dq_ifCond_ge hx (H 0 _ rfl) ⟨H 1 _ rfl, H 2 _ rfl⟩
      | gt => exact dq_ifCond_gt hx (H 0 _ rfl) ⟨H 1 _ rfl, H 2 _ rfl⟩
      | le => exact dq_ifCond_le hx (H 0 _ rfl) ⟨H 1 _ rfl, H 2 _ rfl⟩
    · exact absurd (if_neg hx) hne
  | if_icmp cd x =>
    by_cases hx : -32768 ≤ x ∧ x < 32768
    · have e : dq_enc (.if_icmp cd x) = [159 + dq_cn cd, (x % 65536).toNat / 256, (x % 65536).toNat % 256] := if_pos hx
      rw [e] at H ⊢
      cases cd with
      | eq => exact dq_if_icmp_eq hx (H 0 _ rfl) ⟨H 1 _ rfl, H 2 _ rfl⟩
      | ne => exact dq_if_icmp_ne hx (H 0 _ rfl) ⟨H 1 _ rfl, H 2 _ rfl⟩
      | lt => exact dq_if_icmp_lt hx (H 0 _ rfl) ⟨H 1 _ rfl, H 2 _ rfl⟩
      | ge => exact dq_if_icmp_ge hx (H 0 _ rfl) ⟨H 1 _ rfl, H 2 _ rfl⟩
      | gt => exact dq_if_icmp_gt hx (H 0 _ rfl) ⟨H 1 _ rfl, H 2 _ rfl⟩
      | le => exact dq_if_icmp_le hx (H 0 _ rfl) ⟨H 1 _ rfl, H 2 _ rfl⟩
    · exact absurd (if_neg hx) hne
  | _ => exact absurd rfl hne
def dq_pre : List Nat → List Nat → Bool
  | [] => fun _ => true
  | b :: bs => fun l => match l with
    | [] => false
    | x :: l => Nat.beq b x && dq_pre bs l
theorem dq_pre_ok : ∀ (bs l : List Nat), dq_pre bs l = true → ∀ (k b : Nat), bs[k]? = some b → l[k]? = some b
  | [], _, _, k, b, hb => by simp at hb
  | b0 :: bs, [], h, _, _, _ => by simp [dq_pre] at h
  | b0 :: bs, x :: l, h, k, b, hb => by
    have h : (Nat.beq b0 x && dq_pre bs l) = true := h
    simp only [Bool.and_eq_true] at h
    cases k with
    | zero =>
      simp only [List.getElem?_cons_zero] at hb ⊢
      rw [← hb, Nat.eq_of_beq_eq_true h.1]
    | succ k =>
      simp only [List.getElem?_cons_succ] at hb ⊢
      exact dq_pre_ok bs l h.2 k b hb
def dq_bytes (c : ByteArray) : List Nat := c.data.toList.map UInt8.toNat
theorem dq_bytes_at {c : ByteArray} {j b : Nat} (h : (dq_bytes c)[j]? = some b) : dq_at c j b := by
  unfold dq_bytes at h
  rw [List.getElem?_map] at h
  cases e : c.data.toList[j]? with
  | none => rw [e] at h; cases h
  | some u =>
    rw [e] at h
    obtain ⟨h1, h2⟩ := List.getElem?_eq_some_iff.mp e
    refine ⟨h1, ?_⟩
    have h3 : u.toNat = b := Option.some.inj h
    rw [← h3, ← h2]
    rfl
/-- the bytes of an instruction at a place -/
def dq_ins (i : Instr) (n : Nat) (l : List Nat) : Bool := match dq_enc i with
  | [] => false
  | b :: bs => dq_pre (b :: bs) l && Nat.beq (b :: bs).length n
theorem dq_ins_ok {c : ByteArray} {i : Instr} {n pc : Nat} {l : List Nat} (hl : ∀ (k b : Nat), l[k]? = some b → (dq_bytes c)[pc + k]? = some b) (h : dq_ins i n l = true) : decode c pc = .ok (i, n) := by
  unfold dq_ins at h
  split at h
  · cases h
  · next b bs e =>
    simp only [Bool.and_eq_true] at h
    have hn := Nat.eq_of_beq_eq_true h.2
    rw [← hn, ← e]
    refine dq_enc_ok (fun k b' hb => dq_bytes_at (hl k b' (dq_pre_ok _ _ h.1 k b' (e ▸ hb)))) ?_
    rw [e]
    exact List.cons_ne_nil _ _
theorem dq_drop {c : ByteArray} {pc : Nat} (k b : Nat) (h : ((dq_bytes c).drop pc)[k]? = some b) : (dq_bytes c)[pc + k]? = some b := by
  rw [List.getElem?_drop] at h
  exact h
def dq_nop : Instr → Bool
  | .nop => true
  | _ => false
theorem dq_nop_ok {i : Instr} (h : dq_nop i = true) : i = .nop := by
  cases i <;> first | rfl | cases h
def dq_row (c : ByteArray) (r : pv_R) (l : List Nat) : Bool := dq_nop r.2.1 || (dq_ins r.2.1 r.2.2.1 l || decide (decode c r.1 = .ok (r.2.1, r.2.2.1)))
def dq_seq (c : ByteArray) : List pv_R → Nat → List Nat → Bool
  | [] => fun _ _ => true
  | r :: rs => fun pc l => Nat.ble pc r.1 && (dq_row c r (l.drop (r.1 - pc)) && dq_seq c rs r.1 (l.drop (r.1 - pc)))
theorem dq_seq_ok (c : ByteArray) : ∀ (rs : List pv_R) (pc : Nat) (l : List Nat), l = (dq_bytes c).drop pc → dq_seq c rs pc l = true → ∀ r ∈ rs, r.2.1 = .nop ∨ decode c r.1 = .ok (r.2.1, r.2.2.1)
  | [], _, _, _, _, r, hr => by cases hr
  | r0 :: rs, pc, l, hl, h, r, hr => by
    have h : (Nat.ble pc r0.1 && (dq_row c r0 (l.drop (r0.1 - pc)) && dq_seq c rs r0.1 (l.drop (r0.1 - pc)))) = true := h
    simp only [Bool.and_eq_true] at h
    obtain ⟨h1, h2, h3⟩ := h
    have hle := Nat.le_of_ble_eq_true h1
    have el : l.drop (r0.1 - pc) = (dq_bytes c).drop r0.1 := by
      rw [hl, List.drop_drop, show pc + (r0.1 - pc) = r0.1 by omega]
    rw [el] at h2 h3
    cases hr with
    | head =>
      unfold dq_row at h2
      simp only [Bool.or_eq_true] at h2
      rcases h2 with h2 | h2 | h2
      · exact Or.inl (dq_nop_ok h2)
      · exact Or.inr (dq_ins_ok dq_drop h2)
      · exact Or.inr (of_decide_eq_true h2)
    | tail _ hr => exact dq_seq_ok c rs r0.1 _ rfl h3 r hr
def dq_rest (LK : List (List Nat)) (M : pv_M) (o k : Nat) (r : pv_R) : Bool := (if pv_isR r.2.1 then pv_okr M.2.2.2.1 r.2.1 r.2.2.2.1 && r.2.2.1 == 1
   else if pv_isC r.2.1 r.2.2.2.1 then pv_okc LK o r.2.1 r.2.2.2.1 r.2.2.2.2 && pv_nx M.2.2.2.2 k r.1 r.2.2.1 3
   else if pv_ist r.2.1 r.2.2.2.1 then pv_okt M o k r.1 r.2.2.1 r.2.1 r.2.2.2.1
   else pv_okx LK M.2.2.2.2 o M.1.name M.2.2.1 k r.1 r.2.2.1 r.2.1 r.2.2.2.1 r.2.2.2.2)
def dq_all (LK : List (List Nat)) (M : pv_M) (o : Nat) : List pv_R → Nat → Bool
  | [] => fun _ => true
  | r :: rs => fun k => (dq_nop r.2.1 || dq_rest LK M o k r) && dq_all LK M o rs (k + 1)
theorem dq_all_ok (LK : List (List Nat)) (M : pv_M) (o : Nat) : ∀ (rs : List pv_R) (k : Nat), dq_all LK M o rs k = true → ∀ (j : Nat) (r : pv_R), rs[j]? = some r → r.2.1 = .nop ∨ dq_rest LK M o (k + j) r = true
  | [], _, _, j, r, hr => by simp at hr
  | r0 :: rs, k, h, j, r, hr => by
    have h : ((dq_nop r0.2.1 || dq_rest LK M o k r0) && dq_all LK M o rs (k + 1)) = true := h
    simp only [Bool.and_eq_true, Bool.or_eq_true] at h
    cases j with
    | zero =>
      rw [List.getElem?_cons_zero] at hr
      cases hr
      exact h.1.imp dq_nop_ok id
    | succ j =>
      rw [List.getElem?_cons_succ] at hr
      have z := dq_all_ok LK M o rs (k + 1) h.2 j r hr
      rw [show k + 1 + j = k + (j + 1) by omega] at z
      exact z
def dq_okM (LK : List (List Nat)) (M : pv_M) : Bool := (plainName M.1.cls && pv_pc M.2.2.2.2 0 == 0 && decide (M.2.2.1 ≤ 30)) && (dq_seq M.2.1 M.2.2.2.2 0 (dq_bytes M.2.1) && (List.range pv_cn.length).any (fun o => decide (pv_cn[o]? = some M.1.cls) && dq_all LK M o M.2.2.2.2 0))
theorem dq_okM_ok {LK : List (List Nat)} {M : pv_M} (h : dq_okM LK M = true) : pv_okM2 LK M = true := by
  unfold dq_okM at h
  rw [Bool.and_eq_true] at h
  obtain ⟨h1, h2⟩ := h
  rw [Bool.and_eq_true] at h2
  obtain ⟨h2, h3⟩ := h2
  unfold pv_okM2
  rw [Bool.and_eq_true]
  refine ⟨h1, ?_⟩
  rw [List.any_eq_true] at h3 ⊢
  obtain ⟨o, ho, h3⟩ := h3
  rw [Bool.and_eq_true] at h3
  refine ⟨o, ho, ?_⟩
  rw [Bool.and_eq_true]
  refine ⟨h3.1, ?_⟩
  rw [List.all_eq_true]
  intro k _
  split
  · next r hr =>
    rcases dq_all_ok LK M o _ 0 h3.2 k r hr with z | z
    · rw [decide_eq_true z]; rfl
    · rcases dq_seq_ok M.2.1 _ 0 _ rfl h2 r (List.mem_of_getElem? hr) with y | y
      · rw [decide_eq_true y]; rfl
      · rw [Nat.zero_add] at z
        have q : pv_okR2 LK M o k r = true := by
          unfold pv_okR2
          rw [Bool.and_eq_true]
          exact ⟨decide_eq_true y, z⟩
        rw [q, Bool.or_true]
  · rfl
