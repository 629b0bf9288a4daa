section QXOK2
variable {L : List qY} {T : List (Nat × Nat × Nat)} {md : Bool} {d : Nat} {rows : List pv_R} {Q : Option Value → pv_H → Prop} {nx : Nat → qL → List qV → qA → Prop}
variable {k : Nat} {lo : qL} {st : List qV} {A : qA} {pc len : Nat} {xs ps : List Nat} {i : Instr}
theorem qsw_p {x : Int} {f : Nat → Prop} : ∀ (ts : List Nat) (c : Int) (n t : Nat), qsw x f ts c → ts[n]? = some t → x = c + n → f t
  | u :: ts, c, 0, t, h, e, hx => by
    have e : some u = some t := e
    cases e
    exact h.1 (by omega)
  | u :: ts, c, n + 1, t, h, e, hx => qsw_p ts (c + 1) n t h.2 e (by omega)
theorem qokA_cpy {a0 a n0 n1 : Nat} {k0 k1 : List (Nat × Nat)} {sp dp n : Int} (e0 : L[a0]? = some (0, 0, n0, k0)) (e1 : L[a]? = some (0, 0, n1, k1)) (hA : qokA L A) : qokA L (qcpy A a0 sp a dp n) := by
  intro b j
  unfold qcpy
  split
  · next h =>
    obtain ⟨rfl, _⟩ := h
    exact ⟨(hA _ _).1, fun _ => (hA _ _).2 (qlng_0 e0)⟩
  · exact hA b j
set_option maxHeartbeats 4000000 in
theorem qx_ok (hn : qgood L d rows Q nx) (hr : rows[k]? = some (pc, i, len, xs, ps)) (hA : qokA L A) (hl : qokl lo) (hs : qoks st) (hx : qx L T md i xs k lo st A nx) : wG d rows k (ql lo) (st.map qv) (qH L A) Q := by
  cases i with
  | iconst n => exact wG_step hr rfl rfl (k' := k + 1) (lo' := ql lo) (st' := .int (Int32.ofInt n) :: st.map qv) (h1 := qH L A) rfl (hn _ _ _ _ hA hl (qoks_c (qok_sm n) hs) hx)
  | bipush n =>
    obtain ⟨hb, hx⟩ := bif_p hx
    have hq := qsm_p hb
    refine wG_step hr rfl rfl (k' := k + 1) (lo' := ql lo) (st' := .int (Int32.ofInt n) :: st.map qv) (h1 := qH L A) ?_ (hn _ _ _ _ hA hl (qoks_c (show qok (ni n) from ⟨by omega, by omega⟩) hs) hx)
    simp only [pv_x]; rw [b8_of hb]
  | sipush n =>
    obtain ⟨hb, hx⟩ := bif_p hx
    have hq := qsm_p hb
    refine wG_step hr rfl rfl (k' := k + 1) (lo' := ql lo) (st' := .int (Int32.ofInt n) :: st.map qv) (h1 := qH L A) ?_ (hn _ _ _ _ hA hl (qoks_c (show qok (ni n) from ⟨by omega, by omega⟩) hs) hx)
    simp only [pv_x]; rw [b16_of hb]
  | lconst n =>
    obtain ⟨hb, hx⟩ := bif_p hx
    have hq := blt_p hb
    exact wG_step hr rfl rfl (k' := k + 1) (lo' := ql lo) (st' := .long (Int64.ofInt n) :: st.map qv) (h1 := qH L A) rfl (hn _ _ _ _ hA hl (qoks_c (show qok (nl ((n : Nat) : Int)) from ⟨by omega, by omega⟩) hs) (hx _ rfl))
  | ldc n =>
    simp only [qx] at hx
    split at hx
    · next v =>
      obtain ⟨hb, hx⟩ := bif_p hx
      refine wG_step hr rfl rfl (k' := k + 1) (lo' := ql lo) (st' := .int (Int32.ofInt (qn v)) :: st.map qv) (h1 := qH L A) ?_ (hn _ _ _ _ hA hl (qoks_c (show qok (ni (qn v)) from qn_rng (blt_p hb)) hs) hx)
      simp only [pv_x]; rw [qn_of]
    · next s w =>
      split at hx
      · next b x r =>
        obtain ⟨hb, hx⟩ := bif_p hx
        refine wG_step hr rfl rfl (k' := k + 2) (lo' := ql lo) (st' := .int (Int32.ofInt (qone s x)) :: r.map qv) (h1 := qH L A) ?_ (hn _ _ _ _ hA hl (qoks_c (show qok (ni (qone s x)) from i_rng _) (qoks_t hs)) (hx _ rfl))
        show (if pv_cat (r.map qv) ≤ 4 then some (k + 2, ql lo, Value.int (pv_one s (Int32.ofInt x)) :: r.map qv, qH L A) else none) = _
        rw [if_pos (by rw [qcats_p]; exact Nat.le_of_ble_eq_true hb), qone, Int32.ofInt_toInt]
      · exact hx.elim
    · next s i9 =>
      split at hx
      · next b x e =>
        obtain ⟨hb, hx⟩ := bif_p hx
        refine wG_step hr rfl rfl (k' := k + 4) (lo' := ql lo) (st' := .int (Int32.ofInt (qix s x)) :: st.map qv) (h1 := qH L A) ?_ (hn _ _ _ _ hA hl (qoks_c (show qok (ni (qix s x)) from i_rng _) hs) (hx _ rfl))
        simp only [pv_x]
        rw [qget_p, e]
        show (if pv_cat (st.map qv) ≤ 4 then some (k + 4, ql lo, Value.int (pv_ix s (pv_chr (Int32.ofInt x))) :: st.map qv, qH L A) else none) = _
        rw [if_pos (by rw [qcats_p]; exact Nat.le_of_ble_eq_true hb), qix, Int32.ofInt_toInt]
      · exact hx.elim
    · exact hx.elim
  | ldc_w n =>
    rcases xs with _ | ⟨v, _ | ⟨_, _⟩⟩ <;> try exact hx.elim
    obtain ⟨hb, hx⟩ := bif_p hx
    refine wG_step hr rfl rfl (k' := k + 1) (lo' := ql lo) (st' := .int (Int32.ofInt (qn v)) :: st.map qv) (h1 := qH L A) ?_ (hn _ _ _ _ hA hl (qoks_c (show qok (ni (qn v)) from qn_rng (blt_p hb)) hs) hx)
    simp only [pv_x]; rw [qn_of]
  | ldc2_w n =>
    rcases xs with _ | ⟨v, _ | ⟨_, _⟩⟩ <;> try exact hx.elim
    obtain ⟨hb, hx⟩ := bif_p hx
    refine wG_step hr rfl rfl (k' := k + 1) (lo' := ql lo) (st' := .long (Int64.ofInt (qnL v)) :: st.map qv) (h1 := qH L A) ?_ (hn _ _ _ _ hA hl (qoks_c (show qok (nl (qnL v)) from qnL_rng (blt_p hb)) hs) hx)
    simp only [pv_x]; rw [qnL_of]
  | iload n => exact qlod0 hn hr hA hl hs hx (fun _ => rfl) (fun _ _ => rfl) (fun _ _ _ => rfl)
  | iload_n n => exact qlod0 hn hr hA hl hs hx (fun _ => rfl) (fun _ _ => rfl) (fun _ _ _ => rfl)
  | lload n => exact qlod1 hn hr hA hl hs hx (fun _ => rfl) (fun _ _ => rfl) (fun _ _ _ => rfl)
  | lload_n n => exact qlod1 hn hr hA hl hs hx (fun _ => rfl) (fun _ _ => rfl) (fun _ _ _ => rfl)
  | aload n => exact qlod2 hn hr hA hl hs hx (fun _ => rfl) (fun _ _ => rfl) (fun _ _ _ => rfl)
  | aload_n n => exact qlod2 hn hr hA hl hs hx (fun _ => rfl) (fun _ _ => rfl) (fun _ _ _ => rfl)
  | istore n => exact qsto0 hn hr hA hl hs hx (fun _ => rfl) (fun _ _ => rfl) (fun _ _ _ => rfl)
  | istore_n n => exact qsto0 hn hr hA hl hs hx (fun _ => rfl) (fun _ _ => rfl) (fun _ _ _ => rfl)
  | lstore n => exact qsto1 hn hr hA hl hs hx (fun _ => rfl) (fun _ _ => rfl) (fun _ _ _ => rfl)
  | lstore_n n => exact qsto1 hn hr hA hl hs hx (fun _ => rfl) (fun _ _ => rfl) (fun _ _ _ => rfl)
  | astore n => exact qsto2 hn hr hA hl hs hx (fun _ => rfl) (fun _ _ => rfl) (fun _ _ _ => rfl)
  | astore_n n => exact qsto2 hn hr hA hl hs hx (fun _ => rfl) (fun _ _ => rfl) (fun _ _ _ => rfl)
  | iinc n c =>
    simp only [qx] at hx
    split at hx
    · next b z e =>
      refine wG_step hr rfl rfl (k' := k + 1) (lo' := ql (qset1 lo n (.inl (false, z + c)))) (st' := st.map qv) (h1 := qH L A) ?_ (hn _ _ _ _ hA (qokl_1 hl trivial) hs (hx _ rfl))
      simp only [pv_x]
      rw [qget_p, e, qset1_p]
      show some (k + 1, pv_set1 (ql lo) n (.int (Int32.ofInt z + Int32.ofInt c)), st.map qv, qH L A) = some (k + 1, pv_set1 (ql lo) n (.int (Int32.ofInt (z + c))), st.map qv, qH L A)
      rw [Int32.ofInt_add]
    · exact hx.elim
  | iadd => exact qi2_ok (t := false) (f := fun x y => x + y) hn hr hA hl hs hx (fun _ => rfl) (fun _ _ => rfl) (fun _ _ _ => rfl) (fun x y => (Int32.ofInt_add x y).symm) (fun h => by cases h)
  | isub => exact qi2_ok (t := false) (f := fun x y => x - y) hn hr hA hl hs hx (fun _ => rfl) (fun _ _ => rfl) (fun _ _ _ => rfl) (fun x y => (Int32.ofInt_sub x y).symm) (fun h => by cases h)
  | imul => exact qi2_ok (t := false) (f := fun x y => x * y) hn hr hA hl hs hx (fun _ => rfl) (fun _ _ => rfl) (fun _ _ _ => rfl) (fun x y => (Int32.ofInt_mul x y).symm) (fun h => by cases h)
  | iand => exact qi2_ok hn hr hA hl hs hx (fun _ => rfl) (fun _ _ => rfl) (fun _ _ _ => rfl) (fun x y => (Int32.ofInt_toInt _).symm) (fun _ _ _ => i_rng _)
  | ior => exact qi2_ok hn hr hA hl hs hx (fun _ => rfl) (fun _ _ => rfl) (fun _ _ _ => rfl) (fun x y => (Int32.ofInt_toInt _).symm) (fun _ _ _ => i_rng _)
  | ixor => exact qi2_ok hn hr hA hl hs hx (fun _ => rfl) (fun _ _ => rfl) (fun _ _ _ => rfl) (fun x y => (Int32.ofInt_toInt _).symm) (fun _ _ _ => i_rng _)
  | ishl => exact qi2_ok hn hr hA hl hs hx (fun _ => rfl) (fun _ _ => rfl) (fun _ _ _ => rfl) (fun x y => (Int32.ofInt_toInt _).symm) (fun _ _ _ => i_rng _)
  | ishr => exact qi2_ok hn hr hA hl hs hx (fun _ => rfl) (fun _ _ => rfl) (fun _ _ _ => rfl) (fun x y => (Int32.ofInt_toInt _).symm) (fun _ _ _ => i_rng _)
  | iushr => exact qi2_ok hn hr hA hl hs hx (fun _ => rfl) (fun _ _ => rfl) (fun _ _ _ => rfl) (fun x y => (Int32.ofInt_toInt _).symm) (fun _ _ _ => i_rng _)
  | idiv =>
    simp only [qx] at hx
    split at hx
    · next ty y tx x r =>
      obtain ⟨x', h1, e1, hx⟩ := qput_p (qoks_h (qoks_t hs)) hx
      obtain ⟨y', h2, e2, h3, hx⟩ := qput_p (qoks_h hs) hx
      refine wG_step hr rfl rfl (k' := k + 1) (lo' := ql lo) (st' := .int (Int32.ofInt (qd x' y')) :: r.map qv) (h1 := qH L A) ?_ (hn _ _ _ _ hA hl (qoks_c (show qok (.inl (false, _)) from trivial) (qoks_t (qoks_t hs))) (hx _ rfl))
      show (if Int32.ofInt y = 0 then none else some (k + 1, ql lo, Value.int (Int32.ofInt x / Int32.ofInt y) :: r.map qv, qH L A)) = _
      rw [← e1, ← e2, if_neg (i_ne0 h2 h3), qd_of h1 h2]
    · exact hx.elim
  | irem =>
    simp only [qx] at hx
    split at hx
    · next ty y tx x r =>
      obtain ⟨x', h1, e1, hx⟩ := qput_p (qoks_h (qoks_t hs)) hx
      obtain ⟨y', h2, e2, h3, hx⟩ := qput_p (qoks_h hs) hx
      refine wG_step hr rfl rfl (k' := k + 1) (lo' := ql lo) (st' := .int (Int32.ofInt (qm x' y')) :: r.map qv) (h1 := qH L A) ?_ (hn _ _ _ _ hA hl (qoks_c (show qok (ni (qm x' y')) from qm_rng h1) (qoks_t (qoks_t hs))) (hx _ rfl))
      show (if Int32.ofInt y = 0 then none else some (k + 1, ql lo, Value.int (Int32.ofInt x - Int32.ofInt x / Int32.ofInt y * Int32.ofInt y) :: r.map qv, qH L A)) = _
      rw [← e1, ← e2, if_neg (i_ne0 h2 h3), qm_of h1 h2]
    · exact hx.elim
  | ineg =>
    simp only [qx] at hx
    split at hx
    · next b x r =>
      refine wG_step hr rfl rfl (k' := k + 1) (lo' := ql lo) (st' := .int (Int32.ofInt (-x)) :: r.map qv) (h1 := qH L A) ?_ (hn _ _ _ _ hA hl (qoks_c (show qok (.inl (false, _)) from trivial) (qoks_t hs)) (hx _ rfl))
      show some (k + 1, ql lo, Value.int (- Int32.ofInt x) :: r.map qv, qH L A) = _
      rw [Int32.ofInt_neg]
    · exact hx.elim
  | ladd => exact qj2_ok hn hr hA hl hs hx (fun _ => rfl) (fun _ _ => rfl) (fun _ _ _ => rfl) (fun x y => by rw [jadd, wL_of, Int64.ofInt_add]) (fun _ _ => wL_rng _)
  | lsub => exact qj2_ok hn hr hA hl hs hx (fun _ => rfl) (fun _ _ => rfl) (fun _ _ _ => rfl) (fun x y => by rw [jsub, wL_of, Int64.ofInt_sub]) (fun _ _ => wL_rng _)
  | lmul => exact qj2_ok hn hr hA hl hs hx (fun _ => rfl) (fun _ _ => rfl) (fun _ _ _ => rfl) (fun x y => by rw [jmul, wL_of, Int64.ofInt_mul]) (fun _ _ => wL_rng _)
  | land => exact qj2_ok hn hr hA hl hs hx (fun _ => rfl) (fun _ _ => rfl) (fun _ _ _ => rfl) (fun x y => (Int64.ofInt_toInt _).symm) (fun _ _ => l_rng _)
  | lor => exact qj2_ok hn hr hA hl hs hx (fun _ => rfl) (fun _ _ => rfl) (fun _ _ _ => rfl) (fun x y => (Int64.ofInt_toInt _).symm) (fun _ _ => l_rng _)
  | lxor => exact qj2_ok hn hr hA hl hs hx (fun _ => rfl) (fun _ _ => rfl) (fun _ _ _ => rfl) (fun x y => (Int64.ofInt_toInt _).symm) (fun _ _ => l_rng _)
  | ldiv =>
    simp only [qx] at hx
    split at hx
    · next y x r =>
      obtain ⟨h3, hx⟩ := hx
      have h2 : rngL y := qoks_h hs
      have h1 : rngL x := qoks_h (qoks_t hs)
      refine wG_step hr rfl rfl (k' := k + 1) (lo' := ql lo) (st' := .long (Int64.ofInt (wL (Int.tdiv x y))) :: r.map qv) (h1 := qH L A) ?_ (hn _ _ _ _ hA hl (qoks_c (show qok (nl _) from wL_rng _) (qoks_t (qoks_t hs))) (hx _ rfl))
      show (if Int64.ofInt y = 0 then none else some (k + 1, ql lo, Value.long (Int64.ofInt x / Int64.ofInt y) :: r.map qv, qH L A)) = _
      rw [if_neg (l_ne0 h2 h3), wL_of]
      have e : Int64.ofInt x / Int64.ofInt y = Int64.ofInt (Int.tdiv x y) := by
        apply Int64.toInt_inj.mp
        rw [Int64.toInt_div, iL_to h1, iL_to h2, Int64.toInt_ofInt]
      rw [e]
    · exact hx.elim
  | lrem =>
    simp only [qx] at hx
    split at hx
    · next y x r =>
      obtain ⟨h3, hx⟩ := hx
      have h2 : rngL y := qoks_h hs
      have h1 : rngL x := qoks_h (qoks_t hs)
      refine wG_step hr rfl rfl (k' := k + 1) (lo' := ql lo) (st' := .long (Int64.ofInt (Int.tmod x y)) :: r.map qv) (h1 := qH L A) ?_ (hn _ _ _ _ hA hl (qoks_c (show qok (nl _) from tmod_b h1.1 h1.2 (by decide) (by decide)) (qoks_t (qoks_t hs))) (hx _ rfl))
      show (if Int64.ofInt y = 0 then none else some (k + 1, ql lo, Value.long (Int64.ofInt x - Int64.ofInt x / Int64.ofInt y * Int64.ofInt y) :: r.map qv, qH L A)) = _
      rw [if_neg (l_ne0 h2 h3)]
      have e : Int64.ofInt x / Int64.ofInt y = Int64.ofInt (Int.tdiv x y) := by
        apply Int64.toInt_inj.mp
        rw [Int64.toInt_div, iL_to h1, iL_to h2, Int64.toInt_ofInt]
      rw [e, ← Int64.ofInt_mul, ← Int64.ofInt_sub]
      have := Int.tmod_add_mul_tdiv x y
      rw [Int.mul_comm] at this
      rw [show x - Int.tdiv x y * y = Int.tmod x y by omega]
    · exact hx.elim
  | lshl => exact qjs_ok hn hr hA hl hs hx (fun _ => rfl) (fun _ _ => rfl) (fun _ _ _ => rfl) (fun x y => (Int64.ofInt_toInt _).symm) (fun _ _ => l_rng _)
  | lshr => exact qjs_ok hn hr hA hl hs hx (fun _ => rfl) (fun _ _ => rfl) (fun _ _ _ => rfl) (fun x y => (Int64.ofInt_toInt _).symm) (fun _ _ => l_rng _)
  | lushr => exact qjs_ok hn hr hA hl hs hx (fun _ => rfl) (fun _ _ => rfl) (fun _ _ _ => rfl) (fun x y => (Int64.ofInt_toInt _).symm) (fun _ _ => l_rng _)
  | lcmp =>
    simp only [qx] at hx
    split at hx
    · next y x r =>
      refine wG_step hr rfl rfl (k' := k + 1) (lo' := ql lo) (st' := .int (Int32.ofInt (jc x y)) :: r.map qv) (h1 := qH L A) ?_ (hn _ _ _ _ hA hl (qoks_c (show qok (ni _) from jc_rng x y) (qoks_t (qoks_t hs))) (hx _ rfl))
      show some (k + 1, ql lo, Value.int (lg_cmp (Int64.ofInt x) (Int64.ofInt y)) :: r.map qv, qH L A) = _
      rw [jc_of (qoks_h (qoks_t hs)) (qoks_h hs)]
    · exact hx.elim
  | i2l =>
    simp only [qx] at hx
    split at hx
    · next tx x r =>
      obtain ⟨x', h1, e1, hx⟩ := qput_p (qoks_h hs) hx
      refine wG_step hr rfl rfl (k' := k + 1) (lo' := ql lo) (st' := .long (Int64.ofInt x') :: r.map qv) (h1 := qH L A) ?_ (hn _ _ _ _ hA hl (qoks_c (show qok (nl _) from rng_L h1) (qoks_t hs)) hx)
      show some (k + 1, ql lo, Value.long (Int32.ofInt x).toInt64 :: r.map qv, qH L A) = _
      have e : (Int32.ofInt x').toInt64 = Int64.ofInt x' := by
        apply Int64.toInt_inj.mp
        rw [Int32.toInt_toInt64, iI_to h1, iL_to (rng_L h1)]
      rw [← e1, e]
    · exact hx.elim
  | l2i =>
    simp only [qx] at hx
    split at hx
    · next x r =>
      refine wG_step hr rfl rfl (k' := k + 1) (lo' := ql lo) (st' := .int (Int32.ofInt x) :: r.map qv) (h1 := qH L A) ?_ (hn _ _ _ _ hA hl (qoks_c (show qok (.inl (false, _)) from trivial) (qoks_t hs)) hx)
      show some (k + 1, ql lo, Value.int (Int64.ofInt x).toInt32 :: r.map qv, qH L A) = _
      rw [l2i_of]
    · exact hx.elim
  | i2b =>
    simp only [qx] at hx
    split at hx
    · next b x r =>
      refine wG_step hr rfl rfl (k' := k + 1) (lo' := ql lo) (st' := .int (Int32.ofInt (w8 x)) :: r.map qv) (h1 := qH L A) ?_ (hn _ _ _ _ hA hl (qoks_c (show qok (ni _) from i_rng _) (qoks_t hs)) (hx _ rfl))
      show some (k + 1, ql lo, Value.int (Int32.ofInt x).toInt8.toInt32 :: r.map qv, qH L A) = _
      unfold w8
      rw [Int32.ofInt_toInt]
    · exact hx.elim
  | i2c =>
    simp only [qx] at hx
    split at hx
    · next b x r =>
      refine wG_step hr rfl rfl (k' := k + 1) (lo' := ql lo) (st' := .int (Int32.ofInt (x % 65536)) :: r.map qv) (h1 := qH L A) ?_ (hn _ _ _ _ hA hl (qoks_c (show qok (ni _) from ⟨by omega, by omega⟩) (qoks_t hs)) (hx _ rfl))
      show some (k + 1, ql lo, Value.int ((Int32.ofInt x).toUInt32 % 65536).toInt32 :: r.map qv, qH L A) = _
      rw [i2c_of]
    · exact hx.elim
  | dup =>
    simp only [qx] at hx
    split at hx
    · next v r =>
      obtain ⟨hb, hx⟩ := bif_p hx
      refine wG_step hr rfl rfl (k' := k + 1) (lo' := ql lo) (st' := qv v :: qv v :: r.map qv) (h1 := qH L A) ?_ (hn _ _ _ _ hA hl (qoks_c (qoks_h hs) hs) hx)
      show (if (qv v).category = 1 then some (k + 1, ql lo, qv v :: qv v :: r.map qv, qH L A) else none) = _
      rw [if_pos (by rw [qv_cat]; exact beq_p hb)]
    · exact hx.elim
  | pop =>
    simp only [qx] at hx
    split at hx
    · next v r =>
      obtain ⟨hb, hx⟩ := bif_p hx
      refine wG_step hr rfl rfl (k' := k + 1) (lo' := ql lo) (st' := r.map qv) (h1 := qH L A) ?_ (hn _ _ _ _ hA hl (qoks_t hs) hx)
      show (if (qv v).category = 1 then some (k + 1, ql lo, r.map qv, qH L A) else none) = _
      rw [if_pos (by rw [qv_cat]; exact beq_p hb)]
    · exact hx.elim
  | dup2 =>
    simp only [qx] at hx
    split at hx
    · next v w r =>
      obtain ⟨hb, hx⟩ := bif_p hx
      simp only [Bool.and_eq_true] at hb
      refine wG_step hr rfl rfl (k' := k + 1) (lo' := ql lo) (st' := qv v :: qv w :: qv v :: qv w :: r.map qv) (h1 := qH L A) ?_ (hn _ _ _ _ hA hl (qoks_c (qoks_h hs) (qoks_c (qoks_h (qoks_t hs)) hs)) hx)
      show (if (qv v).category = 1 ∧ (qv w).category = 1 then some (k + 1, ql lo, qv v :: qv w :: qv v :: qv w :: r.map qv, qH L A) else none) = _
      rw [if_pos ⟨by rw [qv_cat]; exact beq_p hb.1, by rw [qv_cat]; exact beq_p hb.2⟩]
    · exact hx.elim
  | goto o =>
    rcases xs with _ | ⟨t, _ | ⟨_, _⟩⟩ <;> try exact hx.elim
    exact wG_step hr rfl rfl (k' := t) (lo' := ql lo) (st' := st.map qv) (h1 := qH L A) rfl (hn _ _ _ _ hA hl hs hx)
  | ifCond c o =>
    simp only [qx] at hx
    split at hx
    · next t tx x r =>
      obtain ⟨x', h1, e1, hx⟩ := qput_p (qoks_h hs) hx
      have hx := qbr_p hx
      have hz : rng 0 := ⟨by decide, by decide⟩
      show wG d rows k (ql lo) (Value.int (Int32.ofInt x) :: r.map qv) (qH L A) Q
      rw [← e1]
      refine wG_b1 hr (fun q => hn _ _ _ _ hA hl (qoks_t hs) (hx.1 ((qpc h1 hz).mp q))) (fun q => hn _ _ _ _ hA hl (qoks_t hs) (hx.2 (fun z => ?_)))
      have q' : pv_cond c (Int32.ofInt x') (Int32.ofInt 0) = false := q
      rw [(qpc h1 hz).mpr z] at q'; cases q'
    · exact hx.elim
  | if_icmp c o =>
    simp only [qx] at hx
    split at hx
    · next t ty y tx x r =>
      obtain ⟨x', h1, e1, hx⟩ := qput_p (qoks_h (qoks_t hs)) hx
      obtain ⟨y', h2, e2, hx⟩ := qput_p (qoks_h hs) hx
      have hx := qbr_p hx
      show wG d rows k (ql lo) (Value.int (Int32.ofInt y) :: Value.int (Int32.ofInt x) :: r.map qv) (qH L A) Q
      rw [← e1, ← e2]
      refine wG_b2 hr (fun q => hn _ _ _ _ hA hl (qoks_t (qoks_t hs)) (hx.1 ((qpc h1 h2).mp q))) (fun q => hn _ _ _ _ hA hl (qoks_t (qoks_t hs)) (hx.2 (fun z => ?_)))
      rw [(qpc h1 h2).mpr z] at q; cases q
    · exact hx.elim
  | tableswitch o a b os =>
    simp only [qx] at hx
    split at hx
    · next dd ts tx x r =>
      obtain ⟨hb, hx⟩ := bif_p hx
      obtain ⟨x', h1, e1, hx1, hx2⟩ := qput_p (qoks_h hs) hx
      have hb := beq_p hb
      by_cases hd : x' < a ∨ b < x'
      · refine wG_step hr rfl rfl (k' := dd) (lo' := ql lo) (st' := r.map qv) (h1 := qH L A) ?_ (hn _ _ _ _ hA hl (qoks_t hs) (hx1 hd))
        show (if (Int32.ofInt x).toInt < a ∨ b < (Int32.ofInt x).toInt then some (dd, ql lo, r.map qv, qH L A) else match ts[((Int32.ofInt x).toInt - a).toNat]? with
          | some t => some (t, ql lo, r.map qv, qH L A)
          | none => none) = _
        rw [← e1, iI_to h1, if_pos hd]
      · have hl2 : (x' - a).toNat < ts.length := by omega
        have e : ts[(x' - a).toNat]? = some (ts[(x' - a).toNat]) := List.getElem?_eq_getElem hl2
        refine wG_step hr rfl rfl (k' := ts[(x' - a).toNat]) (lo' := ql lo) (st' := r.map qv) (h1 := qH L A) ?_ (hn _ _ _ _ hA hl (qoks_t hs) (qsw_p ts a _ _ hx2 e (by omega)))
        show (if (Int32.ofInt x).toInt < a ∨ b < (Int32.ofInt x).toInt then some (dd, ql lo, r.map qv, qH L A) else match ts[((Int32.ofInt x).toInt - a).toNat]? with
          | some t => some (t, ql lo, r.map qv, qH L A)
          | none => none) = _
        rw [← e1, iI_to h1, if_neg hd, e]
    · exact hx.elim
  | lookupswitch o ps9 =>
    simp only [qx] at hx
    split at hx
    · next dd ps tx x r =>
      obtain ⟨x', h1, e1, hx⟩ := qput_p (qoks_h hs) hx
      have gen : ∀ (n : Nat) (ps : List Nat), ps.length ≤ n → qlsw x' (fun t => nx t lo r A) dd ps → nx ((pv_lsw ps (Int32.ofInt x')).getD dd) lo r A := by
        intro n
        induction n with
        | zero =>
          intro ps hl hq
          rcases ps with _ | ⟨a, ps⟩
          · exact hq
          · cases hl
        | succ n ih =>
          intro ps hl hq
          rcases ps with _ | ⟨a, _ | ⟨t, ps⟩⟩
          · exact hq
          · exact hq
          · show nx (((if Int32.ofInt x' = Int32.ofNat a then some t else pv_lsw ps (Int32.ofInt x'))).getD dd) lo r A
            obtain ⟨hb, hq⟩ := bif_p hq
            have hb := blt_p hb
            by_cases he : Int32.ofInt x' = Int32.ofNat a
            · rw [if_pos he]
              refine hq.1 ?_
              have e9 := congrArg Int32.toInt he
              rw [iI_to h1] at e9
              have e8 : (Int32.ofNat a).toInt = (a : Int) := iI_to (z := (a : Int)) ⟨by omega, by omega⟩
              rw [e8] at e9
              exact e9
            · rw [if_neg he]
              exact ih ps (by simp only [List.length_cons] at hl; omega) (hq.2 (fun q => he (by rw [q]; rfl)))
      refine wG_step hr rfl rfl (k' := (pv_lsw ps (Int32.ofInt x)).getD dd) (lo' := ql lo) (st' := r.map qv) (h1 := qH L A) rfl (hn _ _ _ _ hA hl (qoks_t hs) ?_)
      rw [← e1]
      exact gen _ ps (Nat.le_refl _) hx
    · exact hx.elim
  | getfield idx => exact qgf_ok hn hr hA hl hs hx
  | putfield idx => exact qpf_ok hn hr hA hl hs hx
  | iaload => exact qald_ok hn hr hA hl hs hx (fun _ => rfl) (fun _ _ => rfl) (fun _ _ _ => rfl)
  | baload =>
    simp only [qx] at hx
    split at hx
    · exact qald_ok hn hr hA hl hs hx (fun _ => rfl) (fun _ _ => rfl) (fun _ _ _ => rfl)
    · exact qald_ok hn hr hA hl hs hx (fun _ => rfl) (fun _ _ => rfl) (fun _ _ _ => rfl)
    · exact hx.elim
  | laload =>
    simp only [qx] at hx
    split at hx
    · next b z a r =>
      split at hx
      · next n ks e =>
        obtain ⟨hb, ⟨hz0, hz1⟩, hx⟩ := bif_p hx
        have hn' := blt_p hb
        refine wG_step hr rfl rfl (k' := k + 1) (lo' := ql lo) (st' := qv (nl (A a z)) :: r.map qv) (h1 := qH L A) ?_ (hn _ _ _ _ hA hl (qoks_c (show qok (nl (A a z)) from (hA a z).1) (qoks_t (qoks_t hs))) (hx _ rfl))
        show (match (qH L A)[a]? with
          | some (.inl (t'', n, .inr (.inl f))) => if t'' = 3 then (if Int32.ofInt z < 0 ∨ n ≤ (Int32.ofInt z).toNatClampNeg then none else some (k + 1, ql lo, Value.long (f (Int32.ofInt z).toNatClampNeg) :: r.map qv, qH L A)) else none
          | _ => none) = _
        rw [qH_at e]
        show (if (3 : Nat) = 3 then (if Int32.ofInt z < 0 ∨ n ≤ (Int32.ofInt z).toNatClampNeg then none else some (k + 1, ql lo, Value.long (Int64.ofInt (A a ((Int32.ofInt z).toNatClampNeg : Nat))) :: r.map qv, qH L A)) else none) = _
        rw [if_pos rfl, if_neg (iI_in hz0 hz1 (by omega)), iI_clamp hz0 (by omega), show ((z.toNat : Nat) : Int) = z by omega]; rfl
      · exact hx.elim
    · exact hx.elim
  | iastore =>
    simp only [qx, qast] at hx
    split at hx
    · next t x b z a r =>
      split at hx
      · next n ks e =>
        obtain ⟨hb, ⟨hz0, hz1⟩, hx⟩ := bif_p hx
        obtain ⟨v, v1, v2, v3⟩ := qput_p (qoks_h hs) hx
        exact qast_ok (b := b) (g := fun x => x) hn hr hA hl (qoks_t (qoks_t (qoks_t hs))) e hz0 hz1 (blt_p hb) v1 v2 (v3 _ rfl) (fun _ => rfl) (fun _ _ => rfl) (fun _ _ _ => rfl)
      · exact hx.elim
    · exact hx.elim
  | bastore =>
    simp only [qx] at hx
    split at hx
    · unfold qbst at hx
      split at hx
      · next b y b' z a r =>
        split at hx
        · next t n ks e =>
          obtain ⟨hb, ⟨hz0, hz1⟩, hp, hx⟩ := bif_p hx
          simp only [Bool.and_eq_true] at hb
          rw [beq_p hb.1] at e
          exact qast_ok (b := b) (g := vp_nar .boolean) hn hr hA hl (qoks_t (qoks_t (qoks_t hs))) e hz0 hz1 (blt_p hb.2) ⟨by omega, by omega⟩ (nar1 hp).symm (hx _ rfl) (fun _ => rfl) (fun _ _ => rfl) (fun _ _ _ => rfl)
        · exact hx.elim
      · exact hx.elim
    · unfold qbst at hx
      split at hx
      · next b y b' z a r =>
        split at hx
        · next t n ks e =>
          obtain ⟨hb, ⟨hz0, hz1⟩, hp, hx⟩ := bif_p hx
          simp only [Bool.and_eq_true] at hb
          rw [beq_p hb.1] at e
          exact qast_ok (b := b) (g := vp_nar .byte) hn hr hA hl (qoks_t (qoks_t (qoks_t hs))) e hz0 hz1 (blt_p hb.2) ⟨by omega, by omega⟩ (nar2 hp).symm (hx _ rfl) (fun _ => rfl) (fun _ _ => rfl) (fun _ _ _ => rfl)
        · exact hx.elim
      · exact hx.elim
    · exact hx.elim
  | lastore =>
    simp only [qx] at hx
    split at hx
    · next v b z a r =>
      split at hx
      · next n ks e =>
        obtain ⟨hb, ⟨hz0, hz1⟩, hx⟩ := bif_p hx
        have hn' := blt_p hb
        have hv : rngL v := qoks_h hs
        have hlg : ∀ j : Int, qlng L a j = true := fun j => by unfold qlng; rw [e]; rfl
        refine wG_step hr rfl rfl (k' := k + 1) (lo' := ql lo) (st' := r.map qv) (h1 := qH L (qu A a z v)) ?_ (hn _ _ _ _ (qokA_qu hA hv (fun q => by rw [hlg] at q; cases q)) hl (qoks_t (qoks_t (qoks_t hs))) (hx _ rfl))
        show (match (qH L A)[a]? with
          | some (.inl (t'', n, .inr (.inl f))) => if t'' = 3 then (if Int32.ofInt z < 0 ∨ n ≤ (Int32.ofInt z).toNatClampNeg then none else some (k + 1, ql lo, r.map qv, (qH L A).set a (.inl (t'', n, .inr (.inl (vp_updL f (Int32.ofInt z).toNatClampNeg (Int64.ofInt v))))))) else none
          | _ => none) = _
        rw [qH_at e]
        show (if (3 : Nat) = 3 then (if Int32.ofInt z < 0 ∨ n ≤ (Int32.ofInt z).toNatClampNeg then none else some (k + 1, ql lo, r.map qv, (qH L A).set a (.inl (3, n, .inr (.inl (vp_updL (fun j : Nat => Int64.ofInt (A a j)) (Int32.ofInt z).toNatClampNeg (Int64.ofInt v))))))) else none) = _
        rw [if_pos rfl, if_neg (iI_in hz0 hz1 (by omega)), iI_clamp hz0 (by omega), qu_updL hz0 rfl, qH_set (A' := qu A a z v) (e := .inl (3, n, .inr (.inl (fun k : Nat => Int64.ofInt (qu A a z v a k))))) e rfl (fun b hb => qu_ne hb)]
      · exact hx.elim
    · exact hx.elim
  | arraylength =>
    simp only [qx] at hx
    split at hx
    · next a r =>
      split at hx
      · next n ks e =>
        obtain ⟨hb, hx⟩ := bif_p hx
        have hn' := blt_p hb
        refine wG_step hr rfl rfl (k' := k + 1) (lo' := ql lo) (st' := qv (ni n) :: r.map qv) (h1 := qH L A) ?_ (hn _ _ _ _ hA hl (qoks_c (show qok (ni n) from ⟨by omega, by omega⟩) (qoks_t hs)) hx)
        show (match (qH L A)[a]? with
          | some (.inl (t', n, _)) => if t' < 4 then some (k + 1, ql lo, Value.int (Int32.ofNat n) :: r.map qv, qH L A) else none
          | _ => none) = _
        rw [qH_at e]; rfl
      · exact hx.elim
    · exact hx.elim
  | invokestatic idx =>
    simp only [qx] at hx
    split at hx
    · next ty y tx x r =>
      obtain ⟨hc, hx⟩ := bif_p hx
      obtain ⟨x', h1, e1, hx⟩ := qput_p (qoks_h (qoks_t hs)) hx
      obtain ⟨y', h2, e2, hx⟩ := qput_p (qoks_h hs) hx
      refine wG_step hr rfl rfl (k' := k + 1) (lo' := ql lo) (st' := .int (Int32.ofInt (max x' y')) :: r.map qv) (h1 := qH L A) ?_ (hn _ _ _ _ hA hl (qoks_c (show qok (ni _) from max_rng h1 h2) (qoks_t (qoks_t hs))) (hx _ rfl))
      show (if pv_cat (r.map qv) ≤ 8 then some (k + 1, ql lo, Value.int (if Int32.ofInt x < Int32.ofInt y then Int32.ofInt y else Int32.ofInt x) :: r.map qv, qH L A) else none) = _
      rw [if_pos (by rw [qcats_p]; exact Nat.le_of_ble_eq_true hc), ← e1, ← e2, max_of h1 h2]
    · next ty y tx x r =>
      obtain ⟨hc, hx⟩ := bif_p hx
      obtain ⟨x', h1, e1, hx⟩ := qput_p (qoks_h (qoks_t hs)) hx
      obtain ⟨y', h2, e2, hx⟩ := qput_p (qoks_h hs) hx
      refine wG_step hr rfl rfl (k' := k + 1) (lo' := ql lo) (st' := .int (Int32.ofInt (min x' y')) :: r.map qv) (h1 := qH L A) ?_ (hn _ _ _ _ hA hl (qoks_c (show qok (ni _) from min_rng h1 h2) (qoks_t (qoks_t hs))) (hx _ rfl))
      show (if pv_cat (r.map qv) ≤ 8 then some (k + 1, ql lo, Value.int (if Int32.ofInt y < Int32.ofInt x then Int32.ofInt y else Int32.ofInt x) :: r.map qv, qH L A) else none) = _
      rw [if_pos (by rw [qcats_p]; exact Nat.le_of_ble_eq_true hc), ← e1, ← e2, min_of h1 h2]
    · next tx x r =>
      obtain ⟨hc, hx⟩ := bif_p hx
      obtain ⟨x', h1, e1, h2, hx⟩ := qput_p (qoks_h hs) hx
      refine wG_step hr rfl rfl (k' := k + 1) (lo' := ql lo) (st' := .int (Int32.ofInt (if 0 ≤ x' then x' else -x')) :: r.map qv) (h1 := qH L A) ?_ (hn _ _ _ _ hA hl (qoks_c (show qok (ni _) from ?_) (qoks_t hs)) (hx _ rfl))
      · show (if pv_cat (r.map qv) ≤ 8 then some (k + 1, ql lo, Value.int (if 0 ≤ Int32.ofInt x then Int32.ofInt x else 0 - Int32.ofInt x) :: r.map qv, qH L A) else none) = _
        rw [if_pos (by rw [qcats_p]; exact Nat.le_of_ble_eq_true hc), ← e1, abs_of h1]
      · show rng _
        split
        · exact h1
        · exact ⟨by have := h1.2; omega, by omega⟩
    · next b1 n b2 dp a b3 sp a0 r =>
      split at hx
      · next n0 k0 n1 k1 e0 e1 =>
        obtain ⟨hc, ⟨⟨hs0, hd0, hn0⟩, hs1, hd1⟩, hx⟩ := bif_p hx
        simp only [Bool.and_eq_true] at hc
        have hb0 := blt_p hc.1.2
        have hb1 := blt_p hc.2
        refine wG_step hr rfl rfl (k' := k + 1) (lo' := ql lo) (st' := r.map qv) (h1 := qH L (qcpy A a0 sp a dp n)) ?_ (hn _ _ _ _ (qokA_cpy e0 e1 hA) hl (qoks_t (qoks_t (qoks_t (qoks_t (qoks_t hs))))) (hx _ rfl))
        show (match (qH L A)[a0]?, (qH L A)[a]? with
          | some (.inl (t0, n0, .inl f)), some (.inl (t1, n1, .inl g)) => if t0 = 0 ∧ t1 = 0 ∧ pv_cat (r.map qv) ≤ 8 ∧ ¬ Int32.ofInt sp < 0 ∧ ¬ Int32.ofInt dp < 0 ∧ ¬ Int32.ofInt n < 0 ∧ (Int32.ofInt sp).toNatClampNeg + (Int32.ofInt n).toNatClampNeg ≤ n0 ∧ (Int32.ofInt dp).toNatClampNeg + (Int32.ofInt n).toNatClampNeg ≤ n1 then
              some (k + 1, ql lo, r.map qv, (qH L A).set a (.inl (t1, n1, .inl (va_cpy f g (Int32.ofInt sp).toNatClampNeg (Int32.ofInt dp).toNatClampNeg (Int32.ofInt n).toNatClampNeg)))) else none
          | _, _ => none) = _
        rw [qH_at e0, qH_at e1]
        have nn : ∀ z : Int, 0 ≤ z → z < 2147483648 → ¬ Int32.ofInt z < 0 := by
          intro z h0 h1
          rw [Int32.lt_iff_toInt_lt, iI_to ⟨by omega, by omega⟩]
          have : (0 : Int32).toInt = 0 := rfl
          omega
        show (if 0 = 0 ∧ 0 = 0 ∧ pv_cat (r.map qv) ≤ 8 ∧ ¬ Int32.ofInt sp < 0 ∧ ¬ Int32.ofInt dp < 0 ∧ ¬ Int32.ofInt n < 0 ∧ (Int32.ofInt sp).toNatClampNeg + (Int32.ofInt n).toNatClampNeg ≤ n0 ∧ (Int32.ofInt dp).toNatClampNeg + (Int32.ofInt n).toNatClampNeg ≤ n1 then
              some (k + 1, ql lo, r.map qv, (qH L A).set a (.inl (0, n1, .inl (va_cpy (fun j : Nat => Int32.ofInt (A a0 j)) (fun j : Nat => Int32.ofInt (A a j)) (Int32.ofInt sp).toNatClampNeg (Int32.ofInt dp).toNatClampNeg (Int32.ofInt n).toNatClampNeg)))) else none) = _
        rw [iI_clamp hs0 (by omega), iI_clamp hd0 (by omega), iI_clamp hn0 (by omega)]
        rw [if_pos ⟨rfl, rfl, by rw [qcats_p]; exact Nat.le_of_ble_eq_true hc.1.1, nn _ hs0 (by omega), nn _ hd0 (by omega), nn _ hn0 (by omega), by omega, by omega⟩]
        rw [qH_set (A' := qcpy A a0 sp a dp n) e1 ?_ (fun b hb => funext (fun j => if_neg (fun q => hb q.1)))]
        show Sum.inl (0, n1, Sum.inl (fun j : Nat => Int32.ofInt (qcpy A a0 sp a dp n a j))) = _
        congr 3
        congr 1
        funext j
        unfold va_cpy qcpy
        by_cases hj : dp.toNat ≤ j ∧ j < dp.toNat + n.toNat
        · rw [if_pos hj, if_pos ⟨rfl, by omega, by omega⟩]
          congr 2
          omega
        · rw [if_neg hj, if_neg (fun q => hj (by omega))]
      · exact hx.elim
    · exact hx.elim
  | _ => exact hx.elim
end QXOK2
