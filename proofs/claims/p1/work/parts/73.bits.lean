/-! BITS IN THE CALCULUS: sets of up to eight as numbers -/
def bt (d i : Nat) : Int := if d.testBit i = true then 1 else 0
theorem bt_rng (d i : Nat) : rng (bt d i) := by unfold bt; split <;> exact ⟨by decide, by decide⟩
theorem bt_0 {d i : Nat} : bt d i = 0 ↔ d.testBit i = false := by
  unfold bt
  cases d.testBit i <;> simp
theorem bt_1 {d i : Nat} : bt d i = 1 ↔ d.testBit i = true := by
  unfold bt
  cases d.testBit i <;> simp
set_option maxRecDepth 4000 in
theorem bt_sh : ∀ d < 256, ∀ i < 9, (Int32.ofInt (d : Nat) >>> (Int32.ofInt (i : Nat) &&& 31)) &&& Int32.ofInt 1 = Int32.ofInt (bt d i) := by decide +kernel
theorem bt_shl : ∀ i < 9, Int32.ofInt 1 <<< (Int32.ofInt (i : Nat) &&& 31) = Int32.ofInt ((2 ^ i : Nat) : Int) := by decide +kernel
set_option maxRecDepth 4000 in
theorem bt_ior : ∀ d < 256, ∀ i < 8, Int32.ofInt (d : Nat) ||| Int32.ofInt ((2 ^ i : Nat) : Int) = Int32.ofInt ((d ||| 2 ^ i : Nat) : Int) := by decide +kernel
set_option maxRecDepth 4000 in
theorem bt_ah : ∀ d < 256, ∀ i < 8, Int32.ofInt ((2 ^ i : Nat) : Int) &&& (Int32.ofInt (d : Nat) ^^^ Int32.ofInt (-1)) = Int32.ofInt (if d.testBit i = true then 0 else ((2 ^ i : Nat) : Int)) := by decide +kernel
theorem bt_ah0 : ∀ d < 256, Int32.ofInt 0 &&& (Int32.ofInt (d : Nat) ^^^ Int32.ofInt (-1)) = Int32.ofInt 0 := by decide +kernel
theorem bt_r6 : ∀ z < 48, Int32.ofInt (z : Nat) - Int32.ofInt (z : Nat) / (Int8.ofInt 6).toInt32 * (Int8.ofInt 6).toInt32 = Int32.ofInt ((z % 6 : Nat) : Int) := by decide +kernel
theorem bt_d6 : ∀ z < 48, Int32.ofInt (z : Nat) / (Int8.ofInt 6).toInt32 = Int32.ofInt ((z / 6 : Nat) : Int) := by decide +kernel
section WGB
variable {d : Nat} {rows : List pv_R} {k : Nat} {lo : pv_L} {st : List Value} {h : pv_H} {Q : Option Value → pv_H → Prop} {O : List (Nat × Nat × List Value)} {L : List (Nat × Nat × Nat)} {N : Nat} {A : Nat → Int → Int}
theorem wG_bt {pc len pc1 len1 pc2 len2 : Nat} {xs ps xs1 ps1 xs2 ps2 : List Nat} {r : List Value} {e i : Nat} (hr : rows[k]? = some (pc, .ishr, len, xs, ps)) (hr1 : rows[k + 1]? = some (pc1, .iconst 1, len1, xs1, ps1)) (hr2 : rows[k + 2]? = some (pc2, .iand, len2, xs2, ps2)) (he : e < 256) (hi : i < 9) (kk : wG d rows (k + 3) lo (.int (Int32.ofInt (bt e i)) :: r) h Q) : wG d rows k lo (.int (Int32.ofInt (i : Nat)) :: .int (Int32.ofInt (e : Nat)) :: r) h Q := by
  refine wG_step hr rfl rfl rfl (wG_step hr1 rfl rfl rfl (wG_step hr2 rfl rfl rfl ?_))
  rw [← bt_sh e he i hi] at kk
  exact kk
theorem wG_shl {pc len : Nat} {xs ps : List Nat} {r : List Value} {i : Nat} (hr : rows[k]? = some (pc, .ishl, len, xs, ps)) (hi : i < 9) (kk : wG d rows (k + 1) lo (.int (Int32.ofInt ((2 ^ i : Nat) : Int)) :: r) h Q) : wG d rows k lo (.int (Int32.ofInt (i : Nat)) :: .int (Int32.ofInt 1) :: r) h Q := by
  refine wG_step hr rfl rfl rfl ?_
  rw [← bt_shl i hi] at kk
  exact kk
theorem wG_or {pc len : Nat} {xs ps : List Nat} {r : List Value} {e i : Nat} (hr : rows[k]? = some (pc, .ior, len, xs, ps)) (he : e < 256) (hi : i < 8) (kk : wG d rows (k + 1) lo (.int (Int32.ofInt ((e ||| 2 ^ i : Nat) : Int)) :: r) h Q) : wG d rows k lo (.int (Int32.ofInt ((2 ^ i : Nat) : Int)) :: .int (Int32.ofInt (e : Nat)) :: r) h Q := by
  refine wG_step hr rfl rfl rfl ?_
  rw [← bt_ior e he i hi] at kk
  exact kk
theorem wG_ah {pc len pc1 len1 pc2 len2 : Nat} {xs ps xs1 ps1 xs2 ps2 : List Nat} {r : List Value} {e i : Nat} {p : Prop} [Decidable p] (hr : rows[k]? = some (pc, .iconst (-1), len, xs, ps)) (hr1 : rows[k + 1]? = some (pc1, .ixor, len1, xs1, ps1)) (hr2 : rows[k + 2]? = some (pc2, .iand, len2, xs2, ps2)) (he : e < 256) (hi : p → i < 8) (kk : wG d rows (k + 3) lo (.int (Int32.ofInt (if p then (if e.testBit i = true then 0 else ((2 ^ i : Nat) : Int)) else 0)) :: r) h Q) : wG d rows k lo (.int (Int32.ofInt (e : Nat)) :: .int (Int32.ofInt (if p then ((2 ^ i : Nat) : Int) else 0)) :: r) h Q := by
  refine wG_step hr rfl rfl rfl (wG_step hr1 rfl rfl rfl (wG_step hr2 rfl rfl rfl ?_))
  by_cases hp : p
  · rw [if_pos hp] at kk ⊢
    rw [← bt_ah e he i (hi hp)] at kk
    exact kk
  · rw [if_neg hp] at kk ⊢
    rw [← bt_ah0 e he] at kk
    exact kk
theorem wG_r6 {pc len pc1 len1 : Nat} {xs ps xs1 ps1 : List Nat} {r : List Value} {z : Nat} (hr : rows[k]? = some (pc, .bipush 6, len, xs, ps)) (hr1 : rows[k + 1]? = some (pc1, .irem, len1, xs1, ps1)) (hz : z < 48) (kk : wG d rows (k + 2) lo (.int (Int32.ofInt ((z % 6 : Nat) : Int)) :: r) h Q) : wG d rows k lo (.int (Int32.ofInt (z : Nat)) :: r) h Q := by
  refine wG_step hr rfl rfl rfl (wG_step hr1 rfl rfl (k' := k + 2) (lo' := lo) (st' := .int (Int32.ofInt (z : Nat) - Int32.ofInt (z : Nat) / (Int8.ofInt 6).toInt32 * (Int8.ofInt 6).toInt32) :: r) (h1 := h) (by simp only [pv_x]; rw [if_neg (by decide)]) ?_)
  rw [← bt_r6 z hz] at kk
  exact kk
theorem wG_d6 {pc len pc1 len1 : Nat} {xs ps xs1 ps1 : List Nat} {r : List Value} {z : Nat} (hr : rows[k]? = some (pc, .bipush 6, len, xs, ps)) (hr1 : rows[k + 1]? = some (pc1, .idiv, len1, xs1, ps1)) (hz : z < 48) (kk : wG d rows (k + 2) lo (.int (Int32.ofInt ((z / 6 : Nat) : Int)) :: r) h Q) : wG d rows k lo (.int (Int32.ofInt (z : Nat)) :: r) h Q := by
  refine wG_step hr rfl rfl rfl (wG_step hr1 rfl rfl (k' := k + 2) (lo' := lo) (st' := .int (Int32.ofInt (z : Nat) / (Int8.ofInt 6).toInt32) :: r) (h1 := h) (by simp only [pv_x]; rw [if_neg (by decide)]) ?_)
  rw [← bt_d6 z hz] at kk
  exact kk
theorem wG_min {pc idx len : Nat} {ps : List Nat} {r : List Value} {a b : Int} (hr : rows[k]? = some (pc, .invokestatic idx, len, [1], ps)) (hc : pv_cat r ≤ 8) (ha : rng a) (hb : rng b) (kk : wG d rows (k + 1) lo (.int (Int32.ofInt (min a b)) :: r) h Q) : wG d rows k lo (.int (Int32.ofInt b) :: .int (Int32.ofInt a) :: r) h Q := by
  have e : Int32.ofInt (min a b) = if Int32.ofInt b < Int32.ofInt a then Int32.ofInt b else Int32.ofInt a := by
    by_cases hlt : b < a
    · rw [if_pos (Int32.lt_iff_toInt_lt.mpr (by rw [iI_to ha, iI_to hb]; exact hlt)), Int.min_eq_right (by omega)]
    · rw [if_neg (fun q => hlt (by have := Int32.lt_iff_toInt_lt.mp q; rw [iI_to ha, iI_to hb] at this; exact this)), Int.min_eq_left (by omega)]
  rw [e] at kk
  exact wG_step hr rfl rfl (if_pos hc) kk
theorem wG_ldv (H : hp O L N h A) (i : Nat) (v : Int) {a n pc len : Nat} {xs ps : List Nat} {z : Int} {r : List Value} (hi : L[i]? = some (a, 0, n)) (hr : rows[k]? = some (pc, .iaload, len, xs, ps)) (hz : 0 ≤ z ∧ z < n ∧ (n : Int) < 2147483648) (hv : A a z = v) (kk : wG d rows (k + 1) lo (.int (Int32.ofInt v) :: r) h Q) : wG d rows k lo (.int (Int32.ofInt z) :: .ref a :: r) h Q := by
  subst hv
  exact wG_lda H i hi hr hz kk
theorem wG_ld1 {pc len idx v : Nat} {ps : List Nat} (hr : rows[k]? = some (pc, .ldc_w idx, len, [v], ps)) (kk : wG d rows (k + 1) lo (.int (Int32.ofInt v) :: st) h Q) : wG d rows k lo st h Q :=
  wG_step hr rfl rfl (k' := k + 1) (lo' := lo) (st' := .int (Int32.ofInt v) :: st) (h1 := h) (by rw [Int32.ofInt_eq_ofNat]; rfl) kk
end WGB
