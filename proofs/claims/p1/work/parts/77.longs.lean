/-! LONGS: their bits and their count, in the machine -/
theorem lw_tb (n : Nat) : (Int64.ofNat n).toBitVec = BitVec.ofNat 64 n := rfl
theorem lw_inj {a b : Int64} (h : a.toBitVec = b.toBitVec) : a = b := Int64.toBitVec_inj.mp h
theorem lw_of (c : Int64) : ∃ N, N < 18446744073709551616 ∧ c = Int64.ofNat N := by
  refine ⟨c.toBitVec.toNat, c.toBitVec.isLt, lw_inj ?_⟩
  rw [lw_tb, BitVec.ofNat_toNat, BitVec.setWidth_eq]
theorem lw_and (a b : Nat) : Int64.ofNat a &&& Int64.ofNat b = Int64.ofNat (a &&& b) := by
  apply lw_inj
  rw [Int64.toBitVec_and, lw_tb, lw_tb, lw_tb]
  apply BitVec.eq_of_toNat_eq
  rw [BitVec.toNat_and, BitVec.toNat_ofNat, BitVec.toNat_ofNat, BitVec.toNat_ofNat, Nat.and_mod_two_pow]
theorem lw_k : ∀ k < 64, ((Int32.ofInt ((k : Nat) : Int)).toInt64.toUInt64 &&& Int64.toUInt64 63).toBitVec % 64 = BitVec.ofNat 64 k := by decide +kernel
theorem lw_ks : ∀ k < 64, (((Int32.ofInt ((k : Nat) : Int)).toInt64 &&& 63).toBitVec.smod 64) = BitVec.ofNat 64 k := by decide +kernel
theorem lw_shr {n k : Nat} (hn : n < 18446744073709551616) (hk : k < 64) : ((Int64.ofNat n).toUInt64 >>> ((Int32.ofInt ((k : Nat) : Int)).toInt64.toUInt64 &&& Int64.toUInt64 63)).toInt64 = Int64.ofNat (n / 2 ^ k) := by
  apply lw_inj
  rw [UInt64.toBitVec_toInt64, UInt64.toBitVec_shiftRight, lw_k k hk, Int64.toBitVec_toUInt64, lw_tb, lw_tb]
  apply BitVec.eq_of_toNat_eq
  have e1 : (BitVec.ofNat 64 k).toNat = k := by rw [BitVec.toNat_ofNat]; exact Nat.mod_eq_of_lt (by omega)
  have h2 : n / 2 ^ k ≤ n := Nat.div_le_self _ _
  show (BitVec.ofNat 64 n >>> (BitVec.ofNat 64 k).toNat).toNat = _
  rw [e1, BitVec.toNat_ushiftRight, BitVec.toNat_ofNat, BitVec.toNat_ofNat, Nat.mod_eq_of_lt (show n < 2 ^ 64 by omega), Nat.mod_eq_of_lt (show n / 2 ^ k < 2 ^ 64 by omega), Nat.shiftRight_eq_div_pow]
theorem lw_ssh {n k : Nat} (hn : n < 9223372036854775808) (hk : k < 64) : Int64.ofNat n >>> ((Int32.ofInt ((k : Nat) : Int)).toInt64 &&& 63) = Int64.ofNat (n / 2 ^ k) := by
  apply lw_inj
  rw [Int64.toBitVec_shiftRight, lw_ks k hk, lw_tb, lw_tb]
  apply BitVec.eq_of_toNat_eq
  have e1 : (BitVec.ofNat 64 k).toNat = k := by rw [BitVec.toNat_ofNat]; exact Nat.mod_eq_of_lt (by omega)
  have h2 : n / 2 ^ k ≤ n := Nat.div_le_self _ _
  have hm : (BitVec.ofNat 64 n).msb = false := by
    rw [BitVec.msb_eq_decide, decide_eq_false_iff_not, BitVec.toNat_ofNat, Nat.mod_eq_of_lt (show n < 2 ^ 64 by omega)]
    show ¬ 2 ^ 63 ≤ n
    omega
  show ((BitVec.ofNat 64 n).sshiftRight (BitVec.ofNat 64 k).toNat).toNat = _
  rw [e1, BitVec.sshiftRight_eq_of_msb_false hm, BitVec.toNat_ushiftRight, BitVec.toNat_ofNat, BitVec.toNat_ofNat, Nat.mod_eq_of_lt (show n < 2 ^ 64 by omega), Nat.mod_eq_of_lt (show n / 2 ^ k < 2 ^ 64 by omega), Nat.shiftRight_eq_div_pow]
theorem lw_eq {a b : Nat} (ha : a < 18446744073709551616) (hb : b < 18446744073709551616) : Int64.ofNat a = Int64.ofNat b ↔ a = b := by
  refine ⟨fun h => ?_, fun h => by rw [h]⟩
  have h1 : (Int64.ofNat a).toBitVec.toNat = (Int64.ofNat b).toBitVec.toNat := by rw [h]
  rw [lw_tb, lw_tb, BitVec.toNat_ofNat, BitVec.toNat_ofNat, Nat.mod_eq_of_lt (show a < 2 ^ 64 by omega), Nat.mod_eq_of_lt (show b < 2 ^ 64 by omega)] at h1
  exact h1
theorem lw_1 (n k : Nat) : (n / 2 ^ k) &&& 1 = if n.testBit k = true then 1 else 0 := by
  rw [Nat.and_one_is_mod]
  have h : (n / 2 ^ k) % 2 = (n.testBit k).toNat := by rw [Nat.testBit_eq_decide_div_mod_eq]; simp only [Bool.toNat]; have := Nat.mod_two_eq_zero_or_one (n / 2 ^ k); rcases this with h | h <;> rw [h] <;> rfl
  rw [h]
  cases n.testBit k <;> rfl
theorem lg_e (x y : Int64) : lg_cmp x y = Int32.ofInt (if x = y then 0 else if y.toInt < x.toInt then 1 else -1) := by
  unfold lg_cmp
  by_cases h : x = y
  · subst h
    rw [if_neg (fun q : x > x => by have := Int64.lt_iff_toInt_lt.mp q; omega), if_pos rfl, if_pos rfl]
    rfl
  · by_cases h2 : y.toInt < x.toInt
    · rw [if_pos (show x > y from Int64.lt_iff_toInt_lt.mpr h2), if_neg h, if_pos h2]; rfl
    · rw [if_neg (fun q : x > y => h2 (Int64.lt_iff_toInt_lt.mp q)), if_neg h, if_neg h, if_neg h2]; rfl
def w1 (x : Int64) : Int64 := x - ((x.toUInt64 >>> ((Int32.ofInt ((1 : Nat) : Int)).toInt64.toUInt64 &&& Int64.toUInt64 63)).toInt64 &&& Int64.ofNat 6148914691236517205)
def w2 (x : Int64) : Int64 := (x &&& Int64.ofNat 3689348814741910323) + ((x.toUInt64 >>> ((Int32.ofInt ((2 : Nat) : Int)).toInt64.toUInt64 &&& Int64.toUInt64 63)).toInt64 &&& Int64.ofNat 3689348814741910323)
def w3 (x : Int64) : Int64 := (x + (x.toUInt64 >>> ((Int32.ofInt ((4 : Nat) : Int)).toInt64.toUInt64 &&& Int64.toUInt64 63)).toInt64) &&& Int64.ofNat 1085102592571150095
def w4 (k : Nat) (x : Int64) : Int64 := x + (x.toUInt64 >>> ((Int32.ofInt ((k : Nat) : Int)).toInt64.toUInt64 &&& Int64.toUInt64 63)).toInt64
theorem w1_is {n : Nat} (h : n < 1000000000000000) : w1 (Int64.ofNat n) = Int64.ofNat (s1 6148914691236517205 n) := by
  unfold w1 s1
  rw [lw_shr (by omega) (by decide), lw_and, Int64.ofNat_sub]
  exact Nat.le_trans Nat.and_le_left (by omega)
theorem w2_is {n : Nat} (h : n < 1000000000000000) : w2 (Int64.ofNat n) = Int64.ofNat (s2 3689348814741910323 n) := by
  unfold w2 s2
  rw [lw_shr (by omega) (by decide), lw_and, lw_and, Int64.ofNat_add]
theorem w3_is {n : Nat} (h : n < 1000000000000000) : w3 (Int64.ofNat n) = Int64.ofNat (s3 1085102592571150095 n) := by
  unfold w3 s3
  rw [lw_shr (by omega) (by decide), ← Int64.ofNat_add, lw_and]
theorem w4_is {n k : Nat} (h : n < 100000000000000000) (hk : k < 64) : w4 k (Int64.ofNat n) = Int64.ofNat (n + n / 2 ^ k) := by
  unfold w4
  rw [lw_shr (by omega) hk, Int64.ofNat_add]
theorem w_127 (n : Nat) : (Int64.ofNat n).toInt32 &&& Int32.ofInt 127 = Int32.ofInt ((n % 128 : Nat) : Int) := by
  apply Int32.toBitVec_inj.mp
  have e1 : (Int64.ofNat n).toInt32.toBitVec = BitVec.ofNat 32 n := by
    show (BitVec.ofNat 64 n).signExtend 32 = _
    rw [BitVec.signExtend_eq_setWidth_of_le _ (by decide)]
    apply BitVec.eq_of_toNat_eq
    rw [BitVec.toNat_setWidth, BitVec.toNat_ofNat, BitVec.toNat_ofNat]
    omega
  have e2 : (Int32.ofInt ((n % 128 : Nat) : Int)).toBitVec = BitVec.ofNat 32 (n % 128) := by
    rw [Int32.ofInt_eq_ofNat]; rfl
  rw [Int32.toBitVec_and, e1, e2]
  apply BitVec.eq_of_toNat_eq
  rw [BitVec.toNat_and, BitVec.toNat_ofNat, BitVec.toNat_ofNat]
  show n % 2 ^ 32 &&& (2 ^ 7 - 1) = _
  rw [Nat.and_two_pow_sub_one_eq_mod]
  omega
theorem pop_w {n : Nat} (h : n < 281474976710656) : (w4 32 (w4 16 (w4 8 (w3 (w2 (w1 (Int64.ofNat n))))))).toInt32 &&& Int32.ofInt 127 = Int32.ofInt ((popN n : Nat) : Int) := by
  have b1 : s1 6148914691236517205 n ≤ n := Nat.sub_le _ _
  have b2 : s2 3689348814741910323 (s1 6148914691236517205 n) ≤ 2 * n := by
    unfold s2
    have h1 := Nat.and_le_left (n := s1 6148914691236517205 n) (m := 3689348814741910323)
    have h2 := Nat.and_le_left (n := s1 6148914691236517205 n / 4) (m := 3689348814741910323)
    omega
  have b3 : s3 1085102592571150095 (s12 6148914691236517205 3689348814741910323 n) ≤ 4 * n := by
    unfold s3
    have b2' : s12 6148914691236517205 3689348814741910323 n ≤ 2 * n := b2
    refine Nat.le_trans Nat.and_le_left ?_
    omega
  rw [w1_is (by omega), w2_is (by omega), w3_is (by omega)]
  show (w4 32 (w4 16 (w4 8 (Int64.ofNat (s3 1085102592571150095 (s12 6148914691236517205 3689348814741910323 n)))))).toInt32 &&& _ = _
  rw [w4_is (by omega) (by decide), w4_is (by omega) (by decide), w4_is (by omega) (by decide), w_127]
  rfl
theorem lg_b {n k : Nat} (hn : n < 18446744073709551616) (hk : k < 64) : lg_cmp (((Int64.ofNat n).toUInt64 >>> ((Int32.ofInt ((k : Nat) : Int)).toInt64.toUInt64 &&& Int64.toUInt64 63)).toInt64 &&& Int64.ofNat 1) (Int64.ofNat 0) = Int32.ofInt (if n.testBit k = true then 1 else 0) := by
  rw [lw_shr hn hk, lw_and, lw_1, lg_e]
  cases n.testBit k <;> decide
theorem lg_bs {n k : Nat} (hn : n < 9223372036854775808) (hk : k < 64) : lg_cmp ((Int64.ofNat n >>> ((Int32.ofInt ((k : Nat) : Int)).toInt64 &&& 63)) &&& Int64.ofNat 1) (Int64.ofNat 0) = Int32.ofInt (if n.testBit k = true then 1 else 0) := by
  rw [lw_ssh hn hk, lw_and, lw_1, lg_e]
  cases n.testBit k <;> decide
theorem lg_48 {n : Nat} (hn : n < 18446744073709551616) : lg_cmp ((Int64.ofNat n).toUInt64 >>> ((Int32.ofInt ((48 : Nat) : Int)).toInt64.toUInt64 &&& Int64.toUInt64 63)).toInt64 (Int64.ofNat 0) = Int32.ofInt (if n < 281474976710656 then 0 else 1) := by
  rw [lw_shr hn (by decide), lg_e]
  have e : n / 2 ^ 48 < 65536 := by omega
  by_cases h : n < 281474976710656
  · have : n / 2 ^ 48 = 0 := by omega
    rw [this, if_pos rfl, if_pos h]
  · have h1 : ¬ n / 2 ^ 48 = 0 := by omega
    rw [if_neg (fun q => h1 ((lw_eq (by omega) (by decide)).mp q)), if_neg h, Int64.toInt_ofNat_of_lt (show n / 2 ^ 48 < 2 ^ 63 by omega), Int64.toInt_ofNat_of_lt (by decide), if_pos (by omega)]
theorem wG_as {d : Nat} {rows : List pv_R} {k : Nat} {lo : pv_L} {st r : List Value} {h : pv_H} {Q : Option Value → pv_H → Prop} {x y : Int32} (e : st = .int x :: r) (e2 : x = y) (kk : wG d rows k lo (.int y :: r) h Q) : wG d rows k lo st h Q := by
  rw [e, e2]
  exact kk
section LB
variable {D : Nat} {h : pv_H}
theorem bitCount_W (n : Nat) : wR (D + 1) 249 [.long (Int64.ofNat n)] h (fun v h1 => ∃ x : Int32, v = some (.int x) ∧ h1 = h ∧ (n < 281474976710656 → x = Int32.ofInt ((cnt (fun k => n.testBit k) 48 : Nat) : Int))) := by
  refine wR_in (M := mJ13_bitCount_95d88) rfl (Nat.le_of_ble_eq_true rfl) ?_
  refine wG_step rfl rfl rfl rfl ?_
  refine wG_step rfl rfl rfl rfl ?_
  refine wG_step rfl rfl rfl rfl ?_
  refine wG_step rfl rfl rfl rfl ?_
  refine wG_step rfl rfl rfl rfl ?_
  refine wG_step rfl rfl rfl rfl ?_
  refine wG_step rfl rfl rfl rfl ?_
  refine wG_step rfl rfl rfl rfl ?_
  refine wG_step rfl rfl rfl rfl ?_
  refine wG_step rfl rfl rfl rfl ?_
  refine wG_step rfl rfl rfl rfl ?_
  refine wG_step rfl rfl rfl rfl ?_
  refine wG_step rfl rfl rfl rfl ?_
  refine wG_step rfl rfl rfl rfl ?_
  refine wG_step rfl rfl rfl rfl ?_
  refine wG_step rfl rfl rfl rfl ?_
  refine wG_step rfl rfl rfl rfl ?_
  refine wG_step rfl rfl rfl rfl ?_
  refine wG_step rfl rfl rfl rfl ?_
  refine wG_step rfl rfl rfl rfl ?_
  refine wG_step rfl rfl rfl rfl ?_
  refine wG_step rfl rfl rfl rfl ?_
  refine wG_step rfl rfl rfl rfl ?_
  refine wG_step rfl rfl rfl rfl ?_
  refine wG_step rfl rfl rfl rfl ?_
  refine wG_step rfl rfl rfl rfl ?_
  refine wG_step rfl rfl rfl rfl ?_
  refine wG_step rfl rfl rfl rfl ?_
  refine wG_bip rfl rfl ?_
  refine wG_step rfl rfl rfl rfl ?_
  refine wG_step rfl rfl rfl rfl ?_
  refine wG_step rfl rfl rfl rfl ?_
  refine wG_step rfl rfl rfl rfl ?_
  refine wG_step rfl rfl rfl rfl ?_
  refine wG_bip rfl rfl ?_
  refine wG_step rfl rfl rfl rfl ?_
  refine wG_step rfl rfl rfl rfl ?_
  refine wG_step rfl rfl rfl rfl ?_
  refine wG_step rfl rfl rfl rfl ?_
  refine wG_step rfl rfl rfl rfl ?_
  refine wG_bip rfl rfl ?_
  refine wG_step rfl rfl rfl rfl ?_
  refine wG_step rfl rfl rfl rfl ?_
  refine wG_step rfl rfl rfl rfl ?_
  refine wG_step rfl rfl rfl rfl ?_
  refine wG_step rfl rfl rfl rfl ?_
  refine wG_bip rfl rfl ?_
  refine wG_step rfl rfl rfl rfl ?_
  refine wG_ret rfl rfl ?_
  refine ⟨_, rfl, rfl, fun hn => ?_⟩
  rw [← popN_is hn]
  exact pop_w hn
theorem isTold_W {n k : Nat} (hn : n < 18446744073709551616) (hk : k < 64) : wR (D + 1) 142 [.long (Int64.ofNat n), .int (Int32.ofInt (k : Nat))] h (is0 h (if n.testBit k = true then 1 else 0)) := by
  refine wR_in (M := mX11_isTold) rfl (Nat.le_of_ble_eq_true rfl) ?_
  refine wG_step rfl rfl rfl rfl ?_
  refine wG_step rfl rfl rfl rfl ?_
  refine wG_step rfl rfl rfl rfl ?_
  refine wG_step rfl rfl rfl rfl ?_
  refine wG_step rfl rfl rfl rfl ?_
  refine wG_step rfl rfl rfl rfl ?_
  refine wG_step rfl rfl rfl rfl ?_
  refine wG_as rfl (lg_b hn hk) ?_
  cases ht : n.testBit k with
  | true =>
    refine wG_c1f rfl ⟨by decide, by decide⟩ (by show ¬ (1 : Int) = 0; decide) ?_
    refine wG_step rfl rfl rfl rfl ?_
    refine wG_step rfl rfl rfl rfl ?_
    refine wG_ret rfl rfl ?_
    exact ⟨rfl, rfl⟩
  | false =>
    refine wG_c1t rfl ⟨by decide, by decide⟩ rfl ?_
    refine wG_step rfl rfl rfl rfl ?_
    refine wG_ret rfl rfl ?_
    exact ⟨rfl, rfl⟩
/-- what the class takes the bits for -/
def nT (n : Nat) : Nat := if n < 281474976710656 ∧ cnt (fun k => n.testBit k) 48 ≤ 8 then cnt (fun k => n.testBit k) 48 else 0
theorem toldCells_W {n : Nat} (hn : n < 18446744073709551616) : wR (D + 2) 143 [.long (Int64.ofNat n), .int (Int32.ofInt 8)] h (is0 h (nT n : Nat)) := by
  refine wR_in (M := mX11_toldCells) rfl (Nat.le_of_ble_eq_true rfl) ?_
  refine wG_step rfl rfl rfl rfl ?_
  refine wG_call rfl rfl rfl (wR_mono (fun v h1 q => ?_) (bitCount_W n))
  obtain ⟨x, rfl, rfl, hx⟩ := q
  refine wG_step rfl rfl rfl rfl ?_
  refine wG_step rfl rfl rfl rfl ?_
  refine wG_bip rfl rfl ?_
  refine wG_step rfl rfl rfl rfl ?_
  refine wG_step rfl rfl rfl rfl ?_
  refine wG_step rfl rfl rfl rfl ?_
  refine wG_as rfl (lg_48 hn) ?_
  have hc := cnt_le (fun k => n.testBit k) 48
  by_cases h48 : n < 281474976710656
  · rw [if_pos h48]
    have hx := hx h48
    subst hx
    refine wG_c1f rfl ⟨by decide, by decide⟩ (by show ¬ (0 : Int) ≠ 0; decide) ?_
    refine wG_step rfl rfl rfl rfl ?_
    refine wG_step rfl rfl rfl rfl ?_
    refine wG_c2 rfl (rng_n (by omega)) ⟨by decide, by decide⟩ (fun c => ?_) (fun c => ?_)
    · have c1 : ((cnt (fun k => n.testBit k) 48 : Nat) : Int) ≤ 8 := c
      refine wG_step rfl rfl rfl rfl ?_
      refine wG_ret rfl rfl ?_
      refine ⟨?_, rfl⟩
      unfold nT
      rw [if_pos ⟨h48, by omega⟩]
    · have c1 : ¬ ((cnt (fun k => n.testBit k) 48 : Nat) : Int) ≤ 8 := c
      refine wG_step rfl rfl rfl rfl ?_
      refine wG_step rfl rfl rfl rfl ?_
      refine wG_ret rfl rfl ?_
      refine ⟨?_, rfl⟩
      unfold nT
      rw [if_neg (fun q => c1 (by omega))]
      rfl
  · rw [if_neg h48]
    refine wG_c1t rfl ⟨by decide, by decide⟩ (by show (1 : Int) ≠ 0; decide) ?_
    refine wG_step rfl rfl rfl rfl ?_
    refine wG_step rfl rfl rfl rfl ?_
    refine wG_ret rfl rfl ?_
    refine ⟨?_, rfl⟩
    unfold nT
    rw [if_neg (fun q => h48 q.1)]
    rfl
end LB
