/-! WHAT THE CONDITIONS SAY IS SO: an instruction -/
def qoks (st : List qV) : Prop := ∀ v ∈ st, qok v
def qokl (lo : qL) : Prop := (∀ q ∈ lo, qok q.2) ∧ (lo.map (fun q => q.1)).Nodup
theorem qnd_set {lo : qL} {i : Nat} {v : qV} {p : Nat × qV → Bool} (h : (lo.map (fun q => q.1)).Nodup) (hp : ∀ q : Nat × qV, p q = true → q.1 ≠ i) : (((i, v) :: lo.filter p).map (fun q => q.1)).Nodup := by
  rw [List.map_cons, List.nodup_cons]
  refine ⟨fun hm => ?_, ?_⟩
  · obtain ⟨q, hq, e⟩ := List.mem_map.mp hm
    exact hp q (List.mem_filter.mp hq).2 e
  · exact List.Sublist.nodup (List.Sublist.map _ List.filter_sublist) h
theorem qokl_1 {lo : qL} {i : Nat} {v : qV} (h : qokl lo) (hv : qok v) : qokl (qset1 lo i v) := ⟨qset1_ok h.1 hv, qnd_set h.2 (fun q hq => by
  simp only [Bool.and_eq_true, Bool.not_eq_true', beq_eq_false_iff_ne] at hq
  exact hq.1)⟩
theorem qokl_2 {lo : qL} {i : Nat} {v : qV} (h : qokl lo) (hv : qok v) : qokl (qset2 lo i v) := ⟨qset2_ok h.1 hv, qnd_set h.2 (fun q hq => by
  simp only [Bool.and_eq_true, Bool.not_eq_true', beq_eq_false_iff_ne] at hq
  exact hq.1)⟩
theorem qoks_c {v : qV} {st : List qV} (hv : qok v) (h : qoks st) : qoks (v :: st) := by
  intro w hw
  rcases List.mem_cons.mp hw with rfl | hw
  · exact hv
  · exact h w hw
theorem qoks_h {v : qV} {st : List qV} (h : qoks (v :: st)) : qok v := h _ List.mem_cons_self
theorem qoks_t {v : qV} {st : List qV} (h : qoks (v :: st)) : qoks st := fun w hw => h w (List.mem_cons_of_mem _ hw)
theorem qpc {cd : Jvm.ClassFile.Cond} {a b : Int} (ha : rng a) (hb : rng b) : pv_cond cd (Int32.ofInt a) (Int32.ofInt b) = true ↔ qc cd a b := by
  cases cd
  · rw [pc_eq, iI_to ha, iI_to hb]; exact Iff.rfl
  · rw [pc_ne, iI_to ha, iI_to hb]; exact Iff.rfl
  · rw [pc_lt, iI_to ha, iI_to hb]; exact Iff.rfl
  · rw [pc_ge, iI_to ha, iI_to hb]; exact Iff.rfl
  · rw [pc_gt, iI_to ha, iI_to hb]; exact Iff.rfl
  · rw [pc_le, iI_to ha, iI_to hb]; exact Iff.rfl
theorem qn_of (v : Nat) : Int32.ofInt (qn v) = Int32.ofNat v := by
  unfold qn
  cases Nat.blt v 2147483648
  · show Int32.ofInt ((v : Int) - 4294967296) = _
    rw [Int32.ofInt_sub, show Int32.ofInt 4294967296 = 0 by decide, Int32.sub_zero]; rfl
  · rfl
theorem qn_rng {v : Nat} (h : v < 4294967296) : rng (qn v) := by
  unfold qn
  cases hb : Nat.blt v 2147483648
  · have : ¬ v < 2147483648 := fun q => by
      have : Nat.blt v 2147483648 = true := Nat.ble_eq_true_of_le q
      rw [this] at hb; cases hb
    exact ⟨by show _ ≤ (v : Int) - 4294967296; omega, by show (v : Int) - 4294967296 < _; omega⟩
  · have := blt_p hb
    exact ⟨by show _ ≤ (v : Int); omega, by show (v : Int) < _; omega⟩
theorem qnL_of (v : Nat) : Int64.ofInt (qnL v) = Int64.ofNat v := by
  unfold qnL
  cases Nat.blt v 9223372036854775808
  · show Int64.ofInt ((v : Int) - 18446744073709551616) = _
    rw [Int64.ofInt_sub, show Int64.ofInt 18446744073709551616 = 0 by decide, Int64.sub_zero]; rfl
  · rfl
theorem qnL_rng {v : Nat} (h : v < 18446744073709551616) : rngL (qnL v) := by
  unfold qnL
  cases hb : Nat.blt v 9223372036854775808
  · have : ¬ v < 9223372036854775808 := fun q => by
      have : Nat.blt v 9223372036854775808 = true := Nat.ble_eq_true_of_le q
      rw [this] at hb; cases hb
    exact ⟨by show _ ≤ (v : Int) - 18446744073709551616; omega, by show (v : Int) - 18446744073709551616 < _; omega⟩
  · have := blt_p hb
    exact ⟨by show _ ≤ (v : Int); omega, by show (v : Int) < _; omega⟩
theorem b8_of {n : Int} (h : qsm 128 n = true) : (Int8.ofInt n).toInt32 = Int32.ofInt n := by
  have := qsm_p h
  apply Int32.toInt_inj.mp
  rw [Int8.toInt_toInt32, iI_to ⟨by omega, by omega⟩, Int8.toInt_ofInt]
  exact Int.bmod_eq_of_le (by have e : Int8.size = 256 := rfl; rw [e]; omega) (by have e : Int8.size = 256 := rfl; rw [e]; omega)
theorem b16_of {n : Int} (h : qsm 32768 n = true) : (Int16.ofInt n).toInt32 = Int32.ofInt n := by
  have := qsm_p h
  apply Int32.toInt_inj.mp
  rw [Int16.toInt_toInt32, iI_to ⟨by omega, by omega⟩, Int16.toInt_ofInt]
  exact Int.bmod_eq_of_le (by have e : Int16.size = 65536 := rfl; rw [e]; omega) (by have e : Int16.size = 65536 := rfl; rw [e]; omega)
theorem qd_of {a b : Int} (ha : rng a) (hb : rng b) : Int32.ofInt a / Int32.ofInt b = Int32.ofInt (qd a b) := by
  apply Int32.toInt_inj.mp
  rw [Int32.toInt_div, iI_to ha, iI_to hb, Int32.toInt_ofInt]; rfl
theorem i_ne0 {b : Int} (hb : rng b) (h : b ≠ 0) : Int32.ofInt b ≠ 0 := by
  intro q
  apply h
  have := congrArg Int32.toInt q
  rw [iI_to hb] at this
  exact this
theorem l_ne0 {b : Int} (hb : rngL b) (h : b ≠ 0) : Int64.ofInt b ≠ 0 := by
  intro q
  apply h
  have := congrArg Int64.toInt q
  rw [iL_to hb] at this
  exact this
theorem qm_of {a b : Int} (ha : rng a) (hb : rng b) : Int32.ofInt a - Int32.ofInt a / Int32.ofInt b * Int32.ofInt b = Int32.ofInt (qm a b) := by
  rw [qd_of ha hb, ← Int32.ofInt_mul, ← Int32.ofInt_sub]
  congr 1
  unfold qd qm
  have := Int.tmod_add_mul_tdiv a b
  rw [Int.mul_comm] at this
  omega
theorem emod_le' {a b : Int} (h : 0 ≤ a) : a % b ≤ a := by
  obtain ⟨n, rfl⟩ := Int.eq_ofNat_of_zero_le h
  rcases Int.natAbs_eq b with e | e
  · rw [e]
    exact Int.ofNat_le.mpr (Nat.mod_le _ _)
  · rw [e, Int.emod_neg]
    exact Int.ofNat_le.mpr (Nat.mod_le _ _)
theorem tmod_b {a b lo hi : Int} (h1 : lo ≤ a) (h2 : a < hi) (h3 : lo ≤ 0) (h4 : 0 < hi) : lo ≤ Int.tmod a b ∧ Int.tmod a b < hi := by
  rcases Int.le_total 0 a with h | h
  · have e1 := Int.tmod_nonneg b h
    have e2 : Int.tmod a b ≤ a := by
      rw [Int.tmod_eq_emod_of_nonneg h]
      exact emod_le' h
    exact ⟨by omega, by omega⟩
  · have h' : 0 ≤ -a := by omega
    have e1 := Int.tmod_nonneg b h'
    have e2 : Int.tmod (-a) b ≤ -a := by
      rw [Int.tmod_eq_emod_of_nonneg h']
      exact emod_le' h'
    rw [Int.neg_tmod] at e1 e2
    exact ⟨by omega, by omega⟩
theorem qm_rng {a b : Int} (ha : rng a) : rng (qm a b) := tmod_b ha.1 ha.2 (by decide) (by decide)
theorem jc_of {a b : Int} (ha : rngL a) (hb : rngL b) : lg_cmp (Int64.ofInt a) (Int64.ofInt b) = Int32.ofInt (jc a b) := by
  unfold lg_cmp jc
  simp only [gt_iff_lt, Int64.lt_iff_toInt_lt, ← Int64.toInt_inj, iL_to ha, iL_to hb]
  by_cases h : a = b
  · subst h
    rw [if_neg (Int.lt_irrefl a), if_pos rfl, if_pos rfl]; rfl
  · by_cases h2 : b < a
    · rw [if_pos h2, if_neg h, if_pos h2]; rfl
    · rw [if_neg h2, if_neg h, if_neg h, if_neg h2]; rfl
theorem jc_rng (a b : Int) : rng (jc a b) := by
  unfold jc
  split
  · exact ⟨by decide, by decide⟩
  · split <;> exact ⟨by decide, by decide⟩
theorem l2i_of (x : Int) : (Int64.ofInt x).toInt32 = Int32.ofInt x := by
  apply Int32.toBitVec_inj.mp
  show ((BitVec.ofInt 64 x).signExtend 32) = BitVec.ofInt 32 x
  apply BitVec.eq_of_toInt_eq
  rw [BitVec.toInt_signExtend, BitVec.toInt_ofInt, BitVec.toInt_ofInt]
  show Int.bmod (Int.bmod x (2 ^ 64)) (2 ^ 32) = Int.bmod x (2 ^ 32)
  exact Int.bmod_bmod_of_dvd (by decide)
theorem i2c_of (x : Int) : ((Int32.ofInt x).toUInt32 % 65536).toInt32 = Int32.ofInt (x % 65536) := by
  apply Int32.toInt_inj.mp
  have h0 : 0 ≤ x % 65536 := Int.emod_nonneg _ (by decide)
  have h1 : x % 65536 < 65536 := Int.emod_lt_of_pos _ (by decide)
  rw [iI_to ⟨by omega, by omega⟩]
  have e : (((Int32.ofInt x).toUInt32 % 65536).toInt32).toInt = Int.bmod (((Int32.ofInt x).toUInt32 % 65536).toNat : Int) (2 ^ 32) := by
    show BitVec.toInt ((Int32.ofInt x).toUInt32 % 65536).toBitVec = _
    rw [BitVec.toInt_eq_toNat_bmod]; rfl
  rw [e]
  have e2 : ((Int32.ofInt x).toUInt32 % 65536).toNat = (x % 65536).toNat := by
    rw [UInt32.toNat_mod]
    show ((Int32.ofInt x).toUInt32.toNat) % 65536 = _
    have e3 : (Int32.ofInt x).toUInt32.toNat = (x % 4294967296).toNat := by
      show (BitVec.ofInt 32 x).toNat = _
      rw [BitVec.toNat_ofInt]; rfl
    rw [e3]
    omega
  rw [e2]
  have : ((x % 65536).toNat : Int) = x % 65536 := by omega
  rw [this]
  exact Int.bmod_eq_of_le (by omega) (by omega)
theorem nar1 {z : Int} (h : z = 0 ∨ z = 1) : vp_nar .boolean (Int32.ofInt z) = Int32.ofInt z := by
  rcases h with rfl | rfl <;> rfl
theorem nar2 {z : Int} (h : -128 ≤ z ∧ z < 128) : vp_nar .byte (Int32.ofInt z) = Int32.ofInt z := by
  show (Int32.ofInt z).toInt8.toInt32 = Int32.ofInt z
  apply Int32.toInt_inj.mp
  rw [Int8.toInt_toInt32, Int32.toInt_toInt8, iI_to ⟨by omega, by omega⟩]
  exact Int.bmod_eq_of_le (by have e : Int8.size = 256 := rfl; omega) (by have e : Int8.size = 256 := rfl; omega)
theorem max_of {a b : Int} (ha : rng a) (hb : rng b) : (if Int32.ofInt a < Int32.ofInt b then Int32.ofInt b else Int32.ofInt a) = Int32.ofInt (max a b) := by
  by_cases hlt : a < b
  · rw [if_pos (Int32.lt_iff_toInt_lt.mpr (by rw [iI_to ha, iI_to hb]; exact hlt)), Int.max_eq_right (by omega)]
  · rw [if_neg (fun q => hlt (by have := Int32.lt_iff_toInt_lt.mp q; rw [iI_to ha, iI_to hb] at this; exact this)), Int.max_eq_left (by omega)]
theorem min_of {a b : Int} (ha : rng a) (hb : rng b) : (if Int32.ofInt b < Int32.ofInt a then Int32.ofInt b else Int32.ofInt a) = Int32.ofInt (min a b) := by
  by_cases hlt : b < a
  · rw [if_pos (Int32.lt_iff_toInt_lt.mpr (by rw [iI_to ha, iI_to hb]; exact hlt)), Int.min_eq_right (by omega)]
  · rw [if_neg (fun q => hlt (by have := Int32.lt_iff_toInt_lt.mp q; rw [iI_to ha, iI_to hb] at this; exact this)), Int.min_eq_left (by omega)]
theorem abs_of {a : Int} (ha : rng a) : (if (0 : Int32) ≤ Int32.ofInt a then Int32.ofInt a else 0 - Int32.ofInt a) = Int32.ofInt (if 0 ≤ a then a else -a) := by
  have e0 : (0 : Int32).toInt = 0 := rfl
  by_cases h : 0 ≤ a
  · rw [if_pos (Int32.le_iff_toInt_le.mpr (by rw [iI_to ha, e0]; exact h)), if_pos h]
  · rw [if_neg (fun q => h (by have := Int32.le_iff_toInt_le.mp q; rw [iI_to ha, e0] at this; exact this)), if_neg h, Int32.ofInt_neg, Int32.zero_sub]
theorem max_rng {a b : Int} (ha : rng a) (hb : rng b) : rng (max a b) := ⟨by have := ha.1; omega, by have := ha.2; have := hb.2; omega⟩
theorem min_rng {a b : Int} (ha : rng a) (hb : rng b) : rng (min a b) := ⟨by have := ha.1; have := hb.1; omega, by have := ha.2; omega⟩
