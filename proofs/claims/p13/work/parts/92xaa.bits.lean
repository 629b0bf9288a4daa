/-! WHICH CELLS HANG: the bits -/
theorem jsu_sh (a b : Int) : jsu a b = ((BitVec.ofInt 64 a) >>> (((Int32.ofInt b).toInt64.toUInt64 &&& Int64.toUInt64 63).toBitVec.umod 64).toNat).toInt := rfl
theorem jsu_k : ∀ k < 64, (((Int32.ofInt ((k : Nat) : Int)).toInt64.toUInt64 &&& Int64.toUInt64 63).toBitVec.umod 64).toNat = k := by decide +kernel
theorem jsl_sh (a b : Int) : jsl a b = ((BitVec.ofInt 64 a) <<< ((((Int32.ofInt b).toInt64 &&& 63).toBitVec.smod 64)).toNat).toInt := rfl
theorem jsl_k : ∀ k < 64, ((((Int32.ofInt ((k : Nat) : Int)).toInt64 &&& 63).toBitVec.smod 64)).toNat = k := by decide +kernel
theorem bv_ofInt (V : BitVec 64) : BitVec.ofInt 64 V.toInt = V := BitVec.ofInt_toInt
theorem ja_bv (a b : Int) : ja a b = (BitVec.ofInt 64 a &&& BitVec.ofInt 64 b).toInt := rfl
theorem jo_bv (a b : Int) : jo a b = (BitVec.ofInt 64 a ||| BitVec.ofInt 64 b).toInt := rfl
theorem jx_bv (a b : Int) : jx a b = (BitVec.ofInt 64 a ^^^ BitVec.ofInt 64 b).toInt := rfl
/-- bit number c -/
def hbit (x c : Int) : Bool := (BitVec.ofInt 64 x).getLsbD c.toNat
theorem bv_toInt0 {V : BitVec 64} : V.toInt = 0 ↔ V = 0#64 := by
  constructor
  · intro h
    apply BitVec.eq_of_toInt_eq
    rw [h]; rfl
  · intro h
    rw [h]; rfl
theorem bv_and1 (V : BitVec 64) : V &&& 1#64 = 0#64 ↔ V.getLsbD 0 = false := by
  constructor
  · intro h
    have h2 : (V &&& 1#64).getLsbD 0 = (0#64).getLsbD 0 := by rw [h]
    rw [BitVec.getLsbD_and] at h2
    simpa using h2
  · intro h
    apply BitVec.eq_of_getLsbD_eq
    intro i hi
    rw [BitVec.getLsbD_and, BitVec.getLsbD_one]
    by_cases h0 : i = 0
    · rw [h0, h]; simp
    · simp [h0]
theorem hb_is {A : qA} {c : Int} (h0 : 0 ≤ c) (h1 : c < 64) : HG A c ↔ hbit (A 1 (fd 0)) c = true := by
  have hs : jsu (A 1 (fd 0)) c = ((BitVec.ofInt 64 (A 1 (fd 0))) >>> c.toNat).toInt := by
    rw [jsu_sh]
    have := jsu_k c.toNat (by omega)
    rw [show ((c.toNat : Nat) : Int) = c by omega] at this
    rw [this]
  have ha : ja (jsu (A 1 (fd 0)) c) 1 = (((BitVec.ofInt 64 (A 1 (fd 0))) >>> c.toNat) &&& 1#64).toInt := by
    rw [ja_bv, hs, bv_ofInt]; rfl
  have hz : (((BitVec.ofInt 64 (A 1 (fd 0))) >>> c.toNat) &&& 1#64).toInt = 0 ↔ hbit (A 1 (fd 0)) c = false := by
    rw [bv_toInt0, bv_and1, BitVec.getLsbD_ushiftRight, Nat.add_zero]
    rfl
  show hb A c ≠ 0 ↔ _
  unfold hb jc
  rw [ha]
  by_cases q : (((BitVec.ofInt 64 (A 1 (fd 0))) >>> c.toNat) &&& 1#64).toInt = 0
  · rw [if_pos q]
    have := hz.mp q
    simp [this]
  · rw [if_neg q]
    have : hbit (A 1 (fd 0)) c = true := by
      cases hh : hbit (A 1 (fd 0)) c
      · exact absurd (hz.mpr hh) q
      · rfl
    simp only [this, iff_true]
    split <;> decide
theorem HG_k {A B : qA} (e : B 1 (fd 0) = A 1 (fd 0)) (c : Int) : HG B c ↔ HG A c := by
  show hb B c ≠ 0 ↔ hb A c ≠ 0
  unfold hb
  rw [e]
theorem sh1_bit {c d : Int} (h0 : 0 ≤ c) (h1 : c < 64) (d0 : 0 ≤ d) (d1 : d < 64) : (BitVec.ofInt 64 (jsl 1 c)).getLsbD d.toNat = decide (d = c) := by
  have hs : jsl 1 c = ((1#64) <<< c.toNat).toInt := by
    rw [jsl_sh]
    have := jsl_k c.toNat (by omega)
    rw [show ((c.toNat : Nat) : Int) = c by omega] at this
    rw [this]; rfl
  rw [hs, bv_ofInt, BitVec.getLsbD_shiftLeft, BitVec.getLsbD_one]
  by_cases h : d = c
  · subst h
    have e : d.toNat - d.toNat = 0 := Nat.sub_self _
    have e2 : d.toNat < 64 := by omega
    simp [e2]
  · have e : (decide (d = c)) = false := by simp [h]
    rw [e]
    by_cases h2 : d < c
    · have : d.toNat < c.toNat := by omega
      simp [this]
    · have : ¬ (d.toNat - c.toNat = 0) := by omega
      simp [this]
/-- a cell is hung -/
theorem HG_or {A B : qA} {c d : Int} (e : B 1 (fd 0) = jo (A 1 (fd 0)) (jsl 1 c)) (h0 : 0 ≤ c) (h1 : c < 64) (d0 : 0 ≤ d) (d1 : d < 64) : HG B d ↔ (d = c ∨ HG A d) := by
  rw [hb_is d0 d1, hb_is d0 d1, e]
  unfold hbit
  rw [jo_bv, bv_ofInt, BitVec.getLsbD_or, sh1_bit h0 h1 d0 d1]
  simp only [Bool.or_eq_true, decide_eq_true_eq]
  exact or_comm
/-- a cell goes -/
theorem HG_cut {A B : qA} {c d : Int} (e : B 1 (fd 0) = ja (A 1 (fd 0)) (jx (jsl 1 c) (qnL 18446744073709551615))) (h0 : 0 ≤ c) (h1 : c < 64) (d0 : 0 ≤ d) (d1 : d < 64) : HG B d ↔ (d ≠ c ∧ HG A d) := by
  rw [hb_is d0 d1, hb_is d0 d1, e]
  unfold hbit
  have e1 : BitVec.ofInt 64 (qnL 18446744073709551615) = BitVec.allOnes 64 := by decide +kernel
  rw [ja_bv, bv_ofInt, BitVec.getLsbD_and, jx_bv, bv_ofInt, BitVec.getLsbD_xor, sh1_bit h0 h1 d0 d1, e1, BitVec.getLsbD_allOnes]
  have e2 : d.toNat < 64 := by omega
  simp only [e2, decide_true, Bool.and_eq_true]
  by_cases h : d = c
  · simp [h]
  · simp [h]
