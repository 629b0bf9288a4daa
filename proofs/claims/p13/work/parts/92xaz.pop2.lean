theorem jsu_n (U : BitVec 64) (k : Nat) (hk : k < 64) : jsu U.toInt (k : Int) = (U >>> k).toInt := by rw [jsu_sh, jsu_k k hk, bv_ofInt]
theorem ja_c (U : BitVec 64) {z : Int} {c : BitVec 64} (h : BitVec.ofInt 64 z = c) : ja U.toInt z = (U &&& c).toInt := by rw [ja_bv, bv_ofInt, h]
theorem jadd_bv (U V : BitVec 64) : jadd U.toInt V.toInt = (U + V).toInt := by
  rw [BitVec.toInt_add]
  exact BitVec.toInt_ofInt _
theorem jsub_bv (U V : BitVec 64) : jsub U.toInt V.toInt = (U - V).toInt := by
  rw [BitVec.toInt_sub]
  exact BitVec.toInt_ofInt _
theorem ia127 (z : Int) : ia z 127 = z % 128 := by
  show ((BitVec.ofInt 32 z) &&& 127#32).toInt = z % 128
  have h1 : ((BitVec.ofInt 32 z) &&& 127#32).toNat = (z % 4294967296).toNat % 128 := by
    rw [BitVec.toNat_and, BitVec.toNat_ofInt, show (127#32).toNat = 2 ^ 7 - 1 from rfl, Nat.and_two_pow_sub_one_eq_mod]
    rfl
  rw [BitVec.toInt_eq_toNat_of_lt (by rw [h1]; omega), h1]
  omega
theorem cc5 : mk8 85 8 = 6148914691236517205 := by decide +kernel
theorem cc3 : mk8 51 8 = 3689348814741910323 := by decide +kernel
theorem ccF : mk8 15 8 = 1085102592571150095 := by decide +kernel
theorem bv5 : (6148914691236517205#64).toNat = 6148914691236517205 := by decide +kernel
theorem bv3 : (3689348814741910323#64).toNat = 3689348814741910323 := by decide +kernel
theorem bvF : (1085102592571150095#64).toNat = 1085102592571150095 := by decide +kernel
theorem bvsh (U : BitVec 64) (k : Nat) : (U >>> k).toNat = U.toNat / 2 ^ k := by rw [BitVec.toNat_ushiftRight, Nat.shiftRight_eq_div_pow]
theorem bvl (U : BitVec 64) : U.toNat < 18446744073709551616 := U.isLt
theorem bits_1 (V : BitVec 64) : (V - ((V >>> 1) &&& 6148914691236517205#64)).toNat = G5 8 V.toNat := by
  have e : ((V >>> 1) &&& 6148914691236517205#64).toNat = V.toNat / 2 &&& 6148914691236517205 := by
    rw [BitVec.toNat_and, bvsh, bv5, Nat.pow_one]
  have l : V.toNat / 2 &&& 6148914691236517205 ≤ V.toNat / 2 := Nat.and_le_left
  have hV := bvl V
  rw [BitVec.toNat_sub, e, show (2 : Nat) ^ 64 = 18446744073709551616 from rfl]
  unfold G5
  rw [cc5]
  generalize V.toNat / 2 &&& 6148914691236517205 = u at l ⊢
  omega
theorem bits_2 (V : BitVec 64) : ((V &&& 3689348814741910323#64) + ((V >>> 2) &&& 3689348814741910323#64)).toNat = G3 8 V.toNat := by
  have e : ((V >>> 2) &&& 3689348814741910323#64).toNat = V.toNat / 4 &&& 3689348814741910323 := by
    rw [BitVec.toNat_and, bvsh, bv3, show (2 : Nat) ^ 2 = 4 from rfl]
  have e2 : (V &&& 3689348814741910323#64).toNat = V.toNat &&& 3689348814741910323 := by
    rw [BitVec.toNat_and, bv3]
  have l1 : V.toNat / 4 &&& 3689348814741910323 ≤ 3689348814741910323 := Nat.and_le_right
  have l2 : V.toNat &&& 3689348814741910323 ≤ 3689348814741910323 := Nat.and_le_right
  rw [BitVec.toNat_add, e, e2, show (2 : Nat) ^ 64 = 18446744073709551616 from rfl]
  unfold G3
  rw [cc3]
  generalize V.toNat / 4 &&& 3689348814741910323 = u at l1 ⊢
  generalize V.toNat &&& 3689348814741910323 = v at l2 ⊢
  exact Nat.mod_eq_of_lt (by omega)
theorem G3_bd (X : Nat) : G3 8 X ≤ 7378697629483820646 := by
  have l1 : X / 4 &&& 3689348814741910323 ≤ 3689348814741910323 := Nat.and_le_right
  have l2 : X &&& 3689348814741910323 ≤ 3689348814741910323 := Nat.and_le_right
  unfold G3
  rw [cc3]
  generalize X / 4 &&& 3689348814741910323 = u at l1 ⊢
  generalize X &&& 3689348814741910323 = v at l2 ⊢
  omega
theorem bits_3 (V : BitVec 64) (h : V.toNat ≤ 7378697629483820646) : ((V + (V >>> 4)) &&& 1085102592571150095#64).toNat = GF 8 V.toNat := by
  rw [BitVec.toNat_and, BitVec.toNat_add, bvsh, bvF, show (2 : Nat) ^ 64 = 18446744073709551616 from rfl, show (2 : Nat) ^ 4 = 16 from rfl, Nat.mod_eq_of_lt (show V.toNat + V.toNat / 16 < 18446744073709551616 by omega)]
  unfold GF
  rw [ccF]
def c8L (c0 c1 c2 c3 c4 c5 c6 c7 : Nat) : Nat := c0 + 256 * (c1 + 256 * (c2 + 256 * (c3 + 256 * (c4 + 256 * (c5 + 256 * (c6 + 256 * c7))))))
theorem bits_4 (V : BitVec 64) {c0 c1 c2 c3 c4 c5 c6 c7 : Nat} (k : c0 ≤ 8 ∧ c1 ≤ 8 ∧ c2 ≤ 8 ∧ c3 ≤ 8 ∧ c4 ≤ 8 ∧ c5 ≤ 8 ∧ c6 ≤ 8 ∧ c7 ≤ 8) (h : V.toNat = c8L c0 c1 c2 c3 c4 c5 c6 c7) : (V + (V >>> 8)).toNat = c8L (c0 + c1) (c1 + c2) (c2 + c3) (c3 + c4) (c4 + c5) (c5 + c6) (c6 + c7) c7 := by
  obtain ⟨k0, k1, k2, k3, k4, k5, k6, k7⟩ := k
  rw [BitVec.toNat_add, bvsh, h, show (2 : Nat) ^ 64 = 18446744073709551616 from rfl, show (2 : Nat) ^ 8 = 256 from rfl]
  unfold c8L
  rw [show (c0 + 256 * (c1 + 256 * (c2 + 256 * (c3 + 256 * (c4 + 256 * (c5 + 256 * (c6 + 256 * c7))))))) / 256 = c1 + 256 * (c2 + 256 * (c3 + 256 * (c4 + 256 * (c5 + 256 * (c6 + 256 * c7))))) by omega]
  rw [Nat.mod_eq_of_lt (by omega)]
  omega
theorem bits_5 (V : BitVec 64) {c0 c1 c2 c3 c4 c5 c6 c7 : Nat} (k : c0 ≤ 16 ∧ c1 ≤ 16 ∧ c2 ≤ 16 ∧ c3 ≤ 16 ∧ c4 ≤ 16 ∧ c5 ≤ 16 ∧ c6 ≤ 16 ∧ c7 ≤ 16) (h : V.toNat = c8L c0 c1 c2 c3 c4 c5 c6 c7) : (V + (V >>> 16)).toNat = c8L (c0 + c2) (c1 + c3) (c2 + c4) (c3 + c5) (c4 + c6) (c5 + c7) c6 c7 := by
  obtain ⟨k0, k1, k2, k3, k4, k5, k6, k7⟩ := k
  rw [BitVec.toNat_add, bvsh, h, show (2 : Nat) ^ 64 = 18446744073709551616 from rfl, show (2 : Nat) ^ 16 = 65536 from rfl]
  unfold c8L
  rw [show (c0 + 256 * (c1 + 256 * (c2 + 256 * (c3 + 256 * (c4 + 256 * (c5 + 256 * (c6 + 256 * c7))))))) / 65536 = c2 + 256 * (c3 + 256 * (c4 + 256 * (c5 + 256 * (c6 + 256 * c7)))) by omega]
  rw [Nat.mod_eq_of_lt (by omega)]
  omega
theorem bits_6 (V : BitVec 64) {c0 c1 c2 c3 c4 c5 c6 c7 : Nat} (k : c0 ≤ 32 ∧ c1 ≤ 32 ∧ c2 ≤ 32 ∧ c3 ≤ 32 ∧ c4 ≤ 32 ∧ c5 ≤ 32 ∧ c6 ≤ 32 ∧ c7 ≤ 32) (h : V.toNat = c8L c0 c1 c2 c3 c4 c5 c6 c7) : (V + (V >>> 32)).toNat = c8L (c0 + c4) (c1 + c5) (c2 + c6) (c3 + c7) c4 c5 c6 c7 := by
  obtain ⟨k0, k1, k2, k3, k4, k5, k6, k7⟩ := k
  rw [BitVec.toNat_add, bvsh, h, show (2 : Nat) ^ 64 = 18446744073709551616 from rfl, show (2 : Nat) ^ 32 = 4294967296 from rfl]
  unfold c8L
  rw [show (c0 + 256 * (c1 + 256 * (c2 + 256 * (c3 + 256 * (c4 + 256 * (c5 + 256 * (c6 + 256 * c7))))))) / 4294967296 = c4 + 256 * (c5 + 256 * (c6 + 256 * c7)) by omega]
  rw [Nat.mod_eq_of_lt (by omega)]
  omega
theorem c8_128 {c0 c1 c2 c3 c4 c5 c6 c7 : Nat} (h0 : c0 < 128) (h : c7 < 100) (h1 : c1 ≤ 64 ∧ c2 ≤ 64 ∧ c3 ≤ 64 ∧ c4 ≤ 64 ∧ c5 ≤ 64 ∧ c6 ≤ 64) : c8L c0 c1 c2 c3 c4 c5 c6 c7 % 128 = c0 ∧ c8L c0 c1 c2 c3 c4 c5 c6 c7 < 9223372036854775808 := by
  unfold c8L
  omega
theorem sumb_c8 (N : Nat) : ∃ c0 c1 c2 c3 c4 c5 c6 c7 : Nat, (c0 ≤ 8 ∧ c1 ≤ 8 ∧ c2 ≤ 8 ∧ c3 ≤ 8 ∧ c4 ≤ 8 ∧ c5 ≤ 8 ∧ c6 ≤ 8 ∧ c7 ≤ 8) ∧ sumb 8 N = c8L c0 c1 c2 c3 c4 c5 c6 c7 ∧ pcnt N 64 = c0 + c1 + c2 + c3 + c4 + c5 + c6 + c7 := sumb_64 N
theorem pow8 : (256 : Nat) ^ 8 = 18446744073709551616 := by decide +kernel
theorem ja_q (U : BitVec 64) {z : Int} {c : BitVec 64} (h : BitVec.ofInt 64 z = c) : ja U.toInt z = (U &&& c).toInt := ja_c U h
theorem kc5 : BitVec.ofInt 64 (qnL 6148914691236517205) = 6148914691236517205#64 := by decide +kernel
theorem kc3 : BitVec.ofInt 64 (qnL 3689348814741910323) = 3689348814741910323#64 := by decide +kernel
theorem kcF : BitVec.ofInt 64 (qnL 1085102592571150095) = 1085102592571150095#64 := by decide +kernel
theorem jsu_1 (U : BitVec 64) : jsu U.toInt 1 = (U >>> 1).toInt := jsu_n U 1 (by decide)
theorem jsu_2 (U : BitVec 64) : jsu U.toInt 2 = (U >>> 2).toInt := jsu_n U 2 (by decide)
theorem jsu_4 (U : BitVec 64) : jsu U.toInt 4 = (U >>> 4).toInt := jsu_n U 4 (by decide)
theorem jsu_8 (U : BitVec 64) : jsu U.toInt 8 = (U >>> 8).toInt := jsu_n U 8 (by decide)
theorem jsu_16 (U : BitVec 64) : jsu U.toInt 16 = (U >>> 16).toInt := jsu_n U 16 (by decide)
theorem jsu_32 (U : BitVec 64) : jsu U.toInt 32 = (U >>> 32).toInt := jsu_n U 32 (by decide)
theorem qlq {α β : Type} {x y : α} {f : α → β} {T : β} (e : x = y) (h : f y = T) : qlet x f = T := by rw [e, qlet.eq_1]; exact h
theorem bitsL_bv (V : BitVec 64) (A : qA) : ∃ V1 V2 V3 V4 V5 V6 : BitVec 64, V1 = V - ((V >>> 1) &&& 6148914691236517205#64) ∧ V2 = (V1 &&& 3689348814741910323#64) + ((V1 >>> 2) &&& 3689348814741910323#64) ∧ V3 = (V2 + (V2 >>> 4)) &&& 1085102592571150095#64 ∧ V4 = V3 + (V3 >>> 8) ∧ V5 = V4 + (V4 >>> 16) ∧ V6 = V5 + (V5 >>> 32) ∧ fC_bitsL V.toInt A = ia V6.toInt 127 := by
  obtain ⟨V1, h1⟩ : ∃ V1, V1 = V - ((V >>> 1) &&& 6148914691236517205#64) := ⟨_, rfl⟩
  obtain ⟨V2, h2⟩ : ∃ V2, V2 = (V1 &&& 3689348814741910323#64) + ((V1 >>> 2) &&& 3689348814741910323#64) := ⟨_, rfl⟩
  obtain ⟨V3, h3⟩ : ∃ V3, V3 = (V2 + (V2 >>> 4)) &&& 1085102592571150095#64 := ⟨_, rfl⟩
  obtain ⟨V4, h4⟩ : ∃ V4, V4 = V3 + (V3 >>> 8) := ⟨_, rfl⟩
  obtain ⟨V5, h5⟩ : ∃ V5, V5 = V4 + (V4 >>> 16) := ⟨_, rfl⟩
  obtain ⟨V6, h6⟩ : ∃ V6, V6 = V5 + (V5 >>> 32) := ⟨_, rfl⟩
  refine ⟨V1, V2, V3, V4, V5, V6, h1, h2, h3, h4, h5, h6, ?_⟩
  unfold fC_bitsL
  refine qlq (jsu_1 V) ?_
  refine qlq (ja_q _ kc5) ?_
  refine qlq (y := V1.toInt) (by rw [h1]; exact jsub_bv _ _) ?_
  refine qlq (ja_q _ kc3) ?_
  refine qlq (jsu_2 V1) ?_
  refine qlq (ja_q _ kc3) ?_
  refine qlq (y := V2.toInt) (by rw [h2]; exact jadd_bv _ _) ?_
  refine qlq (jsu_4 V2) ?_
  refine qlq (jadd_bv _ _) ?_
  refine qlq (y := V3.toInt) (by rw [h3]; exact ja_q _ kcF) ?_
  refine qlq (jsu_8 V3) ?_
  refine qlq (y := V4.toInt) (by rw [h4]; exact jadd_bv _ _) ?_
  refine qlq (jsu_16 V4) ?_
  refine qlq (y := V5.toInt) (by rw [h5]; exact jadd_bv _ _) ?_
  refine qlq (jsu_32 V5) ?_
  refine qlq (y := V6.toInt) (by rw [h6]; exact jadd_bv _ _) ?_
  exact qlq rfl rfl
theorem bitsL_is {x : Int} (h : rngL x) (A : qA) : fC_bitsL x A = pcnt (BitVec.ofInt 64 x).toNat 64 := by
  generalize hV : BitVec.ofInt 64 x = V
  have hx : x = V.toInt := by rw [← hV]; exact (wL_id h).symm
  rw [hx]
  clear hx hV h x
  obtain ⟨V1, V2, V3, V4, V5, V6, h1, h2, h3, h4, h5, h6, e⟩ := bitsL_bv V A
  rw [e, ia127]
  clear e
  have n1 : V1.toNat = G5 8 V.toNat := by rw [h1]; exact bits_1 V
  have n2 : V2.toNat = G3 8 (G5 8 V.toNat) := by rw [h2, ← n1]; exact bits_2 V1
  have n3 : V3.toNat = GF 8 (G3 8 (G5 8 V.toNat)) := by rw [h3, ← n2]; exact bits_3 V2 (by rw [n2]; exact G3_bd _)
  rw [(G_all 8 V.toNat (by rw [pow8]; exact bvl V)).2] at n3
  obtain ⟨c0, c1, c2, c3, c4, c5, c6, c7, k, e1, e2⟩ := sumb_c8 V.toNat
  rw [e1] at n3
  rw [e2]
  clear e1 e2 n1 n2 h1 h2 h3
  have n4 := bits_4 V3 k n3
  rw [← h4] at n4
  obtain ⟨k0, k1, k2, k3, k4, k5, k6, k7⟩ := k
  have n5 := bits_5 V4 (by omega) n4
  rw [← h5] at n5
  have n6 := bits_6 V5 (by omega) n5
  rw [← h6] at n6
  clear n3 n4 n5 h4 h5 h6
  have b := c8_128 (c0 := c0 + c1 + (c2 + c3) + (c4 + c5 + (c6 + c7))) (c1 := c1 + c2 + (c3 + c4) + (c5 + c6 + c7)) (c2 := c2 + c3 + (c4 + c5) + (c6 + c7)) (c3 := c3 + c4 + (c5 + c6) + c7) (c4 := c4 + c5 + (c6 + c7)) (c5 := c5 + c6 + c7) (c6 := c6 + c7) (c7 := c7) (by omega) (by omega) (by omega)
  rw [← n6] at b
  rw [BitVec.toInt_eq_toNat_of_lt (by omega)]
  omega
