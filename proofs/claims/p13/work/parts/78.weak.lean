/-! WHAT STAYS: bounds of places, what is not written -/
def iva (I : List (Nat × Int × Int × Int)) (A : qA) : Prop := ∀ c ∈ I, ∀ i, 0 ≤ i → i < c.2.1 → c.2.2.1 ≤ A c.1 i ∧ A c.1 i ≤ c.2.2.2
def ivf (J : List (Nat × Nat × Int × Int)) (A : qA) : Prop := ∀ c ∈ J, c.2.2.1 ≤ A c.1 (fd c.2.1) ∧ A c.1 (fd c.2.1) ≤ c.2.2.2
theorem iva_at {I : List (Nat × Int × Int × Int)} {A : qA} (h : iva I A) (k : Nat) {r : Nat} {n lo hi i : Int} (hk : I[k]? = some (r, n, lo, hi)) (h0 : 0 ≤ i) (h1 : i < n) : lo ≤ A r i ∧ A r i ≤ hi := h _ (List.mem_of_getElem? hk) i h0 h1
theorem ivf_at {J : List (Nat × Nat × Int × Int)} {A : qA} (h : ivf J A) (k : Nat) {r j : Nat} {lo hi : Int} (hk : J[k]? = some (r, j, lo, hi)) : lo ≤ A r (fd j) ∧ A r (fd j) ≤ hi := h _ (List.mem_of_getElem? hk)
/-- what a number must keep to be put at a place -/
def iba (r : Nat) (v : Int) : List (Nat × Int × Int × Int) → Prop
  | [] => True
  | (r', _, lo, hi) :: I => bif Nat.beq r' r then (lo ≤ v ∧ v ≤ hi) ∧ iba r v I else iba r v I
def ibf (r j : Nat) (v : Int) : List (Nat × Nat × Int × Int) → Prop
  | [] => True
  | (r', j', lo, hi) :: J => bif Nat.beq r' r && Nat.beq j' j then (lo ≤ v ∧ v ≤ hi) ∧ ibf r j v J else ibf r j v J
theorem iba_p {r : Nat} {v : Int} : ∀ {I : List (Nat × Int × Int × Int)} {c : Nat × Int × Int × Int}, iba r v I → c ∈ I → c.1 = r → c.2.2.1 ≤ v ∧ v ≤ c.2.2.2
  | (r', n, lo, hi) :: I, c, h, hc, e => by
    unfold iba at h
    cases hb : Nat.beq r' r
    · rw [hb] at h
      rcases List.mem_cons.mp hc with rfl | hc
      · have e : r' = r := e
        rw [e, Nat.beq_refl] at hb; cases hb
      · exact iba_p h hc e
    · rw [hb] at h
      rcases List.mem_cons.mp hc with rfl | hc
      · exact h.1
      · exact iba_p h.2 hc e
theorem fd_inj {i j : Nat} (h : fd i = fd j) : i = j := Int.ofNat_inj.mp h
theorem ibf_p {r j : Nat} {v : Int} : ∀ {J : List (Nat × Nat × Int × Int)} {c : Nat × Nat × Int × Int}, ibf r j v J → c ∈ J → c.1 = r → c.2.1 = j → c.2.2.1 ≤ v ∧ v ≤ c.2.2.2
  | (r', j', lo, hi) :: J, c, h, hc, e, e2 => by
    unfold ibf at h
    cases hb : (Nat.beq r' r && Nat.beq j' j)
    · rw [hb] at h
      rcases List.mem_cons.mp hc with rfl | hc
      · have e : r' = r := e
        have e2 : j' = j := e2
        rw [e, e2, Nat.beq_refl, Nat.beq_refl] at hb; cases hb
      · exact ibf_p h hc e e2
    · rw [hb] at h
      rcases List.mem_cons.mp hc with rfl | hc
      · exact h.1
      · exact ibf_p h.2 hc e e2
theorem iva_st {I : List (Nat × Int × Int × Int)} {A A' : qA} {r : Nat} {j v : Int} (h : iva I A) (e : A' = qu A r j v) (hb : iba r v I) : iva I A' := by
  subst e
  intro c hc i h0 h1
  rw [qu_is]
  split
  · next q => exact iba_p hb hc q.1
  · exact h c hc i h0 h1
/-- no place of J is an array's -/
def nof (r : Nat) (J : List (Nat × Nat × Int × Int)) : Bool := J.all (fun c => !(Nat.beq c.1 r))
def noa (r : Nat) (I : List (Nat × Int × Int × Int)) : Bool := I.all (fun c => !(Nat.beq c.1 r))
theorem ivf_sa {J : List (Nat × Nat × Int × Int)} {A A' : qA} {r : Nat} {j v : Int} (h : ivf J A) (e : A' = qu A r j v) (hb : nof r J = true) : ivf J A' := by
  subst e
  intro c hc
  rw [qu_is, if_neg]
  · exact h c hc
  · intro q
    have := List.all_eq_true.mp hb c hc
    rw [q.1, Nat.beq_refl] at this
    cases this
theorem iva_sf {I : List (Nat × Int × Int × Int)} {A A' : qA} {r : Nat} {j v : Int} (h : iva I A) (e : A' = qu A r j v) (hb : noa r I = true) : iva I A' := by
  subst e
  intro c hc i h0 h1
  rw [qu_is, if_neg]
  · exact h c hc i h0 h1
  · intro q
    have := List.all_eq_true.mp hb c hc
    rw [q.1, Nat.beq_refl] at this
    cases this
theorem ivf_st {J : List (Nat × Nat × Int × Int)} {A A' : qA} {r j : Nat} {v : Int} (h : ivf J A) (e : A' = qu A r (fd j) v) (hb : ibf r j v J) : ivf J A' := by
  subst e
  intro c hc
  rw [qu_is]
  split
  · next q => exact ibf_p hb hc q.1 (fd_inj q.2)
  · exact h c hc
/-- nothing is written but the arrays of W and the fields of V -/
def frm (W : List Nat) (V : List (Nat × Nat)) (A A' : qA) : Prop := ∀ r i, r ∉ W → (∀ f ∈ V, ¬ (f.1 = r ∧ i = fd f.2)) → A' r i = A r i
def noV (r : Nat) (V : List (Nat × Nat)) : Bool := V.all (fun f => !(Nat.beq f.1 r))
def noVf (r j : Nat) (V : List (Nat × Nat)) : Bool := V.all (fun f => !(Nat.beq f.1 r && Nat.beq f.2 j))
def noW (r : Nat) (W : List Nat) : Bool := W.all (fun w => !(Nat.beq w r))
theorem noW_p {r : Nat} {W : List Nat} (h : noW r W = true) : r ∉ W := fun q => by
  have := List.all_eq_true.mp h r q
  rw [Nat.beq_refl] at this; cases this
theorem frm_0 (W : List Nat) (V : List (Nat × Nat)) (A : qA) : frm W V A A := fun _ _ _ _ => rfl
theorem frm_a {W : List Nat} {V : List (Nat × Nat)} {A A' : qA} (h : frm W V A A') {r : Nat} (h1 : (noW r W && noV r V) = true) : A' r = A r := by
  simp only [Bool.and_eq_true] at h1
  funext i
  exact h r i (noW_p h1.1) (fun f hf q => by
    have := List.all_eq_true.mp h1.2 f hf
    rw [q.1, Nat.beq_refl] at this; cases this)
theorem frm_f {W : List Nat} {V : List (Nat × Nat)} {A A' : qA} (h : frm W V A A') {r j : Nat} (h1 : (noW r W && noVf r j V) = true) : A' r (fd j) = A r (fd j) := by
  simp only [Bool.and_eq_true] at h1
  exact h r _ (noW_p h1.1) (fun f hf q => by
    have := List.all_eq_true.mp h1.2 f hf
    rw [q.1, ← fd_inj q.2, Nat.beq_refl, Nat.beq_refl] at this; cases this)
def subW (W' W : List Nat) (V' V : List (Nat × Nat)) : Bool := W'.all (fun w => W.contains w) && V'.all (fun f => W.contains f.1 || V.contains f)
theorem frm_c {W W' : List Nat} {V V' : List (Nat × Nat)} {A A1 A2 : qA} (h : frm W V A A1) (h2 : frm W' V' A1 A2) (hs : subW W' W V' V = true) : frm W V A A2 := by
  simp only [subW, Bool.and_eq_true, List.all_eq_true, Bool.or_eq_true, List.contains_iff_mem] at hs
  intro r i hr hf
  rw [h2 r i (fun q => hr (hs.1 r q)) (fun f hf' q => by
    rcases hs.2 f hf' with z | z
    · rw [q.1] at z; exact hr z
    · exact hf f z q)]
  exact h r i hr hf
theorem frm_s {W : List Nat} {V : List (Nat × Nat)} {A A1 A2 : qA} {r : Nat} {j v : Int} (h : frm W V A A1) (e : A2 = qu A1 r j v) (hs : W.contains r = true) : frm W V A A2 := by
  subst e
  intro r' i hr hf
  rw [qu_is, if_neg]
  · exact h r' i hr hf
  · intro q
    rw [q.1] at hr
    exact hr (List.contains_iff_mem.mp hs)
theorem frm_sf {W : List Nat} {V : List (Nat × Nat)} {A A1 A2 : qA} {r j : Nat} {v : Int} (h : frm W V A A1) (e : A2 = qu A1 r (fd j) v) (hs : V.contains (r, j) = true) : frm W V A A2 := by
  subst e
  intro r' i hr hf
  rw [qu_is, if_neg]
  · exact h r' i hr hf
  · intro q
    exact hf _ (List.contains_iff_mem.mp hs) ⟨q.1.symm, q.2⟩
theorem st_a {A A' : qA} {r r' : Nat} {j v : Int} (e : A' = qu A r j v) (h : Nat.beq r' r = false) : A' r' = A r' := by
  subst e
  exact qu_ne (fun q => by rw [q, Nat.beq_refl] at h; cases h)
theorem st_f {A A' : qA} {r j j' : Nat} {v : Int} (e : A' = qu A r (fd j) v) (h : Nat.beq j' j = false) : A' r (fd j') = A r (fd j') := by
  subst e
  exact qu_nj (fun q => by rw [fd_inj q, Nat.beq_refl] at h; cases h)
theorem st_v {A A' : qA} {r : Nat} {j v : Int} (e : A' = qu A r j v) : A' r j = v := by subst e; exact qu_at _ _ _ _
/-- copies -/
theorem iva_cp {I : List (Nat × Int × Int × Int)} {A A' : qA} {r0 r : Nat} {sp dp n : Int} (h : iva I A) (e : A' = qcpy A r0 sp r dp n) (hb : ∀ i, 0 ≤ i → i < n → iba r (A r0 (sp + i)) I) : iva I A' := by
  subst e
  intro c hc i h0 h1
  unfold qcpy
  split
  · next q =>
    exact iba_p (hb (i - dp) (by omega) (by omega)) hc q.1
  · exact h c hc i h0 h1
theorem ivf_cp {J : List (Nat × Nat × Int × Int)} {A A' : qA} {r0 r : Nat} {sp dp n : Int} (h : ivf J A) (e : A' = qcpy A r0 sp r dp n) (hb : nof r J = true) : ivf J A' := by
  subst e
  intro c hc
  unfold qcpy
  rw [if_neg]
  · exact h c hc
  · intro q
    have := List.all_eq_true.mp hb c hc
    rw [q.1, Nat.beq_refl] at this
    cases this
theorem frm_cp {W : List Nat} {V : List (Nat × Nat)} {A A1 A2 : qA} {r0 r : Nat} {sp dp n : Int} (h : frm W V A A1) (e : A2 = qcpy A1 r0 sp r dp n) (hs : W.contains r = true) : frm W V A A2 := by
  subst e
  intro r' i hr hf
  unfold qcpy
  rw [if_neg]
  · exact h r' i hr hf
  · intro q
    rw [q.1] at hr
    exact hr (List.contains_iff_mem.mp hs)
theorem cp_a {A A' : qA} {r0 r r' : Nat} {sp dp n : Int} (e : A' = qcpy A r0 sp r dp n) (h : Nat.beq r' r = false) : A' r' = A r' := by
  subst e
  funext i
  exact if_neg (fun q => by rw [q.1, Nat.beq_refl] at h; cases h)
/-! numbers that are computed -/
theorem qd_nn {a b : Int} (h : 0 ≤ a) : qd a b = a / b := Int.tdiv_eq_ediv_of_nonneg h
theorem qm_nn {a b : Int} (h : 0 ≤ a) : qm a b = a % b := Int.tmod_eq_emod_of_nonneg h
theorem qm_bd {a b : Int} (h : 0 < b) : -b < qm a b ∧ qm a b < b := by
  unfold qm
  exact ⟨Int.lt_tmod_of_pos a h, Int.tmod_lt_of_pos a h⟩
theorem qd_bd {a b lo hi : Int} (hb : 0 < b) (h1 : lo ≤ a) (h2 : a ≤ hi) (h3 : lo ≤ 0) (h4 : 0 ≤ hi) : lo ≤ qd a b ∧ qd a b ≤ hi := by
  unfold qd
  rcases Int.le_total 0 a with h | h
  · rw [Int.tdiv_eq_ediv_of_nonneg h]
    have e1 := Int.ediv_nonneg h (Int.le_of_lt hb)
    have e2 := Int.ediv_le_self b h
    exact ⟨by omega, by omega⟩
  · have h' : 0 ≤ -a := by omega
    have e0 : Int.tdiv a b = - ((-a) / b) := by
      rw [← Int.tdiv_eq_ediv_of_nonneg h', Int.neg_tdiv, Int.neg_neg]
    have e1 := Int.ediv_nonneg h' (Int.le_of_lt hb)
    have e2 := Int.ediv_le_self b h'
    rw [e0]
    exact ⟨by omega, by omega⟩
theorem mul_bd {a b p q : Int} (h1 : 0 ≤ a) (h2 : a ≤ p) (h3 : 0 ≤ b) (h4 : b ≤ q) : 0 ≤ a * b ∧ a * b ≤ p * q :=
  ⟨Int.mul_nonneg h1 h3, Int.mul_le_mul h2 h4 h3 (Int.le_trans h1 h2)⟩
theorem and_bv (a b : Int) : (Int32.ofInt a &&& Int32.ofInt b).toBitVec = BitVec.ofInt 32 a &&& BitVec.ofInt 32 b := rfl
theorem ofi_nat {a : Int} (h : 0 ≤ a) : BitVec.ofInt 32 a = BitVec.ofNat 32 a.toNat := by
  obtain ⟨n, rfl⟩ := Int.eq_ofNat_of_zero_le h
  rw [Int.toNat_natCast]; rfl
theorem bv_toInt {n : Nat} (h : n < 2147483648) : (BitVec.ofNat 32 n).toInt = n := by
  rw [BitVec.toInt_eq_toNat_of_lt, BitVec.toNat_ofNat, Nat.mod_eq_of_lt (by omega)]
  rw [BitVec.toNat_ofNat, Nat.mod_eq_of_lt (by omega)]
  omega
theorem ia_nat {a b : Int} (ha : rng a) (hb : rng b) (h0 : 0 ≤ a) (h1 : 0 ≤ b) : ia a b = ((a.toNat &&& b.toNat : Nat) : Int) := by
  have e : ia a b = (BitVec.ofInt 32 a &&& BitVec.ofInt 32 b).toInt := rfl
  rw [e, ofi_nat h0, ofi_nat h1, ← BitVec.ofNat_and, bv_toInt]
  exact Nat.lt_of_le_of_lt Nat.and_le_left (by omega)
theorem io_nat {a b : Int} (ha : rng a) (hb : rng b) (h0 : 0 ≤ a) (h1 : 0 ≤ b) : io a b = ((a.toNat ||| b.toNat : Nat) : Int) := by
  have e : io a b = (BitVec.ofInt 32 a ||| BitVec.ofInt 32 b).toInt := rfl
  rw [e, ofi_nat h0, ofi_nat h1, ← BitVec.ofNat_or, bv_toInt]
  exact Nat.or_lt_two_pow (n := 31) (by omega) (by omega)
/-- and with a number that is not below 0 -/
theorem ia_bd {a b : Int} (hb : rng b) (h1 : 0 ≤ b) : 0 ≤ ia a b ∧ ia a b ≤ b := by
  have e : ia a b = (BitVec.ofInt 32 a &&& BitVec.ofInt 32 b).toInt := rfl
  rw [e, ofi_nat h1]
  have h2 : (BitVec.ofInt 32 a &&& BitVec.ofNat 32 b.toNat).toNat ≤ b.toNat := by
    rw [BitVec.toNat_and, BitVec.toNat_ofNat, Nat.mod_eq_of_lt (by omega)]
    exact Nat.and_le_right
  rw [BitVec.toInt_eq_toNat_of_lt (by omega)]
  omega
theorem ia_comm (a b : Int) : ia a b = ia b a := by
  unfold ia
  rw [Int32.and_comm]
theorem io_bd {a b : Int} (k : Nat) (hk : k ≤ 31) (h0 : 0 ≤ a) (h1 : 0 ≤ b) (h2 : a < (2 ^ k : Nat)) (h3 : b < (2 ^ k : Nat)) : 0 ≤ io a b ∧ io a b < (2 ^ k : Nat) := by
  have hp : (2 ^ k : Nat) ≤ 2 ^ 31 := Nat.pow_le_pow_right (by decide) hk
  have hp2 : ((2 ^ k : Nat) : Int) ≤ 2147483648 := by
    have : ((2 ^ 31 : Nat) : Int) = 2147483648 := by decide
    omega
  rw [io_nat ⟨by omega, by omega⟩ ⟨by omega, by omega⟩ h0 h1]
  have := Nat.or_lt_two_pow (n := k) (x := a.toNat) (y := b.toNat) (by omega) (by omega)
  omega
theorem sr_sh {a b : Int} (ha : rng a) : sr a b = a >>> ((Int32.ofInt b &&& 31).toBitVec.smod 32).toNat := by
  have e : sr a b = (BitVec.sshiftRight' (Int32.ofInt a).toBitVec ((Int32.ofInt b &&& 31).toBitVec.smod 32)).toInt := rfl
  rw [e, BitVec.toInt_sshiftRight']
  have e2 : (Int32.ofInt a).toBitVec.toInt = a := iI_to ha
  rw [e2]
theorem sh_k : ∀ k < 32, ((Int32.ofInt ((k : Nat) : Int) &&& 31).toBitVec.smod 32).toNat = k := by decide +kernel
theorem sr_is {a b : Int} (ha : rng a) (h0 : 0 ≤ b) (h1 : b < 32) : sr a b = a / 2 ^ b.toNat := by
  rw [sr_sh ha]
  have := sh_k b.toNat (by omega)
  rw [show ((b.toNat : Nat) : Int) = b by omega] at this
  rw [this, Int.shiftRight_eq_div_pow]
  norm_cast
theorem sr_bd {a b : Int} (ha : rng a) (h0 : 0 ≤ a) : 0 ≤ sr a b ∧ sr a b ≤ a := by
  rw [sr_sh ha, Int.shiftRight_eq_div_pow]
  exact ⟨Int.ediv_nonneg h0 (by exact_mod_cast Nat.zero_le _), Int.ediv_le_self _ h0⟩
theorem sl_k : ∀ k < 31, sl 1 ((k : Nat) : Int) = ((2 ^ k : Nat) : Int) := by decide +kernel
theorem sl_1 {b : Int} (h0 : 0 ≤ b) (h1 : b < 31) : sl 1 b = ((2 ^ b.toNat : Nat) : Int) := by
  have := sl_k b.toNat (by omega)
  rw [show ((b.toNat : Nat) : Int) = b by omega] at this
  exact this
theorem sl_bd {b : Int} (m : Nat) (hm : m < 31) (h0 : 0 ≤ b) (h1 : b ≤ m) : 1 ≤ sl 1 b ∧ sl 1 b ≤ ((2 ^ m : Nat) : Int) := by
  rw [sl_1 h0 (by omega)]
  have h2 : (2 ^ b.toNat : Nat) ≤ 2 ^ m := Nat.pow_le_pow_right (by decide) (by omega)
  have h3 : 0 < (2 ^ b.toNat : Nat) := Nat.pow_pos (by decide)
  omega
theorem bi_1 {p : Prop} [Decidable p] (h : p) : bi p = 1 := if_pos h
theorem bi_0 {p : Prop} [Decidable p] (h : ¬ p) : bi p = 0 := if_neg h
theorem w8_bd (z : Int) : -128 ≤ w8 z ∧ w8 z < 128 := by
  unfold w8
  rw [Int8.toInt_toInt32]
  have h1 := Int8.le_toInt (Int32.ofInt z).toInt8
  have h2 := Int8.toInt_lt (Int32.ofInt z).toInt8
  omega
theorem abs_bd (x : Int) : ((if 0 ≤ x then x else -x) = x ∧ 0 ≤ x) ∨ ((if 0 ≤ x then x else -x) = -x ∧ x < 0) := by
  by_cases h : 0 ≤ x
  · rw [if_pos h]; exact Or.inl ⟨rfl, h⟩
  · rw [if_neg h]; exact Or.inr ⟨rfl, by omega⟩
