/-! BOUNDS: the pure machine over what is known of its numbers. A number x stands as x + 2^31 -/
abbrev ab_V : Type := Nat × Nat × Nat
abbrev ab_C : Type := (Nat × Nat × (Nat × Nat) × List (Nat × Nat)) ⊕ (Nat × List ab_V)
abbrev ab_G : Type := Nat × Nat
abbrev ab_L : Type := List (Nat × ab_V)
abbrev ab_S : Type := ab_G × ab_L × List ab_V × List ab_C
def ab_n (x : Int32) : Nat := (x.toBitVec.toNat + 2147483648) % 4294967296
def ab_m (x : Int64) : Nat := x.toBitVec.toNat
def ab_i (n : Nat) : Int32 := Int32.ofNat (n + 2147483648)
def ab_j (n : Nat) : Int64 := Int64.ofNat n
def ab_in (p : Nat × Nat) (x : Int32) : Prop := p.1 ≤ ab_n x ∧ ab_n x ≤ p.2
def ab_im (p : Nat × Nat) (x : Int64) : Prop := p.1 ≤ ab_m x ∧ ab_m x ≤ p.2
theorem ab_n_int (x : Int32) : (ab_n x : Int) = x.toInt + 2147483648 := by
  have h1 : x.toInt = x.toBitVec.toInt := rfl
  have h2 := x.toBitVec.isLt
  rw [h1, BitVec.toInt_eq_toNat_bmod]
  unfold ab_n
  rw [Int.bmod_def]
  omega
theorem ab_n_lt (x : Int32) : ab_n x < 4294967296 := Nat.mod_lt _ (by decide)
theorem ab_m_lt (x : Int64) : ab_m x < 18446744073709551616 := x.toBitVec.isLt
theorem ab_i_n (x : Int32) : ab_i (ab_n x) = x := by
  apply Int32.toBitVec_inj.mp
  apply BitVec.eq_of_toNat_eq
  have h2 := x.toBitVec.isLt
  unfold ab_i ab_n
  rw [Int32.toBitVec_ofNat', BitVec.toNat_ofNat]
  omega
theorem ab_j_m (x : Int64) : ab_j (ab_m x) = x := by
  apply Int64.toBitVec_inj.mp
  apply BitVec.eq_of_toNat_eq
  have h2 := x.toBitVec.isLt
  unfold ab_j ab_m
  rw [Int64.toBitVec_ofNat', BitVec.toNat_ofNat]
  omega
theorem ab_m_int (x : Int64) (h : ab_m x < 9223372036854775808) : (ab_m x : Int) = x.toInt := by
  have h1 : x.toInt = x.toBitVec.toInt := rfl
  rw [h1, BitVec.toInt_eq_toNat_bmod]
  unfold ab_m at *
  rw [Int.bmod_def]
  omega
theorem ab_one {p : Nat × Nat} {x : Int32} (h : ab_in p x) (e : (p.1 == p.2) = true) : x = ab_i p.1 := by
  have e' : p.1 = p.2 := by simpa using e
  have : ab_n x = p.1 := by unfold ab_in at h; omega
  rw [← this, ab_i_n]
theorem ab_one64 {p : Nat × Nat} {x : Int64} (h : ab_im p x) (e : (p.1 == p.2) = true) : x = ab_j p.1 := by
  have e' : p.1 = p.2 := by simpa using e
  have : ab_m x = p.1 := by unfold ab_im at h; omega
  rw [← this, ab_j_m]
def ab_top : Nat × Nat := (0, 4294967295)
def ab_top64 : Nat × Nat := (0, 18446744073709551615)
theorem ab_in_top (x : Int32) : ab_in ab_top x := ⟨Nat.zero_le _, by have := ab_n_lt x; unfold ab_top; omega⟩
theorem ab_im_top (x : Int64) : ab_im ab_top64 x := ⟨Nat.zero_le _, by have := ab_m_lt x; unfold ab_top64; omega⟩
theorem ab_in_self (x : Int32) : ab_in (ab_n x, ab_n x) x := ⟨Nat.le_refl _, Nat.le_refl _⟩
theorem ab_im_self (x : Int64) : ab_im (ab_m x, ab_m x) x := ⟨Nat.le_refl _, Nat.le_refl _⟩
/-- two known numbers -/
def ab_ex (f : Int32 → Int32 → Int32) (p q : Nat × Nat) : Nat × Nat := bif p.1 == p.2 && q.1 == q.2 then (ab_n (f (ab_i p.1) (ab_i q.1)), ab_n (f (ab_i p.1) (ab_i q.1))) else ab_top
theorem ab_ex_ok (f : Int32 → Int32 → Int32) {p q : Nat × Nat} {x y : Int32} (h1 : ab_in p x) (h2 : ab_in q y) : ab_in (ab_ex f p q) (f x y) := by
  unfold ab_ex
  cases hc : (p.1 == p.2 && q.1 == q.2) with
  | false => exact ab_in_top _
  | true =>
    simp only [Bool.and_eq_true] at hc
    rw [ab_one h1 hc.1, ab_one h2 hc.2]
    exact ab_in_self _
def ab_ex64 (f : Int64 → Int64 → Int64) (p q : Nat × Nat) : Nat × Nat := bif p.1 == p.2 && q.1 == q.2 then (ab_m (f (ab_j p.1) (ab_j q.1)), ab_m (f (ab_j p.1) (ab_j q.1))) else ab_top64
theorem ab_ex64_ok (f : Int64 → Int64 → Int64) {p q : Nat × Nat} {x y : Int64} (h1 : ab_im p x) (h2 : ab_im q y) : ab_im (ab_ex64 f p q) (f x y) := by
  unfold ab_ex64
  cases hc : (p.1 == p.2 && q.1 == q.2) with
  | false => exact ab_im_top _
  | true =>
    simp only [Bool.and_eq_true] at hc
    rw [ab_one64 h1 hc.1, ab_one64 h2 hc.2]
    exact ab_im_self _
theorem ab_int_in {p : Nat × Nat} {x : Int32} : ab_in p x ↔ (p.1 : Int) ≤ x.toInt + 2147483648 ∧ x.toInt + 2147483648 ≤ (p.2 : Int) := by
  have := ab_n_int x
  unfold ab_in
  omega
def ab_add (p q : Nat × Nat) : Nat × Nat := bif Nat.ble 2147483648 (p.1 + q.1) && Nat.ble (p.2 + q.2) 6442450943 then (p.1 + q.1 - 2147483648, p.2 + q.2 - 2147483648) else ab_top
theorem ab_add_ok {p q : Nat × Nat} {x y : Int32} (h1 : ab_in p x) (h2 : ab_in q y) : ab_in (ab_add p q) (x + y) := by
  unfold ab_add
  cases hc : (Nat.ble 2147483648 (p.1 + q.1) && Nat.ble (p.2 + q.2) 6442450943) with
  | false => exact ab_in_top _
  | true =>
    simp only [Bool.and_eq_true, Nat.ble_eq] at hc
    rw [ab_int_in] at *
    have e : (x + y).toInt = x.toInt + y.toInt := by
      rw [Int32.toInt_add]
      exact Int.bmod_eq_of_le (by omega) (by omega)
    rw [e]
    simp only [cond_true]
    omega
def ab_sub (p q : Nat × Nat) : Nat × Nat := bif Nat.ble q.2 (p.1 + 2147483648) && Nat.ble (p.2 + 2147483648) (q.1 + 4294967295) then (p.1 + 2147483648 - q.2, p.2 + 2147483648 - q.1) else ab_top
theorem ab_sub_ok {p q : Nat × Nat} {x y : Int32} (h1 : ab_in p x) (h2 : ab_in q y) : ab_in (ab_sub p q) (x - y) := by
  unfold ab_sub
  cases hc : (Nat.ble q.2 (p.1 + 2147483648) && Nat.ble (p.2 + 2147483648) (q.1 + 4294967295)) with
  | false => exact ab_in_top _
  | true =>
    simp only [Bool.and_eq_true, Nat.ble_eq] at hc
    rw [ab_int_in] at *
    have e : (x - y).toInt = x.toInt - y.toInt := by
      rw [Int32.toInt_sub]
      exact Int.bmod_eq_of_le (by omega) (by omega)
    rw [e]
    simp only [cond_true]
    omega
def ab_mul (p q : Nat × Nat) : Nat × Nat := bif Nat.ble 2147483648 p.1 && Nat.ble 2147483648 q.1 && Nat.ble ((p.2 - 2147483648) * (q.2 - 2147483648)) 2147483647 then ((p.1 - 2147483648) * (q.1 - 2147483648) + 2147483648, (p.2 - 2147483648) * (q.2 - 2147483648) + 2147483648) else ab_ex (fun x y => x * y) p q
theorem ab_mul_ok {p q : Nat × Nat} {x y : Int32} (h1 : ab_in p x) (h2 : ab_in q y) : ab_in (ab_mul p q) (x * y) := by
  unfold ab_mul
  cases hc : (Nat.ble 2147483648 p.1 && Nat.ble 2147483648 q.1 && Nat.ble ((p.2 - 2147483648) * (q.2 - 2147483648)) 2147483647) with
  | false => exact ab_ex_ok _ h1 h2
  | true =>
    simp only [Bool.and_eq_true, Nat.ble_eq] at hc
    have a1 := ab_n_int x
    have a2 := ab_n_int y
    unfold ab_in at h1 h2
    obtain ⟨a, ha⟩ : ∃ a : Nat, x.toInt = a := ⟨x.toInt.toNat, by omega⟩
    obtain ⟨b, hb⟩ : ∃ b : Nat, y.toInt = b := ⟨y.toInt.toNat, by omega⟩
    have m1 : (p.1 - 2147483648) * (q.1 - 2147483648) ≤ a * b := Nat.mul_le_mul (by omega) (by omega)
    have m2 : a * b ≤ (p.2 - 2147483648) * (q.2 - 2147483648) := Nat.mul_le_mul (by omega) (by omega)
    have e : (x * y).toInt = ((a * b : Nat) : Int) := by
      rw [Int32.toInt_mul, ha, hb, ← Int.natCast_mul]
      exact Int.bmod_eq_of_le (by omega) (by omega)
    rw [ab_int_in, e]
    simp only [cond_true]
    omega
theorem ab_div_nn {x y : Int32} (hx : 0 ≤ x.toInt) (hy : 0 < y.toInt) : (x / y).toInt = x.toInt / y.toInt := by
  have h1 := x.toInt_lt
  have h2 := y.toInt_lt
  have hd : x.toInt.tdiv y.toInt = x.toInt / y.toInt := Int.tdiv_eq_ediv_of_nonneg hx
  have hn : 0 ≤ x.toInt / y.toInt := Int.ediv_nonneg hx (by omega)
  have hl : x.toInt / y.toInt ≤ x.toInt := Int.ediv_le_self _ hx
  rw [Int32.toInt_div, hd]
  exact Int.bmod_eq_of_le (by omega) (by omega)
theorem ab_rem_nn {x y : Int32} (hx : 0 ≤ x.toInt) (hy : 0 < y.toInt) : (x - x / y * y).toInt = x.toInt % y.toInt := by
  have h1 := x.toInt_lt
  have h2 := y.toInt_lt
  have hd := ab_div_nn hx hy
  have hn : 0 ≤ x.toInt / y.toInt := Int.ediv_nonneg hx (by omega)
  have hm := Int.emod_add_mul_ediv x.toInt y.toInt
  have hm0 := Int.emod_nonneg x.toInt (show y.toInt ≠ 0 by omega)
  have hc : y.toInt * (x.toInt / y.toInt) = x.toInt / y.toInt * y.toInt := Int.mul_comm _ _
  have hp : 0 ≤ x.toInt / y.toInt * y.toInt := Int.mul_nonneg hn (by omega)
  have e1 : (x / y * y).toInt = x.toInt / y.toInt * y.toInt := by
    rw [Int32.toInt_mul, hd]
    exact Int.bmod_eq_of_le (by omega) (by omega)
  rw [Int32.toInt_sub, e1]
  rw [show x.toInt - x.toInt / y.toInt * y.toInt = x.toInt % y.toInt by omega]
  exact Int.bmod_eq_of_le (by omega) (by omega)
/-- through a known number above 0 -/
def ab_div (p q : Nat × Nat) : Nat × Nat := bif p.1 == p.2 && q.1 == q.2 then ab_ex (fun x y => x / y) p q else bif Nat.ble 2147483648 p.1 && (Nat.blt 2147483648 q.1 && q.1 == q.2) then ((p.1 - 2147483648) / (q.1 - 2147483648) + 2147483648, (p.2 - 2147483648) / (q.1 - 2147483648) + 2147483648) else ab_top
theorem ab_div_ok {p q : Nat × Nat} {x y : Int32} (h1 : ab_in p x) (h2 : ab_in q y) : ab_in (ab_div p q) (x / y) := by
  unfold ab_div
  cases (p.1 == p.2 && q.1 == q.2) with
  | true => exact ab_ex_ok (fun x y => x / y) h1 h2
  | false =>
    cases hc : (Nat.ble 2147483648 p.1 && (Nat.blt 2147483648 q.1 && q.1 == q.2)) with
    | false => exact ab_in_top _
    | true =>
      simp only [Bool.and_eq_true, Nat.ble_eq, Nat.blt_eq, beq_iff_eq] at hc
      have a1 := ab_n_int x
      have a2 := ab_n_int y
      unfold ab_in at h1 h2
      obtain ⟨a, ha⟩ : ∃ a : Nat, x.toInt = a := ⟨x.toInt.toNat, by omega⟩
      obtain ⟨b, hb⟩ : ∃ b : Nat, y.toInt = b := ⟨y.toInt.toNat, by omega⟩
      have hb' : q.1 - 2147483648 = b := by omega
      rw [ab_int_in, ab_div_nn (by omega) (by omega), ha, hb, hb', ← Int.natCast_ediv]
      have m1 : (p.1 - 2147483648) / b ≤ a / b := Nat.div_le_div_right (by omega)
      have m2 : a / b ≤ (p.2 - 2147483648) / b := Nat.div_le_div_right (by omega)
      simp only [cond_true, cond_false]
      omega
theorem ab_remN {a b l h : Nat} (h1 : l ≤ a) (h2 : a ≤ h) (hd : l / b = h / b) : l % b ≤ a % b ∧ a % b ≤ h % b := by
  have m1 : l / b ≤ a / b := Nat.div_le_div_right h1
  have m2 : a / b ≤ h / b := Nat.div_le_div_right h2
  have e0 : a / b = l / b := Nat.le_antisymm (Nat.le_trans m2 (Nat.le_of_eq hd.symm)) m1
  have e1 := Nat.div_add_mod l b
  have e2 := Nat.div_add_mod h b
  have e3 := Nat.div_add_mod a b
  rw [e0] at e3
  rw [← hd] at e2
  omega
def ab_rem (p q : Nat × Nat) : Nat × Nat := bif p.1 == p.2 && q.1 == q.2 then ab_ex (fun x y => x - x / y * y) p q else bif Nat.ble 2147483648 p.1 && (Nat.blt 2147483648 q.1 && q.1 == q.2) then (bif (p.1 - 2147483648) / (q.1 - 2147483648) == (p.2 - 2147483648) / (q.1 - 2147483648) then ((p.1 - 2147483648) % (q.1 - 2147483648) + 2147483648, (p.2 - 2147483648) % (q.1 - 2147483648) + 2147483648) else (2147483648, q.1 - 1)) else ab_top
theorem ab_rem_ok {p q : Nat × Nat} {x y : Int32} (h1 : ab_in p x) (h2 : ab_in q y) : ab_in (ab_rem p q) (x - x / y * y) := by
  unfold ab_rem
  cases (p.1 == p.2 && q.1 == q.2) with
  | true => exact ab_ex_ok (fun x y => x - x / y * y) h1 h2
  | false =>
    cases hc : (Nat.ble 2147483648 p.1 && (Nat.blt 2147483648 q.1 && q.1 == q.2)) with
    | false => exact ab_in_top _
    | true =>
      simp only [Bool.and_eq_true, Nat.ble_eq, Nat.blt_eq, beq_iff_eq] at hc
      have a1 := ab_n_int x
      have a2 := ab_n_int y
      unfold ab_in at h1 h2
      obtain ⟨a, ha⟩ : ∃ a : Nat, x.toInt = a := ⟨x.toInt.toNat, by omega⟩
      obtain ⟨b, hb⟩ : ∃ b : Nat, y.toInt = b := ⟨y.toInt.toNat, by omega⟩
      have hb' : q.1 - 2147483648 = b := by omega
      have hr : ab_n (x - x / y * y) = a % b + 2147483648 := by
        have a3 := ab_n_int (x - x / y * y)
        rw [ab_rem_nn (by omega) (by omega), ha, hb, ← Int.natCast_emod] at a3
        omega
      have key : ∀ c : Bool, (c = true → (p.1 - 2147483648) / b = (p.2 - 2147483648) / b) → ab_in (bif c then ((p.1 - 2147483648) % b + 2147483648, (p.2 - 2147483648) % b + 2147483648) else (2147483648, q.1 - 1)) (x - x / y * y) := by
        intro c hd
        unfold ab_in
        rw [hr]
        cases c with
        | false =>
          have hlt : a % b < b := Nat.mod_lt _ (by omega)
          simp only [cond_false]
          omega
        | true =>
          have h9 := ab_remN (a := a) (b := b) (l := p.1 - 2147483648) (h := p.2 - 2147483648) (by omega) (by omega) (hd rfl)
          simp only [cond_true]
          omega
      rw [cond_false, cond_true, hb']
      exact key _ (fun e => eq_of_beq e)
theorem ab_nn {y : Int32} (h : 2147483648 ≤ ab_n y) : ab_n y = y.toBitVec.toNat + 2147483648 := by
  have := y.toBitVec.isLt
  unfold ab_n at *
  omega
def ab_and (p q : Nat × Nat) : Nat × Nat := bif p.1 == p.2 && q.1 == q.2 then ab_ex (fun x y => x &&& y) p q else bif Nat.ble 2147483648 q.1 then (2147483648, q.2) else bif Nat.ble 2147483648 p.1 then (2147483648, p.2) else ab_top
theorem ab_and_r {x y : Int32} (h : 2147483648 ≤ ab_n y) : 2147483648 ≤ ab_n (x &&& y) ∧ ab_n (x &&& y) ≤ ab_n y := by
  have h1 := ab_nn h
  have h2 := y.toBitVec.isLt
  have h4 := ab_n_lt y
  have h3 : (x &&& y).toBitVec.toNat ≤ y.toBitVec.toNat := by
    rw [Int32.toBitVec_and, BitVec.toNat_and]
    exact Nat.and_le_right
  have h5 : ab_n (x &&& y) = (x &&& y).toBitVec.toNat + 2147483648 := by unfold ab_n; omega
  omega
theorem ab_and_ok {p q : Nat × Nat} {x y : Int32} (h1 : ab_in p x) (h2 : ab_in q y) : ab_in (ab_and p q) (x &&& y) := by
  unfold ab_and
  cases (p.1 == p.2 && q.1 == q.2) with
  | true => exact ab_ex_ok (fun x y => x &&& y) h1 h2
  | false =>
    cases hc : Nat.ble 2147483648 q.1 with
    | true =>
      simp only [Nat.ble_eq] at hc
      unfold ab_in at *
      have := ab_and_r (x := x) (y := y) (by omega)
      simp only [cond_true, cond_false]
      omega
    | false =>
      cases hc2 : Nat.ble 2147483648 p.1 with
      | true =>
        simp only [Nat.ble_eq] at hc2
        unfold ab_in at *
        have := ab_and_r (x := y) (y := x) (by omega)
        have e : x &&& y = y &&& x := by
          apply Int32.toBitVec_inj.mp
          rw [Int32.toBitVec_and, Int32.toBitVec_and, BitVec.and_comm]
        rw [e]
        simp only [cond_true, cond_false]
        omega
      | false => exact ab_in_top _
def ab_max (p q : Nat × Nat) : Nat × Nat := (bif Nat.ble p.1 q.1 then q.1 else p.1, bif Nat.ble p.2 q.2 then q.2 else p.2)
def ab_min (p q : Nat × Nat) : Nat × Nat := (bif Nat.ble p.1 q.1 then p.1 else q.1, bif Nat.ble p.2 q.2 then p.2 else q.2)
def ab_hul (p q : Nat × Nat) : Nat × Nat := (bif Nat.ble p.1 q.1 then p.1 else q.1, bif Nat.ble p.2 q.2 then q.2 else p.2)
theorem ab_ltn {x y : Int32} : x < y ↔ ab_n x < ab_n y := by
  rw [Int32.lt_iff_toInt_lt]
  have := ab_n_int x
  have := ab_n_int y
  omega
theorem ab_len {x y : Int32} : x ≤ y ↔ ab_n x ≤ ab_n y := by
  rw [Int32.le_iff_toInt_le]
  have := ab_n_int x
  have := ab_n_int y
  omega
theorem ab_eqn {x y : Int32} : x = y ↔ ab_n x = ab_n y := by
  constructor
  · intro h; rw [h]
  · intro h
    rw [← ab_i_n x, ← ab_i_n y, h]
theorem ab_maxN (a b : Nat) : (bif Nat.ble a b then b else a) = max a b := by
  cases h : Nat.ble a b with
  | true => rw [Nat.ble_eq] at h; simp only [cond_true]; omega
  | false => have h' : ¬ a ≤ b := fun q => by rw [← Nat.ble_eq, h] at q; cases q
             simp only [cond_false]; omega
theorem ab_minN (a b : Nat) : (bif Nat.ble a b then a else b) = min a b := by
  cases h : Nat.ble a b with
  | true => rw [Nat.ble_eq] at h; simp only [cond_true]; omega
  | false => have h' : ¬ a ≤ b := fun q => by rw [← Nat.ble_eq, h] at q; cases q
             simp only [cond_false]; omega
theorem ab_max_ok {p q : Nat × Nat} {x y : Int32} (h1 : ab_in p x) (h2 : ab_in q y) : ab_in (ab_max p q) (if x < y then y else x) := by
  unfold ab_in ab_max at *
  simp only [ab_maxN]
  by_cases hc : x < y
  · rw [if_pos hc]; rw [ab_ltn] at hc; omega
  · rw [if_neg hc]; rw [ab_ltn] at hc; omega
theorem ab_min_ok {p q : Nat × Nat} {x y : Int32} (h1 : ab_in p x) (h2 : ab_in q y) : ab_in (ab_min p q) (if y < x then y else x) := by
  unfold ab_in ab_min at *
  simp only [ab_minN]
  by_cases hc : y < x
  · rw [if_pos hc]; rw [ab_ltn] at hc; omega
  · rw [if_neg hc]; rw [ab_ltn] at hc; omega
theorem ab_hul_l {p q : Nat × Nat} {n : Nat} (h : p.1 ≤ n ∧ n ≤ p.2) : (ab_hul p q).1 ≤ n ∧ n ≤ (ab_hul p q).2 := by
  unfold ab_hul
  simp only [ab_maxN, ab_minN]
  omega
theorem ab_hul_r {p q : Nat × Nat} {n : Nat} (h : q.1 ≤ n ∧ n ≤ q.2) : (ab_hul p q).1 ≤ n ∧ n ≤ (ab_hul p q).2 := by
  unfold ab_hul
  simp only [ab_maxN, ab_minN]
  omega
def ab_abs (p : Nat × Nat) : Nat × Nat := bif Nat.ble 2147483648 p.1 then p else ab_ex (fun x _ => if 0 ≤ x then x else 0 - x) p p
theorem ab_z : ab_n 0 = 2147483648 := by decide
theorem ab_abs_ok {p : Nat × Nat} {x : Int32} (h1 : ab_in p x) : ab_in (ab_abs p) (if 0 ≤ x then x else 0 - x) := by
  unfold ab_abs
  cases hc : Nat.ble 2147483648 p.1 with
  | true =>
    rw [Nat.ble_eq] at hc
    have : 0 ≤ x := by rw [ab_len, ab_z]; unfold ab_in at h1; omega
    rw [if_pos this]
    exact h1
  | false => exact ab_ex_ok (fun x _ => if 0 ≤ x then x else 0 - x) h1 h1
/-- one known number -/
def ab_e1 (f : Int32 → Int32) (t : Nat × Nat) (p : Nat × Nat) : Nat × Nat := bif p.1 == p.2 then (ab_n (f (ab_i p.1)), ab_n (f (ab_i p.1))) else t
theorem ab_e1_ok {f : Int32 → Int32} {t p : Nat × Nat} {x : Int32} (ht : ab_in t (f x)) (h1 : ab_in p x) : ab_in (ab_e1 f t p) (f x) := by
  unfold ab_e1
  cases hc : (p.1 == p.2) with
  | true => rw [ab_one h1 hc]; exact ab_in_self _
  | false => exact ht
def ab_i2l (p : Nat × Nat) : Nat × Nat := bif p.1 == p.2 then (ab_m (ab_i p.1).toInt64, ab_m (ab_i p.1).toInt64) else bif Nat.ble 2147483648 p.1 then (p.1 - 2147483648, p.2 - 2147483648) else ab_top64
theorem ab_i2l_ok {p : Nat × Nat} {x : Int32} (h1 : ab_in p x) : ab_im (ab_i2l p) x.toInt64 := by
  unfold ab_i2l
  cases hc : (p.1 == p.2) with
  | true => rw [ab_one h1 hc]; exact ab_im_self _
  | false =>
    cases hd : Nat.ble 2147483648 p.1 with
    | false => exact ab_im_top _
    | true =>
      rw [Nat.ble_eq] at hd
      rw [cond_false, cond_true]
      have a1 := ab_n_int x
      have a2 : x.toInt64.toInt = x.toInt := Int32.toInt_toInt64 x
      have a3 : x.toInt64.toInt = x.toInt64.toBitVec.toInt := rfl
      have a4 := x.toInt64.toBitVec.isLt
      have a5 : (ab_m x.toInt64 : Int) = x.toInt := by
        rw [a3, BitVec.toInt_eq_toNat_bmod, Int.bmod_def] at a2
        unfold ab_in at h1
        have a6 := x.toInt_lt
        unfold ab_m
        omega
      unfold ab_in at h1
      unfold ab_im
      show p.1 - 2147483648 ≤ _ ∧ _ ≤ p.2 - 2147483648
      omega
def ab_l2i (p : Nat × Nat) : Nat × Nat := bif p.1 == p.2 then (ab_n (ab_j p.1).toInt32, ab_n (ab_j p.1).toInt32) else ab_top
theorem ab_l2i_ok {p : Nat × Nat} {x : Int64} (h1 : ab_im p x) : ab_in (ab_l2i p) x.toInt32 := by
  unfold ab_l2i
  cases hc : (p.1 == p.2) with
  | true => rw [ab_one64 h1 hc]; exact ab_in_self _
  | false => exact ab_in_top _
def ab_lnd (p q : Nat × Nat) : Nat × Nat := bif p.1 == p.2 && q.1 == q.2 then ab_ex64 (fun x y => x &&& y) p q else (0, bif Nat.ble p.2 q.2 then p.2 else q.2)
theorem ab_lnd_ok {p q : Nat × Nat} {x y : Int64} (h1 : ab_im p x) (h2 : ab_im q y) : ab_im (ab_lnd p q) (x &&& y) := by
  unfold ab_lnd
  cases (p.1 == p.2 && q.1 == q.2) with
  | true => exact ab_ex64_ok (fun x y => x &&& y) h1 h2
  | false =>
    have e1 : ab_m (x &&& y) ≤ ab_m x := by unfold ab_m; rw [Int64.toBitVec_and, BitVec.toNat_and]; exact Nat.and_le_left
    have e2 : ab_m (x &&& y) ≤ ab_m y := by unfold ab_m; rw [Int64.toBitVec_and, BitVec.toNat_and]; exact Nat.and_le_right
    rw [cond_false, ab_minN]
    unfold ab_im at *
    simp only []
    omega
/-- a long moved by a number of places -/
def ab_shf (f : Int64 → Int32 → Int64) (p q : Nat × Nat) : Nat × Nat := bif p.1 == p.2 && q.1 == q.2 then (ab_m (f (ab_j p.1) (ab_i q.1)), ab_m (f (ab_j p.1) (ab_i q.1))) else bif p.2 == 0 then (0, 0) else ab_top64
theorem ab_shf_ok {f : Int64 → Int32 → Int64} (hz : ∀ y, f 0 y = 0) {p q : Nat × Nat} {x : Int64} {y : Int32} (h1 : ab_im p x) (h2 : ab_in q y) : ab_im (ab_shf f p q) (f x y) := by
  unfold ab_shf
  cases hc : (p.1 == p.2 && q.1 == q.2) with
  | true =>
    simp only [Bool.and_eq_true] at hc
    rw [ab_one64 h1 hc.1, ab_one h2 hc.2]
    exact ab_im_self _
  | false =>
    cases hd : (p.2 == 0) with
    | false => exact ab_im_top _
    | true =>
      have e0 : p.2 = 0 := by simpa using hd
      have e1 : ab_m x = 0 := by unfold ab_im at h1; omega
      have e2 : x = 0 := by rw [← ab_j_m x, e1]; rfl
      rw [e2, hz]
      exact ⟨Nat.le_refl _, Nat.le_refl _⟩
def ab_lcm (p q : Nat × Nat) : Nat × Nat := bif p.1 == p.2 && q.1 == q.2 then (ab_n (lg_cmp (ab_j p.1) (ab_j q.1)), ab_n (lg_cmp (ab_j p.1) (ab_j q.1))) else (2147483647, 2147483649)
theorem ab_lcm_ok {p q : Nat × Nat} {x y : Int64} (h1 : ab_im p x) (h2 : ab_im q y) : ab_in (ab_lcm p q) (lg_cmp x y) := by
  unfold ab_lcm
  cases hc : (p.1 == p.2 && q.1 == q.2) with
  | true =>
    simp only [Bool.and_eq_true] at hc
    rw [ab_one64 h1 hc.1, ab_one64 h2 hc.2]
    exact ab_in_self _
  | false =>
    rw [cond_false]
    unfold lg_cmp ab_in
    by_cases h3 : x > y
    · rw [if_pos h3]; decide
    · rw [if_neg h3]
      by_cases h4 : x = y
      · rw [if_pos h4]; decide
      · rw [if_neg h4]; decide
