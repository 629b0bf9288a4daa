/-! THE MODEL MENDS -/
def stM (cs : Nat → Nat) (n : Nat) (A : Nat → Int → Int) : Prop := (∀ j : Nat, j < n → A 50 j = (cs j : Nat)) ∧ (∀ j : Nat, j < 8 → A 21 j = 1) ∧ (∀ j : Nat, j < 48 → A 1 j = 0)
theorem stM_u {cs : Nat → Nat} {n : Nat} {A : Nat → Int → Int} {z v : Int} (S : stM cs n A) : stM cs n (u2 A 63 z v) := by
  obtain ⟨s1, s2, s3⟩ := S
  refine ⟨fun j hj => ?_, fun j hj => ?_, fun j hj => ?_⟩
  · rw [u2_ne (by omega)]; exact s1 j hj
  · rw [u2_ne (by omega)]; exact s2 j hj
  · rw [u2_ne (by omega)]; exact s3 j hj
section MF
variable {D : Nat} {h : pv_H} {cs : Nat → Nat} {n : Nat} {A : Nat → Int → Int}
theorem takesOf_M {z : Nat} (hz : z < 48) : wR (D + 1) 237 [.int (Int32.ofInt (z : Nat))] h (is0 h ((1 + z % 6 : Nat) : Int)) := by
  refine wR_in (M := mX12_takesOf) rfl (Nat.le_of_ble_eq_true rfl) ?_
  refine wG_step rfl rfl rfl rfl ?_
  refine wG_step rfl rfl rfl rfl ?_
  refine wG_r6 rfl rfl hz ?_
  refine wG_iadd rfl ?_
  refine wG_ret rfl rfl ?_
  refine ⟨?_, rfl⟩
  rw [show (1 : Int) + ((z % 6 : Nat) : Int) = ((1 + z % 6 : Nat) : Int) by omega]
theorem hoursOf_M (hn : n < 9) (hcs : ∀ j, j < n → cs j < 48) (H : hp (oM n) lM 64 h A) (S : stM cs n A) {d : Nat} (hd : d < 2 ^ n) : wR (D + 2) 238 [.ref 0, .int (Int32.ofInt (d : Nat))] h (is0 h (hrs cs d n : Nat)) := by
  have hp8 := pow8 hn
  refine wR_in (M := mX12_hoursOf) rfl (Nat.le_of_ble_eq_true rfl) ?_
  refine wG_step rfl rfl rfl rfl ?_
  refine wG_step rfl rfl rfl rfl ?_
  refine wG_step rfl rfl rfl rfl ?_
  refine wG_step rfl rfl rfl rfl ?_
  have lp : ∀ m i, i + m = n → wG (D + 1) rX12_hoursOf 4 [(0, .ref 0), (1, .int (Int32.ofInt (d : Nat))), (2, .int (Int32.ofInt (hrs cs d i : Nat))), (3, .int (Int32.ofInt (i : Nat)))] [] h (is0 h (hrs cs d n : Nat)) := by
    intro m
    induction m with
    | zero =>
      intro i hi
      have : i = n := by omega
      subst this
      refine wG_step rfl rfl rfl rfl ?_
      refine wG_step rfl rfl rfl rfl ?_
      refine wG_fld H 0 rfl rfl rfl ?_
      refine wG_c2t rfl (rng_n (by omega)) (rng_n (by omega)) (Int.le_refl _) ?_
      refine wG_step rfl rfl rfl rfl ?_
      refine wG_ret rfl rfl ?_
      exact ⟨rfl, rfl⟩
    | succ m ih =>
      intro i hi
      have hh := hrs_le (cs := cs) d i
      have h6 : cs i % 6 < 6 := Nat.mod_lt _ (by decide)
      have nxt : ∀ s : Int, ((hrs cs d i : Nat) : Int) + s = (hrs cs d (i + 1) : Nat) → wG (D + 1) rX12_hoursOf 23 [(0, .ref 0), (1, .int (Int32.ofInt (d : Nat))), (2, .int (Int32.ofInt (hrs cs d i : Nat))), (3, .int (Int32.ofInt (i : Nat)))] [.int (Int32.ofInt s), .int (Int32.ofInt (hrs cs d i : Nat))] h (is0 h (hrs cs d n : Nat)) := by
        intro s hs
        refine wG_iadd rfl ?_
        rw [hs]
        refine wG_step rfl rfl rfl rfl ?_
        refine wG_iinc rfl rfl rfl ?_
        refine wG_step rfl rfl rfl rfl ?_
        exact wG_pick [0, 1, 2, 3] (by decide) (ih (i + 1) (by omega))
      refine wG_step rfl rfl rfl rfl ?_
      refine wG_step rfl rfl rfl rfl ?_
      refine wG_fld H 0 rfl rfl rfl ?_
      refine wG_c2f rfl (rng_n (by omega)) (rng_n (by omega)) (by show ¬ (n : Int) ≤ i; omega) ?_
      refine wG_step rfl rfl rfl rfl ?_
      refine wG_step rfl rfl rfl rfl ?_
      refine wG_step rfl rfl rfl rfl ?_
      refine wG_bt rfl rfl rfl (by omega) (by omega) ?_
      refine wG_step rfl rfl rfl rfl ?_
      have eh : hrs cs d (i + 1) = hrs cs d i + (if d.testBit i = true then 1 + cs i % 6 else 0) := rfl
      refine wG_c2 rfl (bt_rng d i) ⟨by decide, by decide⟩ (fun c => ?_) (fun c => ?_)
      · have c1 : ¬ bt d i = 1 := c
        rw [bt_1] at c1
        refine wG_step rfl rfl rfl rfl ?_
        refine nxt _ ?_
        rw [eh, if_neg c1]
        omega
      · have c1 : bt d i = 1 := Classical.not_not.mp c
        rw [bt_1] at c1
        refine wG_step rfl rfl rfl rfl ?_
        refine wG_fld H 0 rfl rfl rfl ?_
        refine wG_step rfl rfl rfl rfl ?_
        refine wG_ldv H 0 _ rfl rfl ⟨by omega, by omega, by decide⟩ (S.1 i (by omega)) ?_
        refine wG_csV rfl (Nat.le_of_ble_eq_true rfl) rfl (Nat.le_of_ble_eq_true rfl) (takesOf_M (hcs i (by omega))) ?_
        refine wG_step rfl rfl rfl rfl ?_
        refine nxt _ ?_
        rw [eh, if_pos c1]
        omega
  exact wG_pick [0, 1, 2, 3] (by decide) (lp n 0 (by omega))
theorem canBeNext_M (hn : n < 9) (hcs : ∀ j, j < n → cs j < 48) (hmo : ∀ i j, j < n → i < j → cs i < cs j) (H : hp (oM n) lM 64 h A) (S : stM cs n A) {d q : Nat} (hd : d < 2 ^ n) (hq : q < n) : wR (D + 1) 239 [.ref 0, .int (Int32.ofInt (d : Nat)), .int (Int32.ofInt (q : Nat))] h (is0 h (if can cs d q = true then 1 else 0)) := by
  have hp8 := pow8 hn
  refine wR_in (M := mX12_canBeNext) rfl (Nat.le_of_ble_eq_true rfl) ?_
  refine wG_step rfl rfl rfl rfl ?_
  refine wG_step rfl rfl rfl rfl ?_
  refine wG_bt rfl rfl rfl (by omega) (by omega) ?_
  refine wG_step rfl rfl rfl rfl ?_
  refine wG_c2 rfl (bt_rng d q) ⟨by decide, by decide⟩ (fun c => ?_) (fun c => ?_)
  rotate_left
  · have c1 : bt d q = 1 := Classical.not_not.mp c
    rw [bt_1] at c1
    refine wG_step rfl rfl rfl rfl ?_
    refine wG_ret rfl rfl ?_
    refine ⟨?_, rfl⟩
    unfold can
    rw [c1]
    rfl
  have c1 : ¬ bt d q = 1 := c
  rw [bt_1, Bool.not_eq_true] at c1
  refine wG_step rfl rfl rfl rfl ?_
  refine wG_step rfl rfl rfl rfl ?_
  have lp : ∀ m i, i + m = n → (∀ j, j < i → ¬ (cs j + 1 = cs q ∧ cs j % 6 ≠ 5 ∧ d.testBit j = false)) → wG D rX12_canBeNext 11 [(0, .ref 0), (1, .int (Int32.ofInt (d : Nat))), (2, .int (Int32.ofInt (q : Nat))), (3, .int (Int32.ofInt (i : Nat)))] [] h (is0 h (if can cs d q = true then 1 else 0)) := by
    intro m
    induction m with
    | zero =>
      intro i hi hB
      have : i = n := by omega
      subst this
      refine wG_step rfl rfl rfl rfl ?_
      refine wG_step rfl rfl rfl rfl ?_
      refine wG_fld H 0 rfl rfl rfl ?_
      refine wG_c2t rfl (rng_n (by omega)) (rng_n (by omega)) (Int.le_refl _) ?_
      refine wG_step rfl rfl rfl rfl ?_
      refine wG_ret rfl rfl ?_
      refine ⟨?_, rfl⟩
      have hc : can cs d q = true := by
        unfold can
        rw [c1]
        cases hb : blw cs q with
        | false => rfl
        | true =>
          cases ht : d.testBit (q - 1) with
          | true => rfl
          | false =>
            exfalso
            unfold blw at hb
            simp only [Bool.and_eq_true, decide_eq_true_eq] at hb
            exact hB (q - 1) (by omega) ⟨hb.2.2, by omega, ht⟩
      rw [if_pos hc]
    | succ m ih =>
      intro i hi hB
      have hi2 := hcs i (by omega)
      have hq2 := hcs q hq
      have nxt : ¬ (cs i + 1 = cs q ∧ cs i % 6 ≠ 5 ∧ d.testBit i = false) → wG D rX12_canBeNext 42 [(0, .ref 0), (1, .int (Int32.ofInt (d : Nat))), (2, .int (Int32.ofInt (q : Nat))), (3, .int (Int32.ofInt (i : Nat)))] [] h (is0 h (if can cs d q = true then 1 else 0)) := by
        intro hno
        refine wG_iinc rfl rfl rfl ?_
        refine wG_step rfl rfl rfl rfl ?_
        refine wG_pick [0, 1, 2, 3] (by decide) (ih (i + 1) (by omega) (fun j hj => ?_))
        by_cases hji : j = i
        · subst hji; exact hno
        · exact hB j (by omega)
      refine wG_step rfl rfl rfl rfl ?_
      refine wG_step rfl rfl rfl rfl ?_
      refine wG_fld H 0 rfl rfl rfl ?_
      refine wG_c2f rfl (rng_n (by omega)) (rng_n (by omega)) (by show ¬ (n : Int) ≤ i; omega) ?_
      refine wG_step rfl rfl rfl rfl ?_
      refine wG_fld H 0 rfl rfl rfl ?_
      refine wG_step rfl rfl rfl rfl ?_
      refine wG_ldv H 0 _ rfl rfl ⟨by omega, by omega, by decide⟩ (S.1 i (by omega)) ?_
      refine wG_step rfl rfl rfl rfl ?_
      refine wG_fld H 0 rfl rfl rfl ?_
      refine wG_step rfl rfl rfl rfl ?_
      refine wG_ldv H 0 _ rfl rfl ⟨by omega, by omega, by decide⟩ (S.1 q hq) ?_
      refine wG_step rfl rfl rfl rfl ?_
      refine wG_isub rfl ?_
      refine wG_c2 rfl (rng_n (by omega)) ⟨by omega, by omega⟩ (fun c => ?_) (fun c => ?_)
      · have c2 : ¬ ((cs i : Nat) : Int) = (cs q : Nat) - 1 := c
        exact wG_pick [0, 1, 2, 3] (by decide) (nxt (fun z => by omega))
      have c2 : ((cs i : Nat) : Int) = (cs q : Nat) - 1 := Classical.not_not.mp c
      refine wG_step rfl rfl rfl rfl ?_
      refine wG_fld H 0 rfl rfl rfl ?_
      refine wG_step rfl rfl rfl rfl ?_
      refine wG_ldv H 0 _ rfl rfl ⟨by omega, by omega, by decide⟩ (S.1 i (by omega)) ?_
      refine wG_r6 rfl rfl hi2 ?_
      refine wG_step rfl rfl rfl rfl ?_
      refine wG_c2 rfl (rng_n (by omega)) ⟨by decide, by decide⟩ (fun c => ?_) (fun c => ?_)
      · have c3 : ((cs i % 6 : Nat) : Int) = 5 := c
        exact wG_pick [0, 1, 2, 3] (by decide) (nxt (fun z => by omega))
      have c3 : ¬ ((cs i % 6 : Nat) : Int) = 5 := c
      refine wG_step rfl rfl rfl rfl ?_
      refine wG_step rfl rfl rfl rfl ?_
      refine wG_bt rfl rfl rfl (by omega) (by omega) ?_
      refine wG_c1 rfl (bt_rng d i) (fun c => ?_) (fun c => ?_)
      · have c4 : ¬ bt d i = 0 := c
        rw [bt_0] at c4
        exact wG_pick [0, 1, 2, 3] (by decide) (nxt (fun z => c4 z.2.2))
      · have c4 : bt d i = 0 := Classical.not_not.mp c
        rw [bt_0] at c4
        refine wG_step rfl rfl rfl rfl ?_
        refine wG_ret rfl rfl ?_
        refine ⟨?_, rfl⟩
        have hiq : i < q := by
          refine Nat.not_le.mp (fun z => ?_)
          rcases Nat.lt_or_ge q i with z2 | z2
          · have := hmo q i (by omega) z2; omega
          · have : i = q := by omega
            subst this; omega
        have hi1 : i = q - 1 := by
          refine Classical.byContradiction (fun z => ?_)
          have z1 := hmo i (q - 1) (by omega) (by omega)
          have z2 := hmo (q - 1) q hq (by omega)
          omega
        have hc : can cs d q = false := by
          have hb : blw cs q = true := by
            unfold blw
            rw [← hi1, decide_eq_true (by omega : cs i + 1 = cs q), decide_eq_true (by omega : 0 < cs q % 6), decide_eq_true (by omega : 0 < q)]
            rfl
          unfold can
          rw [c1, hb, ← hi1, c4]
          rfl
        rw [if_neg (by rw [hc]; decide)]
  exact wG_pick [0, 1, 2, 3] (by decide) (lp n 0 (by omega) (fun j hj => absurd hj (Nat.not_lt_zero _)))
theorem costBy_M (hn : n < 9) (hcs : ∀ j, j < n → cs j < 48) (H : hp (oM n) lM 64 h A) (S : stM cs n A) {K : Nat → Nat} {d q : Nat} (hd : d < 2 ^ n) (hq : q < n) (hc : can cs d q = true) (hk : A 63 ((d ||| 2 ^ q : Nat) : Int) = (K (d ||| 2 ^ q) : Nat)) : wR (D + 3) 240 [.ref 0, .int (Int32.ofInt (d : Nat)), .int (Int32.ofInt (q : Nat))] h (is0 h (via cs n K d q : Nat)) := by
  have hp8 := pow8 hn
  have hq2 := hcs q hq
  have h9 := or_lt hd hq
  refine wR_in (M := mX12_costBy) rfl (Nat.le_of_ble_eq_true rfl) ?_
  refine wG_step rfl rfl rfl rfl ?_
  refine wG_step rfl rfl rfl rfl ?_
  refine wG_cvV H 0 rfl rfl rfl (Nat.le_of_ble_eq_true rfl) (hoursOf_M hn hcs H S hd) ?_
  refine wG_step rfl rfl rfl rfl ?_
  refine wG_fld H 0 rfl rfl rfl ?_
  refine wG_step rfl rfl rfl rfl ?_
  refine wG_ldv H 0 _ rfl rfl ⟨by omega, by omega, by decide⟩ (S.1 q hq) ?_
  refine wG_csV rfl (Nat.le_of_ble_eq_true rfl) rfl (Nat.le_of_ble_eq_true rfl) (takesOf_M hq2) ?_
  refine wG_iadd rfl ?_
  refine wG_step rfl rfl rfl rfl ?_
  refine wG_fld H 0 rfl rfl rfl ?_
  refine wG_step rfl rfl rfl rfl ?_
  refine wG_fld H 0 rfl rfl rfl ?_
  refine wG_step rfl rfl rfl rfl ?_
  refine wG_ldv H 0 _ rfl rfl ⟨by omega, by omega, by decide⟩ (S.1 q hq) ?_
  refine wG_d6 rfl rfl hq2 ?_
  refine wG_ldv H 2 _ rfl rfl ⟨by omega, by omega, by decide⟩ (S.2.1 _ (by omega)) ?_
  refine wG_imul rfl ?_
  refine wG_step rfl rfl rfl rfl ?_
  refine wG_fld H 0 rfl rfl rfl ?_
  refine wG_step rfl rfl rfl rfl ?_
  refine wG_step rfl rfl rfl rfl ?_
  refine wG_step rfl rfl rfl rfl ?_
  refine wG_shl rfl (by omega) ?_
  refine wG_or rfl (by omega) (by omega) ?_
  refine wG_ldv H 1 _ rfl rfl ⟨by omega, by omega, by decide⟩ hk ?_
  refine wG_iadd rfl ?_
  refine wG_ret rfl rfl ?_
  refine ⟨?_, rfl⟩
  unfold via
  rw [if_pos hc]
  have e : ((hrs cs d n : Nat) + ((1 + cs q % 6 : Nat) : Int)) * 1 + (K (d ||| 2 ^ q) : Nat) = ((hrs cs d n + (1 + cs q % 6) + K (d ||| 2 ^ q) : Nat) : Int) := by omega
  rw [e]
theorem less_M {a b : Int} (ha : rng a) (hb : rng b) : wR (D + 1) 146 [.int (Int32.ofInt a), .int (Int32.ofInt b)] h (is0 h (min a b)) := by
  refine wR_in (M := mX12_less) rfl (Nat.le_of_ble_eq_true rfl) ?_
  refine wG_step rfl rfl rfl rfl ?_
  refine wG_step rfl rfl rfl rfl ?_
  refine wG_c2 rfl ha hb (fun c => ?_) (fun c => ?_)
  · have c1 : b ≤ a := c
    refine wG_step rfl rfl rfl rfl ?_
    refine wG_ret rfl rfl ?_
    rw [Int.min_eq_right c1]
    exact ⟨rfl, rfl⟩
  · have c1 : ¬ b ≤ a := c
    refine wG_step rfl rfl rfl rfl ?_
    refine wG_step rfl rfl rfl rfl ?_
    refine wG_ret rfl rfl ?_
    rw [Int.min_eq_left (by omega)]
    exact ⟨rfl, rfl⟩
theorem in_M {a b c : Int} (ha : rng a) (hb : rng b) (hc : rng c) : wR (D + 1) 145 [.int (Int32.ofInt a), .int (Int32.ofInt b), .int (Int32.ofInt c)] h (is0 h (if b ≤ a ∧ a ≤ c then 1 else 0)) := by
  refine wR_in (M := mX12_in) rfl (Nat.le_of_ble_eq_true rfl) ?_
  refine wG_step rfl rfl rfl rfl ?_
  refine wG_step rfl rfl rfl rfl ?_
  refine wG_c2 rfl ha hb (fun c => ?_) (fun c => ?_)
  · have c1 : a < b := c
    refine wG_step rfl rfl rfl rfl ?_
    refine wG_ret rfl rfl ?_
    rw [if_neg (by omega)]
    exact ⟨rfl, rfl⟩
  have c1 : ¬ a < b := c
  refine wG_step rfl rfl rfl rfl ?_
  refine wG_step rfl rfl rfl rfl ?_
  refine wG_c2 rfl ha hc (fun c => ?_) (fun c => ?_)
  · have c2 : _ < a := c
    refine wG_step rfl rfl rfl rfl ?_
    refine wG_ret rfl rfl ?_
    rw [if_neg (by omega)]
    exact ⟨rfl, rfl⟩
  · have c2 : ¬ _ < a := c
    refine wG_step rfl rfl rfl rfl ?_
    refine wG_step rfl rfl rfl rfl ?_
    refine wG_ret rfl rfl ?_
    rw [if_pos (by omega)]
    exact ⟨rfl, rfl⟩
end MF
