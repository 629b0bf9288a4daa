/-! WORK AND PLANTING, MADE ANEW: no weight is carried, nothing hangs -/
theorem nx0_first {b : Nat → Bool} (h : 0 < cnt b 48) : ∀ i, i < nx b 0 → b i = false := by
  intro i hi
  obtain ⟨h1, h2, h3⟩ := nx_lt (b := b) (j := 0) h
  cases hb : b i with
  | false => rfl
  | true => have := cnt_lt hb hi; omega
def lC2 : List (Nat × Nat × Nat) := [(21, 0, 8)]
theorem hp_gC2 {f : Nat → Nat → Int32} {g : Nat → Nat → Int64} (hF : fr_ok vlC f) : hp (oC 0) lC2 79 (gC f g) (fun a _ => (fr_val vlC a).toInt) := by
  refine ⟨rfl, (hp_gC hF).2.1, fun p hp => ?_⟩
  have e : ∀ (a n : Nat), fr_len vlC a = n → (∃ t, (gC f g)[a]? = some (.inl (t, n, .inl (f a)))) → ∀ j : Nat, j < n → f a j = Int32.ofInt (fr_val vlC a).toInt := by
    intro a n h1 _ j hj
    rw [Int32.ofInt_toInt]
    exact hF a j (by omega)
  simp only [lC2, List.mem_cons, List.not_mem_nil, or_false] at hp
  subst hp
  exact ⟨_, rfl, e _ _ rfl ⟨_, rfl⟩⟩
section PL
variable {D : Nat} {h : pv_H}
theorem isColumn_C {a : Int} (ha : rng a) : wR (D + 2) 139 [.int (Int32.ofInt a)] h (is0 h (if 0 ≤ a ∧ a ≤ 7 then 1 else 0)) := by
  refine wR_in (M := mX11_isColumn) rfl (Nat.le_of_ble_eq_true rfl) ?_
  refine wG_step rfl rfl rfl rfl ?_
  refine wG_bip rfl rfl ?_
  refine wG_csV rfl (Nat.le_of_ble_eq_true rfl) rfl (Nat.le_of_ble_eq_true rfl) (within_C ha ⟨by decide, by decide⟩) ?_
  have e : pv_ret (.ireturn) [1] [Value.int (Int32.ofInt (if 0 ≤ a ∧ a ≤ 7 then 1 else 0))] = some (some (.int (Int32.ofInt (if 0 ≤ a ∧ a ≤ 7 then 1 else 0)))) := by
    split <;> rfl
  exact wG_ret rfl e ⟨rfl, rfl⟩
theorem carries_C {A : Nat → Int → Int} {a : Int} {c l : Nat} (H : hp (oC 0) lC2 79 h A) (h21 : ∀ j : Nat, j < 8 → A 21 j = 0) (ha : 1 ≤ a ∧ a ≤ 99) (hc : c < 8) (hl : l < 6) : wR (D + 1) 1 [.ref 15, .int (Int32.ofInt a), .int (Int32.ofInt (c : Nat)), .int (Int32.ofInt (l : Nat))] h (is0 h 0) := by
  refine wR_in (M := mX0_carries) rfl (Nat.le_of_ble_eq_true rfl) ?_
  refine wG_step rfl rfl rfl rfl ?_
  refine wG_step rfl rfl rfl rfl ?_
  refine wG_step rfl rfl rfl rfl ?_
  refine wG_imul rfl ?_
  refine wG_iadd rfl ?_
  refine wG_step rfl rfl rfl rfl ?_
  refine wG_fld H 2 rfl rfl rfl ?_
  refine wG_step rfl rfl rfl rfl ?_
  refine wG_ldv H 0 _ rfl rfl ⟨by omega, by omega, by decide⟩ (h21 c hc) ?_
  refine wG_c2t rfl ⟨by omega, by omega⟩ ⟨by decide, by decide⟩ (by show (0 : Int) < _; omega) ?_
  refine wG_step rfl rfl rfl rfl ?_
  refine wG_ret rfl rfl ?_
  exact ⟨rfl, rfl⟩
theorem toldCells_G {M n : Nat} (hM : M ≤ 8) (hn : n < 18446744073709551616) : wR (D + 2) 143 [.long (Int64.ofNat n), .int (Int32.ofInt (M : Nat))] h (is0 h ((if n < 281474976710656 ∧ cnt (nb n) 48 ≤ M then cnt (nb n) 48 else 0 : Nat) : Int)) := by
  refine wR_in (M := mX11_toldCells) rfl (Nat.le_of_ble_eq_true rfl) ?_
  refine wG_step rfl rfl rfl rfl ?_
  refine wG_call rfl rfl rfl (wR_mono (fun v h1 q => ?_) (bitCount_W n))
  obtain ⟨x, rfl, rfl, hx⟩ := q
  refine wG_step rfl rfl rfl rfl ?_
  refine wG_step rfl rfl rfl rfl ?_
  refine wG_bip rfl rfl ?_
  refine wG_step rfl rfl rfl rfl ?_
  refine wG_step rfl rfl rfl rfl ?_
  refine wG_step rfl rfl rfl rfl ?_
  refine wG_as rfl (lg_48 hn) ?_
  have hc := cnt_le (nb n) 48
  by_cases h48 : n < 281474976710656
  · rw [if_pos h48]
    have hx : x = Int32.ofInt ((cnt (nb n) 48 : Nat) : Int) := hx h48
    subst hx
    refine wG_c1f rfl ⟨by decide, by decide⟩ (by show ¬ (0 : Int) ≠ 0; decide) ?_
    refine wG_step rfl rfl rfl rfl ?_
    refine wG_step rfl rfl rfl rfl ?_
    refine wG_c2 rfl (rng_n (by omega)) (rng_n (by omega)) (fun c => ?_) (fun c => ?_)
    · have c1 : ((cnt (nb n) 48 : Nat) : Int) ≤ (M : Nat) := c
      refine wG_step rfl rfl rfl rfl ?_
      refine wG_ret rfl rfl ?_
      refine ⟨?_, rfl⟩
      rw [if_pos ⟨h48, by omega⟩]
    · have c1 : ¬ ((cnt (nb n) 48 : Nat) : Int) ≤ (M : Nat) := c
      refine wG_step rfl rfl rfl rfl ?_
      refine wG_step rfl rfl rfl rfl ?_
      refine wG_ret rfl rfl ?_
      refine ⟨?_, rfl⟩
      rw [if_neg (fun q => c1 (by omega))]
      rfl
  · rw [if_neg h48]
    refine wG_c1t rfl ⟨by decide, by decide⟩ (by show (1 : Int) ≠ 0; decide) ?_
    refine wG_step rfl rfl rfl rfl ?_
    refine wG_step rfl rfl rfl rfl ?_
    refine wG_ret rfl rfl ?_
    refine ⟨?_, rfl⟩
    rw [if_neg (fun q => h48 q.1)]
    rfl
theorem lg_hz {c : Nat} (hc : c < 64) : lg_cmp (((0 : Int64).toUInt64 >>> ((Int32.ofInt ((c : Nat) : Int)).toInt64.toUInt64 &&& Int64.toUInt64 63)).toInt64 &&& Int64.ofNat 1) (Int64.ofNat 0) = Int32.ofInt 0 := by
  have e := lg_b (n := 0) (k := c) (by decide) hc
  rw [Nat.zero_testBit] at e
  exact e
theorem hangs_C {A : Nat → Int → Int} {L : List (Nat × Nat × Nat)} {c : Nat} {t : Int} (H : hp (oC t) L 79 h A) (hc : c < 48) : wR (D + 1) 21 [.ref 1, .int (Int32.ofInt (c : Nat))] h (is0 h 0) := by
  refine wR_in (M := mX3_hangs) rfl (Nat.le_of_ble_eq_true rfl) ?_
  refine wG_step rfl rfl rfl rfl ?_
  refine wG_c1f rfl (rng_n (by omega)) (by show ¬ (c : Int) < 0; omega) ?_
  refine wG_step rfl rfl rfl rfl ?_
  refine wG_bip rfl rfl ?_
  refine wG_c2f rfl (rng_n (by omega)) ⟨by decide, by decide⟩ (by show ¬ (48 : Int) ≤ c; omega) ?_
  refine wG_step rfl rfl rfl rfl ?_
  refine wG_fld H 1 rfl rfl rfl ?_
  refine wG_step rfl rfl rfl rfl ?_
  refine wG_step rfl rfl rfl rfl ?_
  refine wG_step rfl rfl rfl rfl ?_
  refine wG_step rfl rfl rfl rfl ?_
  refine wG_step rfl rfl rfl rfl ?_
  refine wG_step rfl rfl rfl rfl ?_
  refine wG_as rfl (lg_hz (c := c) (by omega)) ?_
  refine wG_c1t rfl ⟨by decide, by decide⟩ rfl ?_
  refine wG_step rfl rfl rfl rfl ?_
  refine wG_ret rfl rfl ?_
  exact ⟨rfl, rfl⟩
theorem mayBe_M {A : Nat → Int → Int} {t a : Int} {c : Nat} (H : hp (oM t) lM 64 h A) (h20 : ∀ j : Nat, j < 8 → A 20 j = 0) (ha : 1 ≤ a ∧ a ≤ 99) (hc : c < 48) : wR (D + 1) 218 [.ref 0, .int (Int32.ofInt a), .int (Int32.ofInt (c : Nat))] h (is0 h 0) := by
  refine wR_in (M := mX12_mayBe) rfl (Nat.le_of_ble_eq_true rfl) ?_
  refine wG_step rfl rfl rfl rfl ?_
  refine wG_step rfl rfl rfl rfl ?_
  refine wG_step rfl rfl rfl rfl ?_
  refine wG_r6 rfl rfl hc ?_
  refine wG_imul rfl ?_
  refine wG_iadd rfl ?_
  refine wG_step rfl rfl rfl rfl ?_
  refine wG_fld H 0 rfl rfl rfl ?_
  refine wG_step rfl rfl rfl rfl ?_
  refine wG_d6 rfl rfl hc ?_
  refine wG_ldv H 3 _ rfl rfl ⟨by omega, by omega, by decide⟩ (h20 _ (by omega)) ?_
  refine wG_c2t rfl ⟨by omega, by omega⟩ ⟨by decide, by decide⟩ (by show (0 : Int) < _; omega) ?_
  refine wG_step rfl rfl rfl rfl ?_
  refine wG_ret rfl rfl ?_
  exact ⟨rfl, rfl⟩
end PL
def wkA (a b : Int) (N : Nat) (z : Int) : Int := if (1 ≤ a ∧ a ≤ 99) ∧ (0 ≤ b ∧ b ≤ 7) ∧ 1 ≤ nT N ∧ -1 ≤ z ∧ z < nT N then -2 else -3
theorem work_C {a b z : Int} {N : Nat} (ha : rng a) (hb : rng b) (hz : rng z) (hN : N < 18446744073709551616) {f : Nat → Nat → Int32} {g : Nat → Nat → Int64} (hF : fr_ok vlC f) : wR 12 118 [.ref 0, .int (Int32.ofInt a), .int (Int32.ofInt b), .long (Int64.ofNat N), .int (Int32.ofInt z)] (gC f g) (fun v h => v = some (.int (Int32.ofInt (wkA a b N z))) ∧ h.length = 79) := by
  have H := hp_gC2 (g := g) hF
  have h8 := nT_le N
  refine wR_in (M := mX11_work) rfl (Nat.le_of_ble_eq_true rfl) ?_
  refine wG_step rfl rfl rfl rfl ?_
  refine wG_bip rfl rfl ?_
  refine wG_csV rfl (Nat.le_of_ble_eq_true rfl) rfl (Nat.le_of_ble_eq_true rfl) (toldCells_W hN) ?_
  refine wG_step rfl rfl rfl rfl ?_
  refine wG_step rfl rfl rfl rfl ?_
  refine wG_step rfl rfl rfl rfl ?_
  have bad : ¬ ((1 ≤ a ∧ a ≤ 99) ∧ (0 ≤ b ∧ b ≤ 7) ∧ 1 ≤ nT N ∧ -1 ≤ z ∧ z < nT N) → wG 11 rX11_work 22 [] [] (gC f g) (fun v h => v = some (.int (Int32.ofInt (wkA a b N z))) ∧ h.length = 79) := by
    intro hb
    refine wG_bip rfl rfl ?_
    refine wG_ret rfl rfl ?_
    refine ⟨?_, rfl⟩
    unfold wkA
    rw [if_neg hb]
  refine wG_c2 rfl ha ⟨by decide, by decide⟩ (fun c => ?_) (fun c => ?_)
  · have c1 : a < 1 := c
    exact wG_pick [] (by decide) (bad (by omega))
  have c1 : ¬ a < 1 := c
  refine wG_step rfl rfl rfl rfl ?_
  refine wG_bip rfl rfl ?_
  refine wG_c2 rfl ha ⟨by decide, by decide⟩ (fun c => ?_) (fun c => ?_)
  · have c2 : 99 < a := c
    exact wG_pick [] (by decide) (bad (by omega))
  have c2 : ¬ 99 < a := c
  refine wG_step rfl rfl rfl rfl ?_
  refine wG_csV rfl (Nat.le_of_ble_eq_true rfl) rfl (Nat.le_of_ble_eq_true rfl) (isColumn_C hb) ?_
  by_cases hcol : 0 ≤ b ∧ b ≤ 7
  rotate_left
  · rw [if_neg hcol]
    refine wG_c1t rfl ⟨by decide, by decide⟩ rfl ?_
    exact wG_pick [] (by decide) (bad (fun q => hcol q.2.1))
  rw [if_pos hcol]
  refine wG_c1f rfl ⟨by decide, by decide⟩ (by show ¬ (1 : Int) = 0; decide) ?_
  refine wG_step rfl rfl rfl rfl ?_
  refine wG_step rfl rfl rfl rfl ?_
  refine wG_c2 rfl (rng_n (by omega)) ⟨by decide, by decide⟩ (fun c => ?_) (fun c => ?_)
  · have c3 : (nT N : Int) < 1 := c
    exact wG_pick [] (by decide) (bad (by omega))
  have c3 : ¬ (nT N : Int) < 1 := c
  refine wG_step rfl rfl rfl rfl ?_
  refine wG_step rfl rfl rfl rfl ?_
  refine wG_c2 rfl hz ⟨by decide, by decide⟩ (fun c => ?_) (fun c => ?_)
  · have c4 : z < -1 := c
    exact wG_pick [] (by decide) (bad (by omega))
  have c4 : ¬ z < -1 := c
  refine wG_step rfl rfl rfl rfl ?_
  refine wG_step rfl rfl rfl rfl ?_
  refine wG_c2 rfl hz (rng_n (by omega)) (fun c => ?_) (fun c => ?_)
  rotate_left
  · have c5 : ¬ z < (nT N : Int) := c
    exact wG_pick [] (by decide) (bad (by omega))
  have c5 : z < (nT N : Int) := c
  refine wG_step rfl rfl rfl rfl ?_
  refine wG_step rfl rfl rfl rfl ?_
  obtain ⟨h48, hcn⟩ := nT_pos (N := N) (by omega)
  have hpos : 0 < cnt (nb N) 48 := by show 0 < cnt (fun k => N.testBit k) 48; omega
  have hfst := nx0_first hpos
  obtain ⟨x1, x2, x3⟩ := nx_lt hpos
  have lp : ∀ m i, i + m = nx (nb N) 0 → wG 11 rX11_work 26 [(0, .ref 0), (1, .int (Int32.ofInt a)), (3, .long (Int64.ofNat N)), (7, .int (Int32.ofInt (i : Nat)))] [] (gC f g) (fun v h => v = some (.int (Int32.ofInt (wkA a b N z))) ∧ h.length = 79) := by
    intro m
    induction m with
    | zero =>
      intro i hi
      have : i = nx (nb N) 0 := by omega
      rw [← this] at x1 x2
      refine wG_step rfl rfl rfl rfl ?_
      refine wG_bip rfl rfl ?_
      refine wG_c2f rfl (rng_n (by omega)) ⟨by decide, by decide⟩ (by show ¬ (48 : Int) ≤ i; omega) ?_
      refine wG_step rfl rfl rfl rfl ?_
      refine wG_step rfl rfl rfl rfl ?_
      refine wG_csV rfl (Nat.le_of_ble_eq_true rfl) rfl (Nat.le_of_ble_eq_true rfl) (isTold_W (k := i) hN (by omega)) ?_
      have x4 : N.testBit i = true := x2
      rw [if_pos x4]
      refine wG_c1f rfl ⟨by decide, by decide⟩ (by show ¬ (1 : Int) = 0; decide) ?_
      refine wG_step rfl rfl rfl rfl ?_
      refine wG_fld H 0 rfl rfl rfl ?_
      refine wG_step rfl rfl rfl rfl ?_
      refine wG_step rfl rfl rfl rfl ?_
      refine wG_d6 rfl rfl x1 ?_
      refine wG_step rfl rfl rfl rfl ?_
      refine wG_r6 rfl rfl x1 ?_
      refine wG_cvV H 2 rfl rfl rfl (Nat.le_of_ble_eq_true rfl) (carries_C H (fun j hj => rfl) (by omega) (by omega) (by omega)) ?_
      refine wG_c1f rfl ⟨by decide, by decide⟩ (by show ¬ (0 : Int) ≠ 0; decide) ?_
      refine wG_bip rfl rfl ?_
      refine wG_ret rfl rfl ?_
      refine ⟨?_, rfl⟩
      unfold wkA
      rw [if_pos (by omega)]
    | succ m ih =>
      intro i hi
      refine wG_step rfl rfl rfl rfl ?_
      refine wG_bip rfl rfl ?_
      refine wG_c2f rfl (rng_n (by omega)) ⟨by decide, by decide⟩ (by show ¬ (48 : Int) ≤ i; omega) ?_
      refine wG_step rfl rfl rfl rfl ?_
      refine wG_step rfl rfl rfl rfl ?_
      refine wG_csV rfl (Nat.le_of_ble_eq_true rfl) rfl (Nat.le_of_ble_eq_true rfl) (isTold_W (k := i) hN (by omega)) ?_
      have x4 : N.testBit i = false := hfst i (by omega)
      rw [x4, if_neg (by decide)]
      refine wG_c1t rfl ⟨by decide, by decide⟩ rfl ?_
      refine wG_iinc rfl rfl rfl ?_
      refine wG_step rfl rfl rfl rfl ?_
      exact wG_pick [0, 1, 3, 7] (by decide) (ih (i + 1) (by omega))
  exact wG_pick [0, 1, 3, 7] (by decide) (lp (nx (nb N) 0) 0 (by omega))
theorem planted_C {z : Int} {N : Nat} (hz : rng z) (hN : N < 18446744073709551616) {f : Nat → Nat → Int32} {g : Nat → Nat → Int64} (hF : fr_ok vlC f) : wR 12 121 [.ref 0, .long (Int64.ofNat N), .int (Int32.ofInt z)] (gC f g) (fun v h => v = some (.int (Int32.ofInt (-3))) ∧ h.length = 79) := by
  have H := hp_gC2 (g := g) hF
  have hc := cnt_le (nb N) 48
  refine wR_in (M := mX11_planted) rfl (Nat.le_of_ble_eq_true rfl) ?_
  refine wG_step rfl rfl rfl rfl ?_
  refine wG_step rfl rfl rfl rfl ?_
  refine wG_csV rfl (Nat.le_of_ble_eq_true rfl) rfl (Nat.le_of_ble_eq_true rfl) (toldCells_G (M := 5) (by decide) hN) ?_
  refine wG_step rfl rfl rfl rfl ?_
  refine wG_step rfl rfl rfl rfl ?_
  refine wG_step rfl rfl rfl rfl ?_
  have bad : wG 11 rX11_planted 16 [] [] (gC f g) (fun v h => v = some (.int (Int32.ofInt (-3))) ∧ h.length = 79) := by
    refine wG_bip rfl rfl ?_
    refine wG_ret rfl rfl ?_
    exact ⟨rfl, rfl⟩
  by_cases hq : N < 281474976710656 ∧ cnt (nb N) 48 ≤ 5
  rotate_left
  · rw [if_neg hq]
    refine wG_c2t rfl ⟨by decide, by decide⟩ ⟨by decide, by decide⟩ (by show (0 : Int) < 1; decide) ?_
    exact wG_pick [] (by decide) bad
  rw [if_pos hq]
  refine wG_c2 rfl (rng_n (by omega)) ⟨by decide, by decide⟩ (fun c => ?_) (fun c => ?_)
  · exact wG_pick [] (by decide) bad
  have c3 : ¬ ((cnt (nb N) 48 : Nat) : Int) < 1 := c
  have hpos : 0 < cnt (nb N) 48 := by omega
  have hfst := nx0_first hpos
  obtain ⟨x1, x2, x3⟩ := nx_lt hpos
  refine wG_step rfl rfl rfl rfl ?_
  refine wG_step rfl rfl rfl rfl ?_
  refine wG_c2 rfl hz ⟨by decide, by decide⟩ (fun c => ?_) (fun c => ?_)
  · exact wG_pick [] (by decide) bad
  refine wG_step rfl rfl rfl rfl ?_
  refine wG_step rfl rfl rfl rfl ?_
  have lp : ∀ m i, i + m = nx (nb N) 0 → wG 11 rX11_planted 20 [(0, .ref 0), (1, .long (Int64.ofNat N)), (5, .int (Int32.ofInt (i : Nat)))] [] (gC f g) (fun v h => v = some (.int (Int32.ofInt (-3))) ∧ h.length = 79) := by
    intro m
    induction m with
    | zero =>
      intro i hi
      have : i = nx (nb N) 0 := by omega
      rw [← this] at x1 x2
      refine wG_step rfl rfl rfl rfl ?_
      refine wG_bip rfl rfl ?_
      refine wG_c2f rfl (rng_n (by omega)) ⟨by decide, by decide⟩ (by show ¬ (48 : Int) ≤ i; omega) ?_
      refine wG_step rfl rfl rfl rfl ?_
      refine wG_step rfl rfl rfl rfl ?_
      refine wG_csV rfl (Nat.le_of_ble_eq_true rfl) rfl (Nat.le_of_ble_eq_true rfl) (isTold_W (k := i) hN (by omega)) ?_
      have x4 : N.testBit i = true := x2
      rw [if_pos x4]
      refine wG_c1f rfl ⟨by decide, by decide⟩ (by show ¬ (1 : Int) = 0; decide) ?_
      refine wG_step rfl rfl rfl rfl ?_
      refine wG_fld H 0 rfl rfl rfl ?_
      refine wG_step rfl rfl rfl rfl ?_
      refine wG_cvV H 1 rfl rfl rfl (Nat.le_of_ble_eq_true rfl) (hangs_C H x1) ?_
      refine wG_c1t rfl ⟨by decide, by decide⟩ rfl ?_
      refine wG_bip rfl rfl ?_
      refine wG_ret rfl rfl ?_
      exact ⟨rfl, rfl⟩
    | succ m ih =>
      intro i hi
      refine wG_step rfl rfl rfl rfl ?_
      refine wG_bip rfl rfl ?_
      refine wG_c2f rfl (rng_n (by omega)) ⟨by decide, by decide⟩ (by show ¬ (48 : Int) ≤ i; omega) ?_
      refine wG_step rfl rfl rfl rfl ?_
      refine wG_step rfl rfl rfl rfl ?_
      refine wG_csV rfl (Nat.le_of_ble_eq_true rfl) rfl (Nat.le_of_ble_eq_true rfl) (isTold_W (k := i) hN (by omega)) ?_
      have x4 : N.testBit i = false := hfst i (by omega)
      rw [x4, if_neg (by decide)]
      refine wG_c1t rfl ⟨by decide, by decide⟩ rfl ?_
      refine wG_iinc rfl rfl rfl ?_
      refine wG_step rfl rfl rfl rfl ?_
      exact wG_pick [0, 1, 5] (by decide) (ih (i + 1) (by omega))
  have go18 : wG 11 rX11_planted 18 [(0, .ref 0), (1, .long (Int64.ofNat N))] [] (gC f g) (fun v h => v = some (.int (Int32.ofInt (-3))) ∧ h.length = 79) := by
    refine wG_step rfl rfl rfl rfl ?_
    refine wG_step rfl rfl rfl rfl ?_
    exact wG_pick [0, 1, 5] (by decide) (lp (nx (nb N) 0) 0 (by omega))
  refine wG_c2 rfl hz (rng_n (by omega)) (fun c => ?_) (fun c => ?_)
  · exact wG_pick [0, 1] (by decide) go18
  refine wG_step rfl rfl rfl rfl ?_
  refine wG_bip rfl rfl ?_
  refine wG_c2 rfl hz ⟨by decide, by decide⟩ (fun c => ?_) (fun c => ?_)
  · exact wG_pick [0, 1] (by decide) go18
  · exact wG_pick [] (by decide) bad
theorem work_M {a b z : Int} {N : Nat} (ha : rng a) (hb : rng b) (hz : rng z) (hN : N < 18446744073709551616) {f : Nat → Nat → Int32} {g : Nat → Nat → Int64} (hF : fr_ok vlM f) : wR 12 223 [.ref 0, .int (Int32.ofInt a), .int (Int32.ofInt b), .long (Int64.ofNat N), .int (Int32.ofInt z)] (gM f g) (fun v h => v = some (.int (Int32.ofInt (wkA a b N z))) ∧ h.length = 64) := by
  have H := hp_gM (g := g) hF
  have h8 := nT_le N
  refine wR_in (M := mX12_work) rfl (Nat.le_of_ble_eq_true rfl) ?_
  refine wG_step rfl rfl rfl rfl ?_
  refine wG_step rfl rfl rfl rfl ?_
  refine wG_bip rfl rfl ?_
  refine wG_csV rfl (Nat.le_of_ble_eq_true rfl) rfl (Nat.le_of_ble_eq_true rfl) (in_M ha ⟨by decide, by decide⟩ ⟨by decide, by decide⟩) ?_
  have bad : ∀ h1 : pv_H, h1.length = 64 → ¬ ((1 ≤ a ∧ a ≤ 99) ∧ (0 ≤ b ∧ b ≤ 7) ∧ 1 ≤ nT N ∧ -1 ≤ z ∧ z < nT N) → wG 11 rX12_work 23 [] [] h1 (fun v h => v = some (.int (Int32.ofInt (wkA a b N z))) ∧ h.length = 64) := by
    intro h1 hl hb
    refine wG_bip rfl rfl ?_
    refine wG_ret rfl rfl ?_
    refine ⟨?_, hl⟩
    unfold wkA
    rw [if_neg hb]
  by_cases hA : 1 ≤ a ∧ a ≤ 99
  rotate_left
  · rw [if_neg hA]
    refine wG_c1t rfl ⟨by decide, by decide⟩ rfl ?_
    exact wG_pick [] (by decide) (bad _ rfl (fun q => hA q.1))
  rw [if_pos hA]
  refine wG_c1f rfl ⟨by decide, by decide⟩ (by show ¬ (1 : Int) = 0; decide) ?_
  refine wG_step rfl rfl rfl rfl ?_
  refine wG_step rfl rfl rfl rfl ?_
  refine wG_bip rfl rfl ?_
  refine wG_csV rfl (Nat.le_of_ble_eq_true rfl) rfl (Nat.le_of_ble_eq_true rfl) (in_M hb ⟨by decide, by decide⟩ ⟨by decide, by decide⟩) ?_
  by_cases h2 : 0 ≤ b ∧ b ≤ 7
  rotate_left
  · rw [if_neg h2]
    refine wG_c1t rfl ⟨by decide, by decide⟩ rfl ?_
    exact wG_pick [] (by decide) (bad _ rfl (fun q => h2 q.2.1))
  rw [if_pos h2]
  refine wG_c1f rfl ⟨by decide, by decide⟩ (by show ¬ (1 : Int) = 0; decide) ?_
  refine wG_step rfl rfl rfl rfl ?_
  refine wG_step rfl rfl rfl rfl ?_
  refine wG_bip rfl rfl ?_
  refine wG_cv H 0 rfl rfl rfl (Nat.le_of_ble_eq_true rfl) (wR_mono (fun v h1 q => ?_) (lays_M (M := 8) hN (by decide) H))
  obtain ⟨A', t, H, e50, hlay⟩ := q
  rcases hlay with ⟨hl, rfl, rfl, hcs⟩ | ⟨hl, rfl⟩
  rotate_left
  · refine wG_c1t rfl ⟨by decide, by decide⟩ rfl ?_
    exact wG_pick [] (by decide) (bad _ H.1 (by rw [nlyd_nT hl]; omega))
  obtain ⟨hl1, hl2⟩ := lyd_nT hl
  rw [hl2] at H hcs
  refine wG_c1f rfl ⟨by decide, by decide⟩ (by show ¬ (1 : Int) = 0; decide) ?_
  refine wG_step rfl rfl rfl rfl ?_
  refine wG_step rfl rfl rfl rfl ?_
  refine wG_step rfl rfl rfl rfl ?_
  refine wG_fld H 0 rfl rfl rfl ?_
  refine wG_step rfl rfl rfl rfl ?_
  refine wG_isub rfl ?_
  refine wG_csV rfl (Nat.le_of_ble_eq_true rfl) rfl (Nat.le_of_ble_eq_true rfl) (in_M hz ⟨by decide, by decide⟩ ⟨by omega, by omega⟩) ?_
  by_cases hin : -1 ≤ z ∧ z ≤ (nT N : Int) - 1
  rotate_left
  · rw [if_neg hin]
    refine wG_c1f rfl ⟨by decide, by decide⟩ (by show ¬ (0 : Int) ≠ 0; decide) ?_
    exact wG_pick [] (by decide) (bad _ H.1 (by omega))
  rw [if_pos hin]
  refine wG_c1t rfl ⟨by decide, by decide⟩ (by show (1 : Int) ≠ 0; decide) ?_
  refine wG_step rfl rfl rfl rfl ?_
  refine wG_step rfl rfl rfl rfl ?_
  refine wG_step rfl rfl rfl rfl ?_
  refine wG_step rfl rfl rfl rfl ?_
  refine wG_fld H 0 rfl rfl rfl ?_
  refine wG_c2f rfl ⟨by decide, by decide⟩ (rng_n (by omega)) (by show ¬ ((nT N : Nat) : Int) ≤ 0; omega) ?_
  refine wG_step rfl rfl rfl rfl ?_
  refine wG_step rfl rfl rfl rfl ?_
  refine wG_step rfl rfl rfl rfl ?_
  refine wG_fld H 0 rfl rfl rfl ?_
  refine wG_step rfl rfl rfl rfl ?_
  refine wG_ldv H 0 _ rfl rfl ⟨by decide, by decide, by decide⟩ (hcs 0 (by omega)) ?_
  refine wG_cvV H 0 rfl rfl rfl (Nat.le_of_ble_eq_true rfl) (mayBe_M H (fun j hj => by rw [e50 20 j (by decide)]; rfl) hA (nx_lt (by omega)).1) ?_
  refine wG_c1f rfl ⟨by decide, by decide⟩ (by show ¬ (0 : Int) ≠ 0; decide) ?_
  refine wG_bip rfl rfl ?_
  refine wG_ret rfl rfl ?_
  refine ⟨?_, H.1⟩
  unfold wkA
  rw [if_pos (by omega)]
theorem planted_M {z : Int} {N : Nat} (hz : rng z) (hN : N < 18446744073709551616) {f : Nat → Nat → Int32} {g : Nat → Nat → Int64} (hF : fr_ok vlM f) : wR 12 233 [.ref 0, .long (Int64.ofNat N), .int (Int32.ofInt z)] (gM f g) (fun v h => v = some (.int (Int32.ofInt (-3))) ∧ h.length = 64) := by
  have H := hp_gM (g := g) hF
  have hc := cnt_le (nb N) 48
  refine wR_in (M := mX12_planted) rfl (Nat.le_of_ble_eq_true rfl) ?_
  refine wG_step rfl rfl rfl rfl ?_
  refine wG_step rfl rfl rfl rfl ?_
  refine wG_step rfl rfl rfl rfl ?_
  refine wG_cv H 0 rfl rfl rfl (Nat.le_of_ble_eq_true rfl) (wR_mono (fun v h1 q => ?_) (lays_M (M := 5) hN (by decide) H))
  obtain ⟨A', t, H, e50, hlay⟩ := q
  have bad : wG 11 rX12_planted 16 [] [] h1 (fun v h => v = some (.int (Int32.ofInt (-3))) ∧ h.length = 64) := by
    refine wG_bip rfl rfl ?_
    refine wG_ret rfl rfl ?_
    exact ⟨rfl, H.1⟩
  rcases hlay with ⟨hl, rfl, rfl, hcs⟩ | ⟨hl, rfl⟩
  rotate_left
  · refine wG_c1t rfl ⟨by decide, by decide⟩ rfl ?_
    exact wG_pick [] (by decide) bad
  have hpos := cnt_pos hl.1 hl.2.1
  refine wG_c1f rfl ⟨by decide, by decide⟩ (by show ¬ (1 : Int) = 0; decide) ?_
  have go18 : wG 11 rX12_planted 18 [(0, .ref 0)] [] h1 (fun v h => v = some (.int (Int32.ofInt (-3))) ∧ h.length = 64) := by
    refine wG_step rfl rfl rfl rfl ?_
    refine wG_step rfl rfl rfl rfl ?_
    refine wG_step rfl rfl rfl rfl ?_
    refine wG_step rfl rfl rfl rfl ?_
    refine wG_step rfl rfl rfl rfl ?_
    refine wG_step rfl rfl rfl rfl ?_
    refine wG_fld H 0 rfl rfl rfl ?_
    refine wG_c2f rfl ⟨by decide, by decide⟩ (rng_n (by omega)) (by show ¬ ((cnt (nb N) 48 : Nat) : Int) ≤ 0; omega) ?_
    refine wG_step rfl rfl rfl rfl ?_
    refine wG_fld H 0 rfl rfl rfl ?_
    refine wG_step rfl rfl rfl rfl ?_
    refine wG_fld H 0 rfl rfl rfl ?_
    refine wG_step rfl rfl rfl rfl ?_
    refine wG_ldv H 0 _ rfl rfl ⟨by decide, by decide, by decide⟩ (hcs 0 (by omega)) ?_
    have hx := (nx_lt (b := nb N) hpos).1
    refine wG_ldb H 4 rfl rfl (Or.inl rfl) ⟨by omega, by omega, by decide⟩ ?_
    rw [e50 1 _ (by decide)]
    refine wG_c1t (a := 0) rfl ⟨by decide, by decide⟩ rfl ?_
    refine wG_bip rfl rfl ?_
    refine wG_ret rfl rfl ?_
    exact ⟨rfl, H.1⟩
  refine wG_step rfl rfl rfl rfl ?_
  refine wG_bip rfl rfl ?_
  refine wG_c2 rfl hz ⟨by decide, by decide⟩ (fun c => ?_) (fun c => ?_)
  · exact wG_pick [0] (by decide) go18
  refine wG_step rfl rfl rfl rfl ?_
  refine wG_step rfl rfl rfl rfl ?_
  refine wG_step rfl rfl rfl rfl ?_
  refine wG_fld H 0 rfl rfl rfl ?_
  refine wG_step rfl rfl rfl rfl ?_
  refine wG_isub rfl ?_
  refine wG_csV rfl (Nat.le_of_ble_eq_true rfl) rfl (Nat.le_of_ble_eq_true rfl) (in_M hz ⟨by decide, by decide⟩ ⟨by omega, by omega⟩) ?_
  by_cases hin : -1 ≤ z ∧ z ≤ ((cnt (nb N) 48 : Nat) : Int) - 1
  · rw [if_pos hin]
    refine wG_c1t rfl ⟨by decide, by decide⟩ (by show (1 : Int) ≠ 0; decide) ?_
    exact wG_pick [0] (by decide) go18
  · rw [if_neg hin]
    refine wG_c1f rfl ⟨by decide, by decide⟩ (by show ¬ (0 : Int) ≠ 0; decide) ?_
    exact wG_pick [] (by decide) bad
theorem eq_work (a b : Int32) (c : Int64) (x : Int32) : eqv 118 223 [.ref 0, .int a, .int b, .long c, .int x] := by
  obtain ⟨N, hN, rfl⟩ := lw_of c
  rw [iI_of x, iI_of a, iI_of b]
  exact ⟨Int32.ofInt (wkA a.toInt b.toInt N x.toInt), fun f g hF => work_C (iI_rng a) (iI_rng b) (iI_rng x) hN hF, fun f g hF => work_M (iI_rng a) (iI_rng b) (iI_rng x) hN hF⟩
theorem eq_planted (c : Int64) (x : Int32) : eqv 121 233 [.ref 0, .long c, .int x] := by
  obtain ⟨N, hN, rfl⟩ := lw_of c
  rw [iI_of x]
  exact ⟨Int32.ofInt (-3), fun f g hF => planted_C (iI_rng x) hN hF, fun f g hF => planted_M (iI_rng x) hN hF⟩
