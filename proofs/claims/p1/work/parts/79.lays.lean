/-! THE MODEL: what is chosen, what it costs -/
def oM (t : Int) : List (Nat × Nat × List Value) := [(0, 12, [.int 0, .int 1, .int 0, .int 0, .ref 1, .ref 2, .ref 3, .ref 4, .ref 5, .ref 6, .ref 7, .ref 8, .ref 9, .ref 10, .ref 11, .ref 12, .ref 13, .ref 14, .ref 15, .ref 16, .ref 17, .ref 18, .ref 19, .ref 20, .ref 21, .ref 22, .int 0, .int 0, .int 0, .int 0, .int 0, .int 0, .int 0, .int 0, .int 0, .int 0, .ref 23, .ref 24, .ref 25, .ref 26, .ref 27, .ref 28, .ref 29, .ref 30, .ref 31, .ref 32, .ref 33, .ref 34, .ref 35, .ref 36, .ref 37, .ref 38, .ref 39, .ref 40, .ref 41, .ref 42, .ref 43, .ref 44, .ref 45, .ref 46, .ref 47, .ref 48, .ref 49, .int (Int32.ofInt t), .ref 50, .ref 51, .ref 52, .ref 53, .ref 54, .ref 55, .ref 56, .ref 57, .ref 58, .ref 59, .ref 60, .ref 61, .ref 62, .ref 63])]
def lM : List (Nat × Nat × Nat) := [(50, 0, 8), (63, 0, 256), (21, 0, 8), (20, 0, 8), (1, 1, 48)]
theorem hp_gM {f : Nat → Nat → Int32} {g : Nat → Nat → Int64} (hF : fr_ok vlM f) : hp (oM 0) lM 64 (gM f g) (fun a _ => (fr_val vlM a).toInt) := by
  refine ⟨rfl, fun o ho => ?_, fun p hp => ?_⟩
  · simp only [oM, List.mem_cons, List.not_mem_nil, or_false] at ho
    subst ho
    rfl
  · have e : ∀ (a n : Nat), fr_len vlM a = n → (∃ t, (gM f g)[a]? = some (.inl (t, n, .inl (f a)))) → ∀ j : Nat, j < n → f a j = Int32.ofInt (fr_val vlM a).toInt := by
      intro a n h1 _ j hj
      rw [Int32.ofInt_toInt]
      exact hF a j (by omega)
    simp only [lM, List.mem_cons, List.not_mem_nil, or_false] at hp
    rcases hp with rfl | rfl | rfl | rfl | rfl <;> exact ⟨_, rfl, e _ _ rfl ⟨_, rfl⟩⟩
/-- what the model lays out -/
def lyd (M N : Nat) : Prop := 0 < N ∧ N < 281474976710656 ∧ cnt (nb N) 48 ≤ M
def lay (M N : Nat) (A : Nat → Int → Int) : Option Value → pv_H → Prop := fun v h1 => ∃ (A' : Nat → Int → Int) (t : Int), hp (oM t) lM 64 h1 A' ∧ (∀ a j, a ≠ 50 → A' a j = A a j) ∧ ((lyd M N ∧ v = some (.int (Int32.ofInt 1)) ∧ t = (cnt (nb N) 48 : Nat) ∧ ∀ j : Nat, j < cnt (nb N) 48 → A' 50 j = (nx (nb N) j : Nat)) ∨ (¬ lyd M N ∧ v = some (.int (Int32.ofInt 0))))
theorem lg_le0 {N : Nat} (hN : N < 18446744073709551616) : ∃ z : Int, rng z ∧ lg_cmp (Int64.ofNat N) (Int64.ofNat 0) = Int32.ofInt z ∧ (z ≤ 0 ↔ N = 0 ∨ 9223372036854775808 ≤ N) := by
  refine ⟨_, ?_, lg_e _ _, ?_⟩
  · split
    · exact ⟨by decide, by decide⟩
    · split <;> exact ⟨by decide, by decide⟩
  · have e0 : (Int64.ofNat 0).toInt = 0 := by decide
    rw [e0]
    by_cases h : N < 9223372036854775808
    · rw [Int64.toInt_ofNat_of_lt (show N < 2 ^ 63 by omega)]
      by_cases hz : N = 0
      · subst hz; rw [if_pos rfl]; simp
      · rw [if_neg (fun q => hz ((lw_eq hN (by decide)).mp q)), if_pos (by omega)]
        omega
    · have e1 : (Int64.ofNat N).toInt < 0 := by
        show (BitVec.ofNat 64 N).toInt < 0
        rw [BitVec.toInt_eq_toNat_cond, BitVec.toNat_ofNat, Nat.mod_eq_of_lt (show N < 2 ^ 64 by omega), if_neg (by omega)]
        omega
      rw [if_neg (fun q => by have := (lw_eq hN (by decide)).mp q; omega), if_neg (by omega)]
      omega
theorem lg_lt48 {N : Nat} (hN : N < 9223372036854775808) : ∃ z : Int, rng z ∧ lg_cmp (Int64.ofNat N) (Int64.ofNat 281474976710656) = Int32.ofInt z ∧ (z < 0 ↔ N < 281474976710656) := by
  refine ⟨_, ?_, lg_e _ _, ?_⟩
  · split
    · exact ⟨by decide, by decide⟩
    · split <;> exact ⟨by decide, by decide⟩
  · rw [Int64.toInt_ofNat_of_lt (show N < 2 ^ 63 by omega), Int64.toInt_ofNat_of_lt (by decide)]
    by_cases hz : N = 281474976710656
    · subst hz; rw [if_pos rfl]; simp
    · rw [if_neg (fun q => hz ((lw_eq (by omega) (by decide)).mp q))]
      split <;> omega
section ME
variable {D : Nat} {h : pv_H}
theorem lays_M {N M : Nat} (hN : N < 18446744073709551616) (hM : M ≤ 8) {A : Nat → Int → Int} {t0 : Int} (H : hp (oM t0) lM 64 h A) : wR (D + 1) 217 [.ref 0, .long (Int64.ofNat N), .int (Int32.ofInt (M : Nat))] h (lay M N A) := by
  refine wR_in (M := mX12_lays) rfl (Nat.le_of_ble_eq_true rfl) ?_
  have no : ¬ lyd M N → ∀ (h1 : pv_H) (A' : Nat → Int → Int) (t : Int), hp (oM t) lM 64 h1 A' → (∀ a j, a ≠ 50 → A' a j = A a j) → lay M N A (some (.int (Int32.ofInt 0))) h1 := fun q h1 A' t H' e => ⟨A', t, H', e, Or.inr ⟨q, rfl⟩⟩
  refine wG_step rfl rfl rfl rfl ?_
  refine wG_step rfl rfl rfl rfl ?_
  refine wG_step rfl rfl rfl rfl ?_
  obtain ⟨z, z1, z2, z3⟩ := lg_le0 hN
  refine wG_as rfl z2 ?_
  refine wG_c1 rfl z1 (fun c => ?_) (fun c => ?_)
  · have c1 : z ≤ 0 := c
    refine wG_step rfl rfl rfl rfl ?_
    refine wG_ret rfl rfl ?_
    refine no (fun q => ?_) h A t0 H (fun _ _ _ => rfl)
    obtain ⟨q1, q2, q3⟩ := q
    have := z3.mp c1
    omega
  have c1 : ¬ z ≤ 0 := c
  have hN1 : N ≠ 0 ∧ N < 9223372036854775808 := ⟨fun q => c1 (z3.mpr (Or.inl q)), by
    refine Nat.not_le.mp (fun q => c1 (z3.mpr (Or.inr q)))⟩
  refine wG_step rfl rfl rfl rfl ?_
  refine wG_step rfl rfl rfl rfl ?_
  refine wG_step rfl rfl rfl rfl ?_
  obtain ⟨y, y1, y2, y3⟩ := lg_lt48 hN1.2
  refine wG_as rfl y2 ?_
  refine wG_c1 rfl y1 (fun c => ?_) (fun c => ?_)
  rotate_left
  · have c2 : ¬ y < 0 := c
    refine wG_step rfl rfl rfl rfl ?_
    refine wG_ret rfl rfl ?_
    refine no (fun q => ?_) h A t0 H (fun _ _ _ => rfl)
    exact c2 (y3.mpr q.2.1)
  have h48 : N < 281474976710656 := y3.mp c
  refine wG_step rfl rfl rfl rfl ?_
  refine wG_step rfl rfl rfl rfl ?_
  refine wG_stf H 0 rfl rfl (Nat.le_of_ble_eq_true rfl) rfl rfl (fun h0 H0 => ?_)
  refine wG_step rfl rfl rfl rfl ?_
  refine wG_step rfl rfl rfl rfl ?_
  have lp : ∀ (m c : Nat) (h : pv_H) (A' : Nat → Int → Int), c + m = 48 → cnt (nb N) c ≤ M → hp (oM (cnt (nb N) c : Nat)) lM 64 h A' → (∀ j : Nat, j < cnt (nb N) c → A' 50 j = (nx (nb N) j : Nat)) → (∀ a j, a ≠ 50 → A' a j = A a j) → wG D rX12_lays 15 [(0, .ref 0), (1, .long (Int64.ofNat N)), (3, .int (Int32.ofInt (M : Nat))), (4, .int (Int32.ofInt (c : Nat)))] [] h (lay M N A) := by
    intro m
    induction m with
    | zero =>
      intro c h A' hc hcM H h1 h2
      have : c = 48 := by omega
      subst this
      refine wG_step rfl rfl rfl rfl ?_
      refine wG_bip rfl rfl ?_
      refine wG_c2t rfl ⟨by decide, by decide⟩ ⟨by decide, by decide⟩ (Int.le_refl _) ?_
      refine wG_step rfl rfl rfl rfl ?_
      refine wG_ret rfl rfl ?_
      exact ⟨A', _, H, h2, Or.inl ⟨⟨by omega, h48, hcM⟩, rfl, rfl, h1⟩⟩
    | succ m ih =>
      intro c h A' hc hcM H h1 h2
      refine wG_step rfl rfl rfl rfl ?_
      refine wG_bip rfl rfl ?_
      refine wG_c2f rfl (rng_n (by omega)) ⟨by decide, by decide⟩ (by show ¬ (48 : Int) ≤ c; omega) ?_
      refine wG_step rfl rfl rfl rfl ?_
      refine wG_step rfl rfl rfl rfl ?_
      refine wG_step rfl rfl rfl rfl ?_
      refine wG_step rfl rfl rfl rfl ?_
      refine wG_step rfl rfl rfl rfl ?_
      refine wG_step rfl rfl rfl rfl ?_
      refine wG_step rfl rfl rfl rfl ?_
      refine wG_as rfl (lg_bs (k := c) hN1.2 (by omega)) ?_
      have ec : cnt (nb N) (c + 1) = cnt (nb N) c + (if N.testBit c = true then 1 else 0) := rfl
      have hm := cnt_mono (nb N) (c + 1) 48 (by omega)
      cases hb : N.testBit c with
      | false =>
        rw [hb, if_neg (by decide)] at ec
        refine wG_c1f rfl ⟨by decide, by decide⟩ (by show ¬ (0 : Int) ≠ 0; decide) ?_
        refine wG_step rfl rfl rfl rfl ?_
        refine wG_iinc rfl rfl rfl ?_
        refine wG_step rfl rfl rfl rfl ?_
        refine wG_pick [0, 1, 3, 4] (by decide) (ih (c + 1) h A' (by omega) (by omega) ?_ ?_ h2)
        · rw [ec]; exact H
        · rw [ec]; exact h1
      | true =>
        rw [hb, if_pos rfl] at ec
        have hx := nx_at (b := nb N) hb (by omega)
        refine wG_c1t rfl ⟨by decide, by decide⟩ (by show (1 : Int) ≠ 0; decide) ?_
        refine wG_step rfl rfl rfl rfl ?_
        refine wG_fld H 0 rfl rfl rfl ?_
        refine wG_step rfl rfl rfl rfl ?_
        refine wG_c2 rfl (rng_n (by omega)) (rng_n (by omega)) (fun w => ?_) (fun w => ?_)
        rotate_left
        · have c3 : ((cnt (nb N) c : Nat) : Int) = (M : Nat) := Classical.not_not.mp w
          refine wG_step rfl rfl rfl rfl ?_
          refine wG_ret rfl rfl ?_
          refine no (fun q => ?_) h A' _ H h2
          have := q.2.2
          omega
        have c3 : ¬ ((cnt (nb N) c : Nat) : Int) = (M : Nat) := w
        refine wG_step rfl rfl rfl rfl ?_
        refine wG_fld H 0 rfl rfl rfl ?_
        refine wG_step rfl rfl rfl rfl ?_
        refine wG_fld H 0 rfl rfl rfl ?_
        refine wG_step rfl rfl rfl rfl ?_
        refine wG_sta H 0 rfl rfl ⟨by omega, by omega, by decide⟩ rfl (fun h' H => ?_)
        refine wG_step rfl rfl rfl rfl ?_
        refine wG_step rfl rfl rfl rfl ?_
        refine wG_fld H 0 rfl rfl rfl ?_
        refine wG_step rfl rfl rfl rfl ?_
        refine wG_iadd rfl ?_
        refine wG_stf H 0 rfl rfl (Nat.le_of_ble_eq_true rfl) rfl rfl (fun h' H' => ?_)
        refine wG_iinc rfl rfl rfl ?_
        refine wG_step rfl rfl rfl rfl ?_
        refine wG_pick [0, 1, 3, 4] (by decide) (ih (c + 1) h' (u2 A' 50 (cnt (nb N) c : Nat) (c : Nat)) (by omega) (by omega) (by rw [ec]; exact H') (fun j hj => ?_) (fun a j ha => ?_))
        · rw [ec] at hj
          by_cases hj2 : j = cnt (nb N) c
          · rw [hj2, u2_at, hx]
          · rw [u2_ne (by omega)]
            exact h1 j (by omega)
        · rw [u2_ne (fun q => ha q.1)]
          exact h2 a j ha
  exact wG_pick [0, 1, 3, 4] (by decide) (lp 48 0 h0 A (by omega) (Nat.zero_le _) H0 (fun j hj => absurd hj (Nat.not_lt_zero _)) (fun _ _ _ => rfl))
end ME
