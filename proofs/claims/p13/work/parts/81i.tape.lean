/-! THE TAPE -/
/-- the tapes are alike -/
def RT (A1 A2 : qA) : Prop := A1 52 (fd 1) = A2 0 (fd 26) ∧ ∀ i, 0 ≤ i → i < 220 → A1 53 i = ia (A2 22 i) 255
theorem RT_k {A1 A2 B1 B2 : qA} (h : RT A1 A2) (a1 : B1 52 (fd 1) = A1 52 (fd 1)) (a2 : B1 53 = A1 53) (b1 : B2 0 (fd 26) = A2 0 (fd 26)) (b2 : B2 22 = A2 22) : RT B1 B2 := by
  unfold RT
  rw [a1, a2, b1, b2]
  exact h
theorem b4_bv (y : BitVec 32) (s : Nat) (hs : s ≤ 24) : (y >>> s) &&& 255#32 = (BitVec.signExtend 32 (BitVec.signExtend 8 (y.sshiftRight s))) &&& 255#32 := by
  apply BitVec.eq_of_getLsbD_eq
  intro i hi
  have h255 : (255#32).getLsbD i = decide (i < 8) := by
    rw [BitVec.getLsbD_ofNat, show 255 = 2 ^ 8 - 1 from rfl, Nat.testBit_two_pow_sub_one]
    simp [hi]
  rw [BitVec.getLsbD_and, BitVec.getLsbD_and, h255]
  by_cases h8 : i < 8
  · have e1 : (y >>> s).getLsbD i = y.getLsbD (s + i) := BitVec.getLsbD_ushiftRight ..
    have e2 : (BitVec.signExtend 32 (BitVec.signExtend 8 (y.sshiftRight s))).getLsbD i = y.getLsbD (s + i) := by
      rw [BitVec.getLsbD_signExtend]
      simp only [hi, decide_true, Bool.true_and, h8, if_true]
      rw [BitVec.getLsbD_signExtend]
      simp only [hi, h8, decide_true, Bool.true_and, if_true]
      rw [BitVec.getLsbD_sshiftRight]
      have : s + i < 32 := by omega
      have h32 : ¬ 32 ≤ i := by omega
      simp [this, h32]
    rw [e1, e2]
  · simp [h8]
theorem su_sh (a b : Int) : su a b = (BitVec.ofInt 32 a >>> (UInt32.mod ((Int32.ofInt b).toUInt32 &&& Int32.toUInt32 31) 32).toBitVec.toNat).toInt := rfl
theorem su_k : ∀ k < 32, (UInt32.mod ((Int32.ofInt ((k : Nat) : Int)).toUInt32 &&& Int32.toUInt32 31) 32).toBitVec.toNat = k := by decide +kernel
theorem sr_bv (a b : Int) : sr a b = ((BitVec.ofInt 32 a).sshiftRight ((Int32.ofInt b &&& 31).toBitVec.smod 32).toNat).toInt := rfl
theorem w8_bv (V : BitVec 32) : w8 V.toInt = (BitVec.signExtend 32 (BitVec.signExtend 8 V)).toInt := by
  show (BitVec.signExtend 32 (BitVec.signExtend 8 (BitVec.ofInt 32 V.toInt))).toInt = _
  rw [BitVec.ofInt_toInt]
theorem ia_bv (V : BitVec 32) : ia V.toInt 255 = (V &&& 255#32).toInt := by
  show (BitVec.ofInt 32 V.toInt &&& BitVec.ofInt 32 255).toInt = _
  rw [BitVec.ofInt_toInt]
  rfl
theorem b4_s (x : Int) (k : Nat) (hk : k ≤ 24) : ia (su x ((k : Nat) : Int)) 255 = ia (w8 (sr x ((k : Nat) : Int))) 255 := by
  rw [su_sh, su_k k (by omega), sr_bv, sh_k k (by omega), w8_bv, ia_bv, ia_bv, b4_bv _ k hk]
theorem b4_is (x j : Int) (h0 : 0 ≤ j) (h3 : j ≤ 3) : ia (su x (8 * j)) 255 = ia (w8 (sr x (8 * j))) 255 := by
  rw [show 8 * j = ((8 * j.toNat : Nat) : Int) by omega]
  exact b4_s x _ (by omega)
theorem app_R (x : Int) : ∀ (j F1 F2 : Nat) (A1 A2 : qA), j ≤ 4 → j < F1 → j < F2 → RT A1 A2 → 0 ≤ A1 52 (fd 1) → A1 52 (fd 1) + j ≤ 220 → RT (fC_append_L F1 2 [x, 8 * (j : Int) - 8] A1) (fM_types_L F2 2 [x, (j : Int) - 1] A2) ∧ (fC_append_L F1 2 [x, 8 * (j : Int) - 8] A1) 52 (fd 1) = A1 52 (fd 1) + j
  | _, 0, _, _, _, _, h, _, _, _, _ => absurd h (Nat.not_lt_zero _)
  | _, _, 0, _, _, _, _, h, _, _, _ => absurd h (Nat.not_lt_zero _)
  | 0, F1 + 1, F2 + 1, A1, A2, _, _, _, hR, h0, h1 => by
    rw [fC_append_L2, fM_types_L2]
    unfold fC_append_c2 fM_types_c2
    rw [if_pos (show 8 * ((0 : Nat) : Int) - 8 < 0 by decide), if_pos (show ((0 : Nat) : Int) - 1 < 0 by decide)]
    exact ⟨hR, by simp⟩
  | j + 1, F1 + 1, F2 + 1, A1, A2, hj, hF1, hF2, hR, h0, h1 => by
    rw [fC_append_L2, fM_types_L2]
    unfold fC_append_c2 fM_types_c2
    simp only [qlet]
    rw [if_neg (show ¬ 8 * ((j + 1 : Nat) : Int) - 8 < 0 by omega), if_neg (show ¬ ((j + 1 : Nat) : Int) - 1 < 0 by omega), if_pos (show A1 52 (fd 1) < 220 by omega)]
    have e1 : 8 * ((j + 1 : Nat) : Int) - 8 = 8 * (j : Int) := by omega
    have e2 : ((j + 1 : Nat) : Int) - 1 = (j : Int) := by omega
    have e3 : 8 * (j : Int) + -8 = 8 * (j : Int) - 8 := by omega
    have e4 : (j : Int) + -1 = (j : Int) - 1 := by omega
    rw [e1, e2, e3, e4]
    have hl := hR.1
    have hw := b4_is x j (by omega) (by omega)
    have hR2 : RT (qu (qu A1 53 (A1 52 (fd 1)) (ia (su x (8 * (j : Int))) 255)) 52 (fd 1) (A1 52 (fd 1) + 1)) (qu (qu A2 22 (A2 0 (fd 26)) (w8 (sr x (8 * (j : Int))))) 0 (fd 26) (A2 0 (fd 26) + 1)) := by
      refine ⟨by rw [qu_at, qu_at, hl], fun i h2 h3 => ?_⟩
      have f1 : (qu (qu A1 53 (A1 52 (fd 1)) (ia (su x (8 * (j : Int))) 255)) 52 (fd 1) (A1 52 (fd 1) + 1)) 53 i = if i = A1 52 (fd 1) then ia (su x (8 * (j : Int))) 255 else A1 53 i := by simp [qu_is]
      have f2 : (qu (qu A2 22 (A2 0 (fd 26)) (w8 (sr x (8 * (j : Int))))) 0 (fd 26) (A2 0 (fd 26) + 1)) 22 i = if i = A2 0 (fd 26) then w8 (sr x (8 * (j : Int))) else A2 22 i := by simp [qu_is]
      rw [f1, f2, ← hl]
      split
      · exact hw
      · exact hR.2 i h2 h3
    have ih := app_R x j F1 F2 _ _ (by omega) (by omega) (by omega) hR2 (by rw [qu_at]; omega) (by rw [qu_at]; omega)
    refine ⟨ih.1, ?_⟩
    rw [ih.2, qu_at]
    omega
theorem app4 (x : Int) {A1 A2 : qA} (hR : RT A1 A2) (h0 : 0 ≤ A1 52 (fd 1)) (h1 : A1 52 (fd 1) + 4 ≤ 220) : RT (fC_append x A1) (fM_types x A2) ∧ (fC_append x A1) 52 (fd 1) = A1 52 (fd 1) + 4 := app_R x 4 100000 100000 A1 A2 (by decide) (by decide) (by decide) hR h0 h1
theorem feed_R (a b c d e : Int) {A1 A2 : qA} (hR : RT A1 A2) (h0 : 0 ≤ A1 52 (fd 1)) : (fC_feed a b c d e A1).1 = (fM_feed a b c d e A2).1 ∧ RT (fC_feed a b c d e A1).2 (fM_feed a b c d e A2).2 := by
  unfold fC_feed fM_feed
  simp only [qlet]
  rw [← hR.1]
  by_cases h : 220 < A1 52 (fd 1) + 20
  · rw [if_pos h, if_pos h]
    exact ⟨rfl, hR⟩
  · rw [if_neg h, if_neg h]
    have r1 := app4 a hR h0 (by omega)
    have r2 := app4 b r1.1 (by omega) (by omega)
    have r3 := app4 c r2.1 (by omega) (by omega)
    have r4 := app4 d r3.1 (by omega) (by omega)
    have r5 := app4 e r4.1 (by omega) (by omega)
    exact ⟨r5.1.1, r5.1⟩
theorem chkC_2 (c n : Int) : ∀ (F : Nat) (k : Int) (B : qA), (fC_check_L F 20 [c, n, k] B).2 = B
  | 0, _, _ => rfl
  | F + 1, k, B => by
    rw [fC_check_L20]
    unfold fC_check_c20
    simp only [qlet]
    repeat' split
    all_goals first | rfl | exact chkC_2 c n F _ B
theorem chkM_2 (c n : Int) : ∀ (F : Nat) (k : Int) (B : qA), (fM_check_L F 20 [c, n, k] B).2 = B
  | 0, _, _ => rfl
  | F + 1, k, B => by
    rw [fM_check_L20]
    unfold fM_check_c20
    simp only [qlet]
    repeat' split
    all_goals first | rfl | exact chkM_2 c n F _ B
theorem check_RT (c n : Int) {A1 A2 : qA} (hR : RT A1 A2) : RT (fC_check c n A1).2 (fM_check c n A2).2 := by
  unfold fC_check fM_check
  simp only [qlet]
  rw [← hR.1]
  by_cases h1 : 0 ≤ c ∧ c ≤ 7
  · rw [if_pos h1, if_pos h1]
    by_cases h2 : n < 0
    · rw [if_pos h2, if_pos h2]; exact hR
    · rw [if_neg h2, if_neg h2]
      by_cases h3 : qd (A1 52 (fd 1)) 4 < n
      · rw [if_pos h3, if_pos h3]; exact hR
      · rw [if_neg h3, if_neg h3, chkC_2, chkM_2]
        refine ⟨by rw [qu_at, qu_at], fun i h4 h5 => ?_⟩
        have := hR.2 i h4 h5
        simp only [qu_is]
        simpa using this
  · rw [if_neg h1, if_neg h1]; exact hR
theorem lkC_ok {A : qA} (hi : iva IC A) {n : Int} (hn : n ≤ 200) : lkok n (fun p => if p < n then A 53 p else -1) := by
  intro p hp
  have hb : p < n → 0 ≤ A 53 p ∧ A 53 p ≤ 255 := fun h => iva_at hi 26 rfl hp (by omega)
  constructor
  · show -1 ≤ (if p < n then A 53 p else -1) ∧ (if p < n then A 53 p else -1) ≤ 255
    split
    · next h => have := hb h; omega
    · omega
  · intro h
    show (if p < n then A 53 p else -1) = -1
    rw [if_neg (by omega)]
theorem law36len (n : Int) (A : qA) : (fC_law_36 n A).2 52 (fd 1) = if 1 ≤ n ∧ n ≤ 200 ∧ n ≤ A 52 (fd 1) then 0 else A 52 (fd 1) := by
  unfold fC_law_36
  simp only [qlet, qlp]
  by_cases h : 1 ≤ n ∧ n ≤ 200 ∧ n ≤ A 52 (fd 1)
  · rw [if_pos h, if_neg (show ¬ n < 1 by omega), if_neg (show ¬ 200 < n by omega), if_neg (show ¬ A 52 (fd 1) < n by omega)]
    split <;> simp [qu_is]
  · rw [if_neg h]
    by_cases h1 : n < 1
    · rw [if_pos h1]
    · rw [if_neg h1]
      by_cases h2 : 200 < n
      · rw [if_pos h2]
      · rw [if_neg h2, if_pos (show A 52 (fd 1) < n by omega)]
theorem law36_R {n : Int} {A1 A2 B1 B2 : qA} (hR : RT A1 A2) (hi : iva IC A1) (e1 : B1 = (fC_law_36 n A1).2) (e2 : B2 = (fM_law n A2).2) (f1 : B1 53 = A1 53) (f2 : B2 22 = A2 22) : (fC_law_36 n A1).1 = (fM_law n A2).1 ∧ RT B1 B2 := by
  have hl := law36len n A1
  have hR1 := hR.1
  by_cases h : 1 ≤ n ∧ n ≤ 200 ∧ n ≤ A1 52 (fd 1)
  · have hlk := lkC_ok hi h.2.1
    have a := law36 (A := A1) h.1 h.2.1 h.2.2 hlk (fun _ _ => rfl)
    have b := lawM (A := A2) h.1 h.2.1 (by rw [← hR1]; exact h.2.2) hlk (fun p hp => by
      show (if p < n then A1 53 p else -1) = _
      split
      · exact hR.2 p hp (by omega)
      · rfl)
    rw [if_pos h] at hl
    refine ⟨?_, by rw [e1, e2, hl, b.1], by rw [f1, f2]; exact hR.2⟩
    have b2 := b.2
    rcases hx : p_text (fun p => if p < n then A1 53 p else -1) 15 0 0 0 with f | T
    · rw [hx] at a b2
      rw [a.1, b2]
    · rw [hx] at a b2
      rw [a.1, b2.1]
  · rw [if_neg h] at hl
    have c1 : (fC_law_36 n A1).1 = -1 := by
      unfold fC_law_36
      simp only [qlet, qlp]
      by_cases h1 : n < 1
      · rw [if_pos h1]
      · rw [if_neg h1]
        by_cases h2 : 200 < n
        · rw [if_pos h2]
        · rw [if_neg h2, if_pos (show A1 52 (fd 1) < n by omega)]
    have c2 : fM_law n A2 = (-1, A2) := by
      unfold fM_law
      simp only [qlet, qlp]
      by_cases h1 : 1 ≤ n ∧ n ≤ 200
      · rw [if_pos h1, if_pos (show A2 0 (fd 26) < n by omega)]
      · rw [if_neg h1]
    refine ⟨by rw [c1, c2], by rw [e1, e2, hl, c2]; exact hR1, by rw [f1, f2]; exact hR.2⟩
theorem law71len (n : Int) (A : qA) : (fC_law_71 n A).2 52 (fd 1) = if 1 ≤ n ∧ n ≤ 200 ∧ n ≤ A 52 (fd 1) then 0 else A 52 (fd 1) := by
  unfold fC_law_71
  simp only [qlet, qlp]
  by_cases h : 1 ≤ n ∧ n ≤ 200 ∧ n ≤ A 52 (fd 1)
  · rw [if_pos h, if_neg (show ¬ n < 1 by omega), if_neg (show ¬ 200 < n by omega), if_neg (show ¬ A 52 (fd 1) < n by omega)]
    split <;> simp [qu_is]
  · rw [if_neg h]
    by_cases h1 : n < 1
    · rw [if_pos h1]
    · rw [if_neg h1]
      by_cases h2 : 200 < n
      · rw [if_pos h2]
      · rw [if_neg h2, if_pos (show A 52 (fd 1) < n by omega)]
theorem law71_R {n : Int} {A1 A2 B1 B2 : qA} (hR : RT A1 A2) (hi : iva IC A1) (e1 : B1 = (fC_law_71 n A1).2) (e2 : B2 = (fM_law n A2).2) (f1 : B1 53 = A1 53) (f2 : B2 22 = A2 22) : (fC_law_71 n A1).1 = (fM_law n A2).1 ∧ RT B1 B2 := by
  have hl := law71len n A1
  have hR1 := hR.1
  by_cases h : 1 ≤ n ∧ n ≤ 200 ∧ n ≤ A1 52 (fd 1)
  · have hlk := lkC_ok hi h.2.1
    have a := law71 (A := A1) h.1 h.2.1 h.2.2 hlk (fun _ _ => rfl)
    have b := lawM (A := A2) h.1 h.2.1 (by rw [← hR1]; exact h.2.2) hlk (fun p hp => by
      show (if p < n then A1 53 p else -1) = _
      split
      · exact hR.2 p hp (by omega)
      · rfl)
    rw [if_pos h] at hl
    refine ⟨?_, by rw [e1, e2, hl, b.1], by rw [f1, f2]; exact hR.2⟩
    have b2 := b.2
    rcases hx : p_text (fun p => if p < n then A1 53 p else -1) 15 0 0 0 with f | T
    · rw [hx] at a b2
      rw [a.1, b2]
    · rw [hx] at a b2
      rw [a.1, b2.1]
  · rw [if_neg h] at hl
    have c1 : (fC_law_71 n A1).1 = -1 := by
      unfold fC_law_71
      simp only [qlet, qlp]
      by_cases h1 : n < 1
      · rw [if_pos h1]
      · rw [if_neg h1]
        by_cases h2 : 200 < n
        · rw [if_pos h2]
        · rw [if_neg h2, if_pos (show A1 52 (fd 1) < n by omega)]
    have c2 : fM_law n A2 = (-1, A2) := by
      unfold fM_law
      simp only [qlet, qlp]
      by_cases h1 : 1 ≤ n ∧ n ≤ 200
      · rw [if_pos h1, if_pos (show A2 0 (fd 26) < n by omega)]
      · rw [if_neg h1]
    refine ⟨by rw [c1, c2], by rw [e1, e2, hl, c2]; exact hR1, by rw [f1, f2]; exact hR.2⟩
