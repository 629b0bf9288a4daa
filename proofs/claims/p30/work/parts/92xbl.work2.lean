/-! THE SHORTEST ROUND (work): the relation of the ropes -/
theorem tellC_L {x : Int} (h0 : 0 ≤ x) (h1 : x < 281474976710656) (h8 : pcnt x.toNat 48 ≤ 8) : ∀ (m F k : Nat) (B : qA), m < F → 48 - k ≤ m → k ≤ 48 → B 55 (fd 7) = (pcnt x.toNat k : Int) → tld x.toNat k (B 56) → (fC_tell_L F 5 [x, (k : Int)] B) 55 (fd 7) = (pcnt x.toNat 48 : Int) ∧ tld x.toNat 48 ((fC_tell_L F 5 [x, (k : Int)] B) 56)
  | _, 0, _, _, h, _, _, _, _ => absurd h (Nat.not_lt_zero _)
  | m, F + 1, k, B, hF, hm, hk, hn, ht => by
    rw [fC_tell_L5]
    unfold fC_tell_c5
    simp only [qlet_e]
    by_cases hk2 : k < 48
    · rw [if_pos (show (k : Int) < 48 by omega), isTold_is h0 h1 hk2]
      cases m with
      | zero => exfalso; omega
      | succ m =>
        cases hb : x.toNat.testBit k with
        | false =>
          simp only [Bool.false_eq_true, if_false, if_true]
          rw [show (k : Int) + 1 = ((k + 1 : Nat) : Int) by omega]
          exact tellC_L h0 h1 h8 m F (k + 1) B (by omega) (by omega) (by omega) (by rw [pcnt_s0 hb]; exact hn) (tld_s0 ht hb)
        | true =>
          have l := pcnt_lt hk2 hb
          rw [if_pos rfl, if_neg (by decide), hn, if_pos (show ((pcnt x.toNat k : Nat) : Int) < 8 by omega), show (k : Int) + 1 = ((k + 1 : Nat) : Int) by omega]
          refine tellC_L h0 h1 h8 m F (k + 1) _ (by omega) (by omega) (by omega) ?_ ?_
          · rw [qu_at, pcnt_s1 hb]
            omega
          · intro j hj htj
            rw [qu_ne (show (56 : Nat) ≠ 55 by decide)]
            by_cases q : j = k
            · rw [q, qu_at]
            · have l2 := pcnt_lt (show j < k by omega) htj
              rw [qu_nj (by omega)]
              exact ht j (by omega) htj
    · rw [if_neg (show ¬ (k : Int) < 48 by omega)]
      rw [show k = 48 by omega] at hn ht
      exact ⟨hn, ht⟩
theorem laysM_L {x : Int} (h0 : 0 ≤ x) (h1 : x < 281474976710656) : ∀ (m F k : Nat) (B : qA), m < F → 48 - k ≤ m → k ≤ 48 → pcnt x.toNat k ≤ 8 → B 0 (fd 63) = (pcnt x.toNat k : Int) → tld x.toNat k (B 50) → (8 < pcnt x.toNat 48 → (fM_lays_L F 15 [x, 8, (k : Int)] B).1 = 0) ∧ (pcnt x.toNat 48 ≤ 8 → (fM_lays_L F 15 [x, 8, (k : Int)] B).1 = 1 ∧ (fM_lays_L F 15 [x, 8, (k : Int)] B).2 0 (fd 63) = (pcnt x.toNat 48 : Int) ∧ tld x.toNat 48 ((fM_lays_L F 15 [x, 8, (k : Int)] B).2 50) ∧ (fM_lays_L F 15 [x, 8, (k : Int)] B).2 20 = B 20)
  | _, 0, _, _, h, _, _, _, _, _ => absurd h (Nat.not_lt_zero _)
  | m, F + 1, k, B, hF, hm, hk, hp, hn, ht => by
    rw [fM_lays_L15]
    unfold fM_lays_c15
    simp only [qlet_e]
    by_cases hk2 : k < 48
    · rw [if_pos (show (k : Int) < 48 by omega)]
      have hbr := bit_r (x := x) (c := (k : Int)) (by omega) (by omega)
      rw [hbit_n h0 h1, show ((k : Int)).toNat = k by omega] at hbr
      cases m with
      | zero => exfalso; omega
      | succ m =>
        cases hb : x.toNat.testBit k with
        | false =>
          rw [if_pos (Classical.byContradiction fun z => by rw [hb] at hbr; exact absurd (hbr.mp z) (by decide)), show (k : Int) + 1 = ((k + 1 : Nat) : Int) by omega]
          exact laysM_L h0 h1 m F (k + 1) B (by omega) (by omega) (by omega) (by rw [pcnt_s0 hb]; exact hp) (by rw [pcnt_s0 hb]; exact hn) (tld_s0 ht hb)
        | true =>
          have l := pcnt_lt hk2 hb
          rw [if_neg (hbr.mpr hb), hn]
          by_cases q8 : pcnt x.toNat k = 8
          · rw [if_pos (show ((pcnt x.toNat k : Nat) : Int) = 8 by omega)]
            exact ⟨fun _ => rfl, fun z => by omega⟩
          · rw [if_neg (show ¬ ((pcnt x.toNat k : Nat) : Int) = 8 by omega), show (k : Int) + 1 = ((k + 1 : Nat) : Int) by omega]
            have key := laysM_L h0 h1 m F (k + 1) (qu (qu B 50 (pcnt x.toNat k : Int) (k : Int)) 0 (fd 63) ((pcnt x.toNat k : Int) + 1)) (by omega) (by omega) (by omega) (by rw [pcnt_s1 hb]; omega) (by rw [qu_at, pcnt_s1 hb]; omega) (by
              intro j hj htj
              rw [qu_ne (show (50 : Nat) ≠ 0 by decide)]
              by_cases q : j = k
              · rw [q, qu_at]
              · have l2 := pcnt_lt (show j < k by omega) htj
                rw [qu_nj (by omega)]
                exact ht j (by omega) htj)
            refine ⟨key.1, fun z => ?_⟩
            obtain ⟨a, b, c, d⟩ := key.2 z
            refine ⟨a, b, c, d.trans ?_⟩
            rw [qu_ne (show (20 : Nat) ≠ 0 by decide), qu_ne (show (20 : Nat) ≠ 50 by decide)]
    · rw [if_neg (show ¬ (k : Int) < 48 by omega)]
      rw [show k = 48 by omega] at hn ht hp
      exact ⟨fun z => by omega, fun _ => ⟨rfl, hn, ht, rfl⟩⟩
theorem lays_is {x : Int} (h : rngL x) (A : qA) : (¬ (0 < x ∧ x < 281474976710656 ∧ pcnt x.toNat 48 ≤ 8) → (fM_lays x 8 A).1 = 0) ∧ ((0 < x ∧ x < 281474976710656 ∧ pcnt x.toNat 48 ≤ 8) → (fM_lays x 8 A).1 = 1 ∧ (fM_lays x 8 A).2 0 (fd 63) = (pcnt x.toNat 48 : Int) ∧ tld x.toNat 48 ((fM_lays x 8 A).2 50) ∧ (fM_lays x 8 A).2 20 = A 20) := by
  unfold fM_lays
  simp only [qlet_e]
  have q48 : qnL 281474976710656 = 281474976710656 := by decide
  rw [q48]
  have e1 : (0 < jc x 0) ↔ 0 < x := by
    unfold jc
    by_cases a : x = 0
    · rw [if_pos a]; omega
    · rw [if_neg a]
      by_cases b : 0 < x
      · rw [if_pos b]; simp [b]
      · rw [if_neg b]; simp [b]
  have e2 : (jc x 281474976710656 < 0) ↔ x < 281474976710656 := by
    unfold jc
    by_cases a : x = 281474976710656
    · rw [if_pos a]; omega
    · rw [if_neg a]
      by_cases b : 281474976710656 < x
      · rw [if_pos b]; omega
      · rw [if_neg b]; omega
  by_cases p1 : 0 < x
  · rw [if_pos (e1.mpr p1)]
    by_cases p2 : x < 281474976710656
    · rw [if_pos (e2.mpr p2)]
      have key := laysM_L (x := x) (by omega) p2 48 100000 0 (qu A 0 (fd 63) 0) (by decide) (by omega) (by omega) (by show (0 : Nat) ≤ 8; omega) (by rw [qu_at]; rfl) (fun j hj => absurd hj (Nat.not_lt_zero j))
      refine ⟨fun z => key.1 (Nat.lt_of_not_le fun w => z ⟨p1, p2, w⟩), fun z => ?_⟩
      obtain ⟨a, b, c, d⟩ := key.2 z.2.2
      exact ⟨a, b, c, d.trans (qu_ne (by decide))⟩
    · rw [if_neg (fun z => p2 (e2.mp z))]
      exact ⟨fun _ => rfl, fun z => absurd z.2.1 p2⟩
  · rw [if_neg (fun z => p1 (e1.mp z))]
    exact ⟨fun _ => rfl, fun z => absurd z.1 p1⟩
