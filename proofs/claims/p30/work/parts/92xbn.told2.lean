theorem laysU_L {x T : Int} (h0 : 0 ≤ x) (h1 : x < 281474976710656) : ∀ (m F k : Nat) (B : qA), m < F → 48 - k ≤ m → k ≤ 48 → (pcnt x.toNat k : Int) ≤ T → B 0 (fd 63) = (pcnt x.toNat k : Int) → tld x.toNat k (B 50) → (T < (pcnt x.toNat 48 : Int) → (fM_lays2_L F 15 [x, T, (k : Int)] B).1 = 0) ∧ ((pcnt x.toNat 48 : Int) ≤ T → (fM_lays2_L F 15 [x, T, (k : Int)] B).1 = 1 ∧ (fM_lays2_L F 15 [x, T, (k : Int)] B).2 0 (fd 63) = (pcnt x.toNat 48 : Int) ∧ tld x.toNat 48 ((fM_lays2_L F 15 [x, T, (k : Int)] B).2 50)) ∧ frm [50] [(0, 63)] B (fM_lays2_L F 15 [x, T, (k : Int)] B).2
  | _, 0, _, _, h, _, _, _, _, _ => absurd h (Nat.not_lt_zero _)
  | m, F + 1, k, B, hF, hm, hk, hp, hn, ht => by
    rw [fM_lays2_L15]
    unfold fM_lays2_c15
    simp only [qlet]
    by_cases hk2 : k < 48
    · rw [if_pos (show (k : Int) < 48 by omega)]
      have hbr := bit_r (x := x) (c := (k : Int)) (by omega) (by omega)
      rw [hbit_n h0 h1, show ((k : Int)).toNat = k by omega] at hbr
      cases m with
      | zero => exfalso; omega
      | succ m =>
        cases hb : x.toNat.testBit k with
        | false =>
          rw [if_pos (Classical.byContradiction fun z => by rw [hb] at hbr; exact absurd (hbr.mp z) (by decide)), show (k : Int) + 1 = ((k + 1 : Nat) : Int) by omega]
          exact laysU_L h0 h1 m F (k + 1) B (by omega) (by omega) (by omega) (by rw [pcnt_s0 hb]; exact hp) (by rw [pcnt_s0 hb]; exact hn) (tld_s0 ht hb)
        | true =>
          have l := pcnt_lt hk2 hb
          rw [if_neg (hbr.mpr hb), hn]
          by_cases q8 : (pcnt x.toNat k : Int) = T
          · rw [if_pos q8]
            exact ⟨fun _ => rfl, fun z => by omega, frm_0 _ _ _⟩
          · rw [if_neg q8, show (k : Int) + 1 = ((k + 1 : Nat) : Int) by omega]
            obtain ⟨a, b, c⟩ := laysU_L h0 h1 (T := T) m F (k + 1) (qu (qu B 50 (pcnt x.toNat k : Int) (k : Int)) 0 (fd 63) ((pcnt x.toNat k : Int) + 1)) (by omega) (by omega) (by omega) (by rw [pcnt_s1 hb]; omega) (by rw [qu_at, pcnt_s1 hb]; omega) (by
              intro j hj htj
              rw [qu_ne (show (50 : Nat) ≠ 0 by decide)]
              by_cases q : j = k
              · rw [q, qu_at]
              · have l2 := pcnt_lt (show j < k by omega) htj
                rw [qu_nj (by omega)]
                exact ht j (by omega) htj)
            exact ⟨a, b, frm_c (frm_qf (frm_q (frm_0 _ _ _) rfl) rfl) c rfl⟩
    · rw [if_neg (show ¬ (k : Int) < 48 by omega)]
      rw [show k = 48 by omega] at hn ht hp
      exact ⟨fun z => by omega, fun _ => ⟨rfl, hn, ht⟩, frm_0 _ _ _⟩
theorem laysU_is {x T : Int} (T0 : 0 ≤ T) (A : qA) : (¬ okT x T → (fM_lays2 x T A).1 = 0) ∧ (okT x T → (fM_lays2 x T A).1 = 1 ∧ (fM_lays2 x T A).2 0 (fd 63) = (pcnt x.toNat 48 : Int) ∧ tld x.toNat 48 ((fM_lays2 x T A).2 50)) ∧ frm [50] [(0, 63)] A (fM_lays2 x T A).2 := by
  unfold fM_lays2
  simp only [qlet_e]
  have q48 : qnL 281474976710656 = 281474976710656 := by decide
  rw [q48]
  have e1 : (0 < jc x 0) ↔ 0 < x := by
    unfold jc
    by_cases a : x = 0
    · rw [if_pos a]; omega
    · rw [if_neg a]
      by_cases b : 0 < x
      · rw [if_pos b]; simp [b]
      · rw [if_neg b]; simp [b]
  have e2 : (jc x 281474976710656 < 0) ↔ x < 281474976710656 := by
    unfold jc
    by_cases a : x = 281474976710656
    · rw [if_pos a]; omega
    · rw [if_neg a]
      by_cases b : 281474976710656 < x
      · rw [if_pos b]; omega
      · rw [if_neg b]; omega
  by_cases p1 : 0 < x
  · rw [if_pos (e1.mpr p1)]
    by_cases p2 : x < 281474976710656
    · rw [if_pos (e2.mpr p2)]
      obtain ⟨a, b, c⟩ := laysU_L (x := x) (T := T) (by omega) p2 48 100000 0 (qu A 0 (fd 63) 0) (by decide) (by omega) (by omega) (by show ((0 : Nat) : Int) ≤ T; omega) (by rw [qu_at]; rfl) (fun j hj => absurd hj (Nat.not_lt_zero j))
      exact ⟨fun z => a (by
        by_cases w : (pcnt x.toNat 48 : Int) ≤ T
        · exact absurd ⟨p1, p2, w⟩ z
        · omega), fun z => b z.2.2, frm_c (frm_qf (frm_0 _ _ _) rfl) c rfl⟩
    · rw [if_neg (fun z => p2 (e2.mp z))]
      exact ⟨fun _ => rfl, fun z => absurd z.2.1 p2, frm_0 _ _ _⟩
  · rw [if_neg (fun z => p1 (e1.mp z))]
    exact ⟨fun _ => rfl, fun z => absurd z.1 p1, frm_0 _ _ _⟩
