/-! THE SHORTEST ROUND: work answers alike where the ropes are alike -/
theorem checkC_L {w c x v : Int} (h0 : 0 ≤ x) (h1 : x < 281474976710656) {B : qA} : ∀ (m F k : Nat), m < F → 48 - k ≤ m → k ≤ 48 → ((∃ j : Nat, k ≤ j ∧ j < 48 ∧ x.toNat.testBit j = true ∧ B 21 ((j : Int) / 6) < w + 5 * ((j : Int) % 6)) → (fC_work_L F 26 [w, c, x, v, (k : Int)] B).1 = -2) ∧ ((∀ j : Nat, k ≤ j → j < 48 → x.toNat.testBit j = true → ¬ B 21 ((j : Int) / 6) < w + 5 * ((j : Int) % 6)) → (fC_work_L F 26 [w, c, x, v, (k : Int)] B).1 = if v = -1 then fC_least (fC_solve (fC_asWork c (fC_tell x B))) else fC_cellAt v (fC_solve (fC_asWork c (fC_tell x B))))
  | _, 0, _, h, _, _ => absurd h (Nat.not_lt_zero _)
  | m, F + 1, k, hF, hm, hk => by
    rw [fC_work_L26]
    unfold fC_work_c26
    simp only [qlet_e]
    by_cases q : k < 48
    · rw [if_pos (show (k : Int) < 48 by omega), isTold_is h0 h1 q, show (k : Int) + 1 = ((k + 1 : Nat) : Int) by omega, show wI ((k + 1 : Nat) : Int) = ((k + 1 : Nat) : Int) from wI_id ⟨by omega, by omega⟩]
      cases m with
      | zero => exfalso; omega
      | succ m =>
        have key := checkC_L (w := w) (c := c) (v := v) h0 h1 (B := B) m F (k + 1) (by omega) (by omega) (by omega)
        cases ht : x.toNat.testBit k with
        | false =>
          rw [if_neg (show ¬ (false = true) by decide), if_pos rfl]
          refine ⟨fun ⟨j, a1, a2, a3, a4⟩ => key.1 ⟨j, ?_, a2, a3, a4⟩, fun z => key.2 (fun j a1 => z j (by omega))⟩
          by_cases e : j = k
          · rw [e, ht] at a3; cases a3
          · omega
        | true =>
          rw [if_pos rfl, if_neg (by decide), qd_nn (by omega), qm_nn (by omega), show wI ((k : Int) / 6) = (k : Int) / 6 from wI_id ⟨by omega, by omega⟩]
          have ec : fC_carries w ((k : Int) / 6) ((k : Int) % 6) B = if B 21 ((k : Int) / 6) < w + 5 * ((k : Int) % 6) then 0 else 1 := rfl
          rw [ec]
          by_cases z : B 21 ((k : Int) / 6) < w + 5 * ((k : Int) % 6)
          · rw [if_pos z, if_pos rfl]
            exact ⟨fun _ => rfl, fun y => absurd z (y k (Nat.le_refl k) q ht)⟩
          · rw [if_neg z, if_neg (by decide)]
            refine ⟨fun ⟨j, a1, a2, a3, a4⟩ => key.1 ⟨j, ?_, a2, a3, a4⟩, fun z => key.2 (fun j a1 => z j (by omega))⟩
            by_cases e : j = k
            · rw [e] at a4; exact absurd a4 z
            · omega
    · rw [if_neg (show ¬ (k : Int) < 48 by omega)]
      refine ⟨fun ⟨j, a1, a2, _⟩ => by omega, fun _ => ?_⟩
      split <;> rfl
theorem checkM_L {w c v : Int} {n : Nat} {B : qA} {cc : Int → Int} (hc : cel n cc) (n8 : n ≤ 8) (hI : itM B n cc) : ∀ (m F k : Nat), m + 300 < F → n - k ≤ m → k ≤ n → ((∃ i : Nat, k ≤ i ∧ i < n ∧ B 20 (cc i / 6) < w + 5 * (cc i % 6)) → (fM_work_L F 27 [w, c, v, (k : Int)] B).1 = -2) ∧ ((∀ i : Nat, k ≤ i → i < n → ¬ B 20 (cc i / 6) < w + 5 * (cc i % 6)) → ∃ F', 200 < F' ∧ fM_work_L F 27 [w, c, v, (k : Int)] B = fM_work_L F' 60 [v, ((2 ^ n - 1 : Nat) : Int), 6 * c + 0, -1, 0] (fM_laysHours B))
  | _, 0, _, h, _, _ => absurd h (Nat.not_lt_zero _)
  | m, F + 1, k, hF, hm, hk => by
    rw [fM_work_L27]
    unfold fM_work_c27
    simp only [qlet_e]
    rw [hI.1]
    by_cases q : k < n
    · rw [if_pos (show (k : Int) < (n : Int) by omega), hI.2 k q, show (k : Int) + 1 = ((k + 1 : Nat) : Int) by omega]
      have em : fM_mayBe w (cc k) B = if B 20 (cc k / 6) < w + 5 * (cc k % 6) then 0 else 1 := by
        unfold fM_mayBe
        simp only [qlet_e]
        rw [qd_nn (hc k q).1, qm_nn (hc k q).1]
      rw [em]
      cases m with
      | zero => exfalso; omega
      | succ m =>
        have key := checkM_L (w := w) (c := c) (v := v) hc n8 hI m F (k + 1) (by omega) (by omega) (by omega)
        by_cases z : B 20 (cc k / 6) < w + 5 * (cc k % 6)
        · rw [if_pos z, if_pos rfl]
          exact ⟨fun _ => rfl, fun y => absurd z (y k (Nat.le_refl k) q)⟩
        · rw [if_neg z, if_neg (by decide)]
          refine ⟨fun ⟨j, a1, a2, a4⟩ => key.1 ⟨j, ?_, a2, a4⟩, fun z => key.2 (fun j a1 => z j (by omega))⟩
          by_cases e : j = k
          · rw [e] at a4; exact absurd a4 z
          · omega
    · have h0 : 0 < 2 ^ n := Nat.two_pow_pos n
      rw [if_neg (show ¬ (k : Int) < (n : Int) by omega), (bt6 n (by omega)).1, show ((2 ^ n : Nat) : Int) - 1 = ((2 ^ n - 1 : Nat) : Int) by omega]
      exact ⟨fun ⟨j, a1, a2, _⟩ => by omega, fun _ => ⟨F, by omega, rfl⟩⟩
theorem work_R (w c v : Int) {x : Int} (hx : rngL x) {A1 A2 : qA} (hR : ∀ i, 0 ≤ i → i < 8 → A1 21 i = A2 20 i) : (fC_work w c x v A1).1 = (fM_work w c x v A2).1 := by
  unfold fC_work fM_work
  simp only [qlet_e, qlp]
  rw [toldC_is hx]
  by_cases w1 : 1 ≤ w ∧ w ≤ 99
  · rw [if_pos w1, if_neg (show ¬ w < 1 by omega), if_neg (show ¬ 99 < w by omega)]
    by_cases c1 : 0 ≤ c ∧ c ≤ 7
    · rw [if_pos c1, if_pos c1]
      obtain ⟨l1, l2⟩ := lays_is hx A2
      by_cases g : 0 < x ∧ x < 281474976710656 ∧ pcnt x.toNat 48 ≤ 8
      · obtain ⟨e1, e2, e3, e4⟩ := l2 g
        have n1 : 1 ≤ pcnt x.toNat 48 := by
          obtain ⟨b, b1, b2⟩ := bit_ex (l := x.toNat) (n := 48) (by omega) (by omega)
          have := pcnt_lt b1 b2
          omega
        rw [if_pos (show 0 ≤ x ∧ x < 281474976710656 by omega), if_neg (show ¬ (8 : Int) < ((pcnt x.toNat 48 : Nat) : Int) by omega), if_neg (show ¬ ((pcnt x.toNat 48 : Nat) : Int) < 1 by omega), e1, if_neg (show ¬ (1 : Int) = 0 by decide), e2]
        generalize hA5 : (fM_lays x 8 A2).2 = A5 at e2 e3 e4 ⊢
        by_cases v1 : -1 ≤ v ∧ v < ((pcnt x.toNat 48 : Nat) : Int)
        · rw [if_neg (show ¬ v < -1 by omega), if_pos v1.2, if_pos (show -1 ≤ v ∧ v ≤ ((pcnt x.toNat 48 : Nat) : Int) - 1 by omega)]
          have hc : cel (pcnt x.toNat 48) (A5 50) := by
            intro i hi
            obtain ⟨j, j1, j2, j3⟩ := pcnt_ex 48 i hi
            have := e3 j j1 j2
            rw [j3] at this
            rw [this]
            omega
          have hM : itM A5 (pcnt x.toNat 48) (A5 50) := ⟨e2, fun _ _ => rfl⟩
          have kC := checkC_L (w := w) (c := c) (v := v) (show 0 ≤ x by omega) g.2.1 (B := A1) 48 100000 0 (by decide) (by omega) (by omega)
          have kM := checkM_L (w := w) (c := c) (v := v) hc g.2.2 hM 8 100000 0 (by decide) (by omega) (by omega)
          rw [show ((0 : Nat) : Int) = 0 from rfl] at kC kM
          by_cases H : ∃ j : Nat, 0 ≤ j ∧ j < 48 ∧ x.toNat.testBit j = true ∧ A1 21 ((j : Int) / 6) < w + 5 * ((j : Int) % 6)
          · have r1 := kC.1 H
            obtain ⟨j, -, j1, j2, j3⟩ := H
            have r2 := kM.1 ⟨pcnt x.toNat j, Nat.zero_le _, pcnt_lt j1 j2, by rw [e3 j j1 j2, e4, ← hR _ (by omega) (by omega)]; exact j3⟩
            exact r1.trans r2.symm
          · have r1 := kC.2 (fun j _ j1 j2 j3 => H ⟨j, Nat.zero_le _, j1, j2, j3⟩)
            obtain ⟨F', f1, r2⟩ := kM.2 (fun i _ i1 i2 => by
              obtain ⟨j, j1, j2, j3⟩ := pcnt_ex 48 i i1
              have e := e3 j j1 j2
              rw [j3] at e
              rw [e, e4, ← hR _ (by omega) (by omega)] at i2
              exact H ⟨j, Nat.zero_le _, j1, j2, i2⟩)
            -- the class
            have tC := tellC_L (x := x) (by omega) g.2.1 g.2.2 48 100000 0 (qu A1 55 (fd 7) 0) (by decide) (by omega) (by omega) (by rw [qu_at]; rfl) (fun j hj => absurd hj (Nat.not_lt_zero j))
            have iC : itC (fC_tell x A1) (pcnt x.toNat 48) (A5 50) := by
              refine ⟨tC.1, fun i hi => ?_⟩
              obtain ⟨j, j1, j2, j3⟩ := pcnt_ex 48 i hi
              have a := tC.2 j j1 j2
              have b := e3 j j1 j2
              rw [j3] at a b
              rw [b]
              exact a
            obtain ⟨iC2, aC⟩ := asWork_is hc g.2.2 n1 c1.1 iC
            obtain ⟨B', sC, iC3, aC3, oC, h8⟩ := solve_is hc g.2.2 n1 (show 0 ≤ c * 6 by omega) (by omega) iC2 aC
            obtain ⟨rC, rE⟩ := row_is hc g.2.2 n1 (show 0 ≤ c * 6 by omega) (by omega) iC3 aC3 oC h8
            -- the reference
            obtain ⟨mI, mL⟩ := laysH_is hc g.2.2 n1 hM
            have hw := walk_L (f0 := c * 6) (v := v) hc g.2.2 (by omega) (by omega) mI mL 150 (F' - 1) 0 0 (-1) (by omega) (by omega) (by omega) (by omega) (Or.inl ⟨rfl, rfl⟩) (by omega)
            have r3 : (fM_work_L F' 60 [v, ((2 ^ (pcnt x.toNat 48) - 1 : Nat) : Int), 6 * c + 0, -1, 0] (fM_laysHours A5)).1 = if v = -1 then TT (A5 50) (pcnt x.toNat 48) (2 ^ (pcnt x.toNat 48) - 1) (c * 6) else A5 50 (rowK (A5 50) (pcnt x.toNat 48) (c * 6) v.toNat) := by
              obtain ⟨F2, rfl⟩ : ∃ F2, F' = F2 + 1 := ⟨F' - 1, by omega⟩
              rw [fM_work_L60]
              unfold fM_work_c60
              simp only [qlet_e]
              rw [mI.1, if_pos (show (0 : Int) < ((pcnt x.toNat 48 : Nat) : Int) by omega), show 6 * c + 0 = c * 6 by omega]
              exact hw
            rw [r1, r2, r3, sC]
            by_cases vm : v = -1
            · rw [if_pos vm, if_pos vm]
              show (fC_findRow _ B') 61 8 = _
              rw [rE, h8]
            · rw [if_neg vm, if_neg vm]
              unfold fC_cellAt
              simp only [qlet_e]
              have := rC v.toNat (by omega)
              rw [show ((v.toNat : Nat) : Int) = v by omega] at this
              rw [if_pos (show 0 ≤ v ∧ v ≤ 7 by omega), this]
        · rw [if_neg (show ¬ (-1 ≤ v ∧ v ≤ ((pcnt x.toNat 48 : Nat) : Int) - 1) by omega)]
          by_cases v2 : v < -1
          · rw [if_pos v2]
          · rw [if_neg v2, if_neg (show ¬ v < ((pcnt x.toNat 48 : Nat) : Int) by omega)]
      · rw [l1 g, if_pos rfl]
        have hlt : (if 0 ≤ x ∧ x < 281474976710656 then (if (8 : Int) < ((pcnt x.toNat 48 : Nat) : Int) then 0 else ((pcnt x.toNat 48 : Nat) : Int)) else 0) < 1 := by
          by_cases a : 0 ≤ x ∧ x < 281474976710656
          · rw [if_pos a]
            by_cases b : (8 : Int) < ((pcnt x.toNat 48 : Nat) : Int)
            · rw [if_pos b]; decide
            · rw [if_neg b]
              have x0 : x = 0 := by omega
              rw [x0]
              show ((pcnt 0 48 : Nat) : Int) < 1
              rw [pcnt_zero]
              decide
          · rw [if_neg a]; decide
        rw [if_pos hlt]
    · rw [if_neg c1, if_neg c1]
  · rw [if_neg w1]
    by_cases a : w < 1
    · rw [if_pos a]
    · rw [if_neg a, if_pos (show 99 < w by omega)]
