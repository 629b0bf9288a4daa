/-! WHAT IS ANSWERED: alike -/
theorem cell_R (c l w : Int) {A1 A2 : qA} (h : GR A1 A2) : fC_cell c l w A1 = fM_cell c l w A2 := by
  unfold fC_cell fM_cell
  simp only [qlet_e]
  rw [show c * 6 + l = 6 * c + l by omega]
  by_cases h1 : (0 ≤ c ∧ c ≤ 7) ∧ (0 ≤ l ∧ l ≤ 5)
  · rw [if_pos h1, if_pos h1]
    have a0 : 0 ≤ 6 * c + l := by omega
    have a1 : 6 * c + l < 48 := by omega
    generalize 6 * c + l = k at a0 a1 ⊢
    have hg := hang_is (h.1.2 k a0 a1 trivial) a0 a1
    by_cases w0 : w = 0
    · rw [if_pos w0, if_pos (show 0 ≤ w ∧ w ≤ 10 by omega), if_pos w0]
      by_cases q : A2 1 k = 0
      · rw [if_pos q, if_neg (fun z => hg.mp z q)]
      · rw [if_neg q, if_pos (hg.mpr q)]
    · rw [if_neg w0]
      by_cases q : A2 1 k = 0
      · rw [if_neg (fun z => hg.mp z q)]
        by_cases hw : 0 ≤ w ∧ w ≤ 10
        · rw [if_pos hw, if_neg w0, if_pos q]
        · rw [if_neg hw]
      · rw [if_pos (hg.mpr q)]
        obtain ⟨⟨n2, n3, n4, n5⟩, n8, n9⟩ := (h.1.2 k a0 a1 trivial).1.2 q
        obtain ⟨⟨k6, k7, k10⟩, _⟩ := (h.1.2 k a0 a1 trivial).2 q
        have hl := load_is (GR_C h) a0 a1
        unfold fC_netFact
        simp only [qlet_e]
        rw [n2, n3, n4, n5, n8, n9, k6, k7, k10, hl]
        by_cases hw : 0 ≤ w ∧ w ≤ 10
        · rw [if_pos hw, if_neg w0, if_neg q]
          by_cases w1 : w = 1
          · rw [if_pos w1, if_pos w1]
          rw [if_neg w1, if_neg w1]
          by_cases w2 : w = 2
          · rw [if_pos w2, if_pos w2]
          rw [if_neg w2, if_neg w2]
          by_cases w3 : w = 3
          · rw [if_pos w3, if_pos w3]
          rw [if_neg w3, if_neg w3]
          by_cases w4 : w = 4
          · rw [if_pos w4, if_pos w4]
          rw [if_neg w4, if_neg w4]
          by_cases w5 : w = 5
          · rw [if_pos w5, if_pos w5]
          rw [if_neg w5, if_neg w5]
          by_cases w6 : w = 6
          · rw [if_pos w6, if_pos w6]
          rw [if_neg w6, if_neg w6]
          by_cases w7 : w = 7
          · rw [if_pos w7, if_pos w7]
          rw [if_neg w7, if_neg w7]
          by_cases w8 : w = 8
          · rw [if_pos w8, if_pos w8]
          rw [if_neg w8, if_neg w8]
          by_cases w9 : w = 9
          · rw [if_pos w9, if_pos w9]
          rw [if_neg w9, if_neg w9, if_pos (show w = 10 by omega)]
        · rw [if_neg hw, if_neg (show ¬ w = 1 by omega), if_neg (show ¬ w = 2 by omega), if_neg (show ¬ w = 3 by omega), if_neg (show ¬ w = 4 by omega), if_neg (show ¬ w = 5 by omega), if_neg (show ¬ w = 6 by omega), if_neg (show ¬ w = 7 by omega), if_neg (show ¬ w = 8 by omega), if_neg (show ¬ w = 9 by omega), if_neg (show ¬ w = 10 by omega)]
  · rw [if_neg h1, if_neg h1]
theorem kitchenIs_R (c w : Int) {A1 A2 : qA} (h : GR A1 A2) : fC_kitchenIs c w A1 = fM_kitchenIs c w A2 := by
  unfold fC_kitchenIs fM_kitchenIs fC_browFact
  simp only [qlet_e]
  by_cases h1 : 0 ≤ c ∧ c ≤ 7
  · obtain ⟨⟨_, u17, u18⟩, ⟨u19, u20⟩, _⟩ := h.2.1.2.1 c h1.1 (by omega)
    rw [if_pos h1, if_pos h1, u17, u18, u19, u20]
  · rw [if_neg h1, if_neg h1]
theorem mayWork_G (w c l : Int) {A1 A2 : qA} (h : GR A1 A2) : fC_mayWork w c l A1 = fM_mayWork w c l A2 := by
  unfold fC_mayWork fM_mayWork
  by_cases h1 : w < 1
  · rw [if_pos h1, if_neg (show ¬ (1 ≤ w ∧ w ≤ 99) by omega)]
  · rw [if_neg h1]
    by_cases h2 : 99 < w
    · rw [if_pos h2, if_neg (show ¬ (1 ≤ w ∧ w ≤ 99) by omega)]
    · rw [if_neg h2, if_pos (show 1 ≤ w ∧ w ≤ 99 by omega)]
      by_cases h3 : (0 ≤ c ∧ c ≤ 7) ∧ (0 ≤ l ∧ l ≤ 5)
      · rw [if_pos h3, if_pos h3]
        have e : fC_carries w c l A1 = fM_mayBe w (6 * c + l) A2 := by
          unfold fC_carries fM_mayBe
          simp only [qlet_e]
          rw [qm_nn (show 0 ≤ 6 * c + l by omega), qd_nn (show 0 ≤ 6 * c + l by omega), show (6 * c + l) % 6 = l by omega, show (6 * c + l) / 6 = c by omega, (h.2.1.2.1 c h3.1.1 (by omega)).2.2.1.1]
        rw [e]
      · rw [if_neg h3, if_neg h3]
theorem byLaw_R (c l w : Int) {A1 A2 : qA} (h : GR A1 A2) : (fC_byLaw c l w A1).1 = (fM_byLaw c l w A2).1 ∧ GR (fC_byLaw c l w A1).2 (fM_byLaw c l w A2).2 := by
  unfold fC_byLaw fM_byLaw
  simp only [qlet_e, qlp]
  rw [show c * 6 + l = 6 * c + l by omega]
  by_cases h1 : (0 ≤ c ∧ c ≤ 7) ∧ (0 ≤ l ∧ l ≤ 5)
  · rw [if_pos h1, if_pos h1]
    have a0 : 0 ≤ 6 * c + l := by omega
    have a1 : 6 * c + l < 48 := by omega
    generalize 6 * c + l = k at a0 a1 ⊢
    by_cases h2 : 0 ≤ w ∧ w ≤ 2
    · rw [if_pos h2, if_pos h2]
      have hr := h.1.2 k a0 a1 trivial
      have hg := hang_is hr a0 a1
      have hc := crop_is hr a0 a1
      by_cases q : A2 1 k = 0
      · rw [if_pos q, if_neg (fun z => hg.mp z q)]; exact ⟨rfl, h⟩
      · rw [if_neg q, if_pos (hg.mpr q)]
        by_cases w2 : w = 2
        · rw [if_pos w2, if_neg (show ¬ w < 2 by omega)]
          obtain ⟨g1, _, g3⟩ := ageing_is hr h.2.1 h.2.2.2 a0 a1 q
          exact ⟨g1, GA_ev h g3⟩
        · rw [if_neg w2, if_pos (show w < 2 by omega)]
          by_cases p : A2 7 k = -1
          · rw [if_pos p, if_neg (fun z => (hc.mp z).2 p)]; exact ⟨rfl, h⟩
          · rw [if_neg p, if_pos (hc.mpr ⟨q, p⟩)]
            by_cases w0 : w = 0
            · rw [if_pos w0, if_pos w0]
              obtain ⟨g1, _, g3⟩ := growth_is hr h.2.1 h.2.2.2 a0 a1 q
              exact ⟨g1, GA_ev h g3⟩
            · rw [if_neg w0, if_neg w0]
              obtain ⟨g1, _, g3⟩ := odds_is hr h.2.1 h.2.2.2 a0 a1 q
              exact ⟨g1, GA_ev h g3⟩
    · rw [if_neg h2, if_neg h2]; exact ⟨rfl, h⟩
  · rw [if_neg h1, if_neg h1]; exact ⟨rfl, h⟩
/-- hail: the highest bean, and some bean -/
theorem hit_L {c k : Int} {A1 A2 : qA} (h : GR A1 A2) (c0 : 0 ≤ c) (c1 : c ≤ 7) (k0 : 0 ≤ k) (k1 : k ≤ 63) : ∀ (m F1 F2 : Nat) (l : Int), l + m = 6 → 0 ≤ l → (fM_isHit_L (F2 + m + 1) 2 [c, k, l] A2 = 1 ∧ A2 16 c < fC_highestFall_L (F1 + m + 1) 2 [c, k, l] A1) ∨ (fM_isHit_L (F2 + m + 1) 2 [c, k, l] A2 = 0 ∧ (fC_highestFall_L (F1 + m + 1) 2 [c, k, l] A1 = -1 ∨ ¬ A2 16 c < fC_highestFall_L (F1 + m + 1) 2 [c, k, l] A1))
  | 0, F1, F2, l, hm, l0 => by
    rw [fC_highestFall_L2, fM_isHit_L2]
    unfold fC_highestFall_c2 fM_isHit_c2
    simp only [qlet_e]
    rw [if_neg (show ¬ l < 6 by omega), if_neg (show ¬ l < 6 by omega)]
    exact Or.inr ⟨rfl, Or.inl rfl⟩
  | m + 1, F1, F2, l, hm, l0 => by
    have ih := hit_L h c0 c1 k0 k1 m F1 F2 (l + 1) (by omega) (by omega)
    rw [show F1 + (m + 1) + 1 = (F1 + m + 1) + 1 by omega, show F2 + (m + 1) + 1 = (F2 + m + 1) + 1 by omega, fC_highestFall_L2, fM_isHit_L2]
    unfold fC_highestFall_c2 fM_isHit_c2
    simp only [qlet_e]
    rw [if_pos (show l < 6 by omega), if_pos (show l < 6 by omega), show c * 6 + l = 6 * c + l by omega]
    have a0 : 0 ≤ 6 * c + l := by omega
    have a1 : 6 * c + l < 48 := by omega
    generalize 6 * c + l = a at a0 a1 ⊢
    have hr := h.1.2 a a0 a1 trivial
    have hc := crop_is hr a0 a1
    by_cases q : A2 1 a = 0
    · rw [if_pos q, if_neg (fun z => (hc.mp z).1 q)]; exact ih
    · rw [if_neg q]
      obtain ⟨⟨k6, _⟩, _, kb, _⟩ := hr.2 q
      by_cases p : A2 7 a = -1
      · rw [if_pos p, if_neg (fun z => (hc.mp z).2 p)]; exact ih
      · rw [if_neg p, if_pos (hc.mpr ⟨q, p⟩), k6]
        have hb := ia_bd (a := sr k (A2 7 a)) (b := 1) ⟨by decide, by decide⟩ (by decide)
        by_cases e : ia (sr k (A2 7 a)) 1 = 1
        · rw [if_pos e, if_neg (show ¬ ia (sr k (A2 7 a)) 1 = 0 by omega)]
          by_cases v : A2 16 c < 6 - l
          · rw [if_pos v]
            exact Or.inl ⟨rfl, v⟩
          · rw [if_neg v]
            refine Or.inr ⟨?_, Or.inr v⟩
            -- no later bean falls higher
            have gen : ∀ (m F : Nat) (l' : Int), l' + m = 6 → l ≤ l' → fM_isHit_L (F + m + 1) 2 [c, k, l'] A2 = 0 := by
              intro m
              induction m with
              | zero =>
                intro F l' h1 h2
                rw [fM_isHit_L2]
                unfold fM_isHit_c2
                simp only [qlet_e]
                rw [if_neg (show ¬ l' < 6 by omega)]
              | succ m ih2 =>
                intro F l' h1 h2
                rw [show F + (m + 1) + 1 = (F + m + 1) + 1 by omega, fM_isHit_L2]
                unfold fM_isHit_c2
                simp only [qlet_e]
                rw [if_pos (show l' < 6 by omega)]
                have nx := ih2 F (l' + 1) (by omega) (by omega)
                rw [nx, if_neg (show ¬ A2 16 c < 6 - l' by omega)]
                repeat' split
                all_goals rfl
            exact gen m F2 (l + 1) (by omega) (by omega)
        · rw [if_neg e, if_pos (show ia (sr k (A2 7 a)) 1 = 0 by omega)]; exact ih
theorem hail_L {k : Int} {A1 A2 : qA} (h : GR A1 A2) (hr : ∀ x, 0 ≤ x → x < 8 → 0 ≤ A2 16 x) (k0 : 0 ≤ k) (k1 : k ≤ 63) : ∀ (m F1 F2 : Nat) (s c : Int), c + m = 8 → 0 ≤ c → fC_hail_L (F1 + m + 1) 10 [k, s, c] A1 = fM_hail_L (F2 + m + 1) 11 [k, s, c] A2
  | 0, F1, F2, s, c, hm, c0 => by
    rw [fC_hail_L10, fM_hail_L11]
    unfold fC_hail_c10 fM_hail_c11
    simp only [qlet_e]
    rw [if_neg (show ¬ c < 8 by omega), if_neg (show ¬ c < 8 by omega)]
  | m + 1, F1, F2, s, c, hm, c0 => by
    rw [show F1 + (m + 1) + 1 = (F1 + m + 1) + 1 by omega, show F2 + (m + 1) + 1 = (F2 + m + 1) + 1 by omega, fC_hail_L10, fM_hail_L11]
    unfold fC_hail_c10 fM_hail_c11
    simp only [qlet_e]
    have e1 : fC_highestFall c k A1 = fC_highestFall_L 100000 2 [c, k, 0] A1 := rfl
    have e2 : fM_isHit c k A2 = fM_isHit_L 100000 2 [c, k, 0] A2 := rfl
    have key := hit_L h c0 (show c ≤ 7 by omega) k0 k1 6 99993 99993 0 (by decide) (by decide)
    rw [show 99993 + 6 + 1 = 100000 from rfl, ← e1, ← e2] at key
    have e18 : A1 18 c = A2 16 c := (h.2.1.2.1 c c0 (by omega)).1.2.2
    have h16 := hr c c0 (by omega)
    rw [if_pos (show c < 8 by omega), if_pos (show c < 8 by omega), e18]
    rcases key with ⟨a, b⟩ | ⟨a, b⟩
    · rw [a, if_pos b, if_neg (show ¬ (1 : Int) = 0 by decide)]
      exact hail_L h hr k0 k1 m F1 F2 (s + 1) (c + 1) (by omega) (by omega)
    · have nb : ¬ A2 16 c < fC_highestFall c k A1 := by
        rcases b with b | b
        · rw [b]; omega
        · exact b
      rw [a, if_neg nb, if_pos rfl, Int.add_zero]
      exact hail_L h hr k0 k1 m F1 F2 s (c + 1) (by omega) (by omega)
theorem hail_R (k : Int) {A1 A2 : qA} (h : GR A1 A2) (hr : ∀ x, 0 ≤ x → x < 8 → 0 ≤ A2 16 x) : fC_hail k A1 = fM_hail k A2 := by
  unfold fC_hail fM_hail
  by_cases h1 : 0 ≤ k ∧ k ≤ 63
  · rw [if_pos h1, if_pos h1]
    exact hail_L h hr h1.1 h1.2 8 99991 99991 0 0 (by decide) (by decide)
  · rw [if_neg h1, if_neg h1]
/-- numbers of the tape -/
theorem num_L {p : Int} {A1 A2 : qA} (hR : ∀ i, 0 ≤ i → i < 220 → A1 53 i = ia (A2 22 i) 255) (p0 : 0 ≤ p) (p1 : p < 6) : ∀ (m F1 F2 : Nat) (s k : Int), k + m = 4 * p + 4 → 4 * p ≤ k → fC_numberAt_L (F1 + m + 1) 6 [p, s, k] A1 = fM_tapeNumber_L (F2 + m + 1) 6 [p, s, k] A2
  | 0, F1, F2, s, k, hm, k0 => by
    rw [fC_numberAt_L6, fM_tapeNumber_L6]
    unfold fC_numberAt_c6 fM_tapeNumber_c6
    simp only [qlet_e]
    rw [show wI (4 * p + 4) = 4 * p + 4 from wI_id ⟨by omega, by omega⟩, if_neg (show ¬ k < 4 * p + 4 by omega), if_neg (show ¬ k < 4 * p + 4 by omega)]
  | m + 1, F1, F2, s, k, hm, k0 => by
    rw [show F1 + (m + 1) + 1 = (F1 + m + 1) + 1 by omega, show F2 + (m + 1) + 1 = (F2 + m + 1) + 1 by omega, fC_numberAt_L6, fM_tapeNumber_L6]
    unfold fC_numberAt_c6 fM_tapeNumber_c6
    simp only [qlet_e]
    rw [show wI (4 * p + 4) = 4 * p + 4 from wI_id ⟨by omega, by omega⟩, if_pos (show k < 4 * p + 4 by omega), if_pos (show k < 4 * p + 4 by omega), hR k (by omega) (by omega), show wI (k + 1) = k + 1 from wI_id ⟨by omega, by omega⟩]
    exact num_L hR p0 p1 m F1 F2 _ (k + 1) (by omega) (by omega)
theorem num_is {p : Int} {A1 A2 : qA} (hR : ∀ i, 0 ≤ i → i < 220 → A1 53 i = ia (A2 22 i) 255) (p0 : 0 ≤ p) (p1 : p < 6) : fC_numberAt p A1 = fM_tapeNumber p A2 := by
  unfold fC_numberAt fM_tapeNumber
  simp only [qlet_e]
  rw [show wI (4 * p) = 4 * p from wI_id ⟨by omega, by omega⟩]
  exact num_L hR p0 p1 4 99995 99995 0 (4 * p) (by omega) (Int.le_refl _)
theorem chk_L {c n : Int} {A1 A2 : qA} (h : GR A1 A2) (hR : ∀ i, 0 ≤ i → i < 220 → A1 53 i = ia (A2 22 i) 255) (c0 : 0 ≤ c) (c1 : c ≤ 7) : ∀ (m F1 F2 : Nat) (l : Int), l + m = 6 → 0 ≤ l → l ≤ n → (fC_check_L (F1 + m + 1) 20 [c, n, l] A1).1 = (fM_check_L (F2 + m + 1) 20 [c, n, l] A2).1
  | 0, F1, F2, l, hm, l0, ln => by
    rw [fC_check_L20, fM_check_L20]
    unfold fC_check_c20 fM_check_c20
    simp only [qlet_e]
    rw [if_neg (show ¬ l < 6 by omega), if_neg (show ¬ l < 6 by omega)]
    by_cases q : n = 6
    · rw [if_neg (show ¬ l < n by omega), if_pos q, if_neg (show ¬ 6 < n by omega)]
    · rw [if_pos (show l < n by omega), if_neg q, if_pos (show 6 < n by omega)]
      show min n 6 = 6
      omega
  | m + 1, F1, F2, l, hm, l0, ln => by
    rw [show F1 + (m + 1) + 1 = (F1 + m + 1) + 1 by omega, show F2 + (m + 1) + 1 = (F2 + m + 1) + 1 by omega, fC_check_L20, fM_check_L20]
    unfold fC_check_c20 fM_check_c20
    simp only [qlet_e]
    rw [if_pos (show l < 6 by omega), if_pos (show l < 6 by omega), show c * 6 + l = 6 * c + l by omega, num_is hR l0 (by omega)]
    by_cases q : l = n
    · rw [if_neg (show ¬ l < n by omega), if_neg (show ¬ n = 6 by omega), if_pos q]
      show min n 6 = l
      omega
    · rw [if_pos (show l < n by omega), if_neg q]
      have nx := chk_L (n := n) h hR c0 c1 m F1 F2 (l + 1) (by omega) (by omega) (by omega)
      have a0 : 0 ≤ 6 * c + l := by omega
      have a1 : 6 * c + l < 48 := by omega
      generalize 6 * c + l = a at a0 a1 ⊢
      have hr := h.1.2 a a0 a1 trivial
      have hc := crop_is hr a0 a1
      by_cases z : A2 1 a = 0
      · rw [if_neg (fun v => (hc.mp v).1 z), if_pos z]
        by_cases e : fM_tapeNumber l A2 = -1
        · rw [if_pos e, if_pos e]; exact nx
        · rw [if_neg e, if_neg e]
      · rw [if_neg z]
        obtain ⟨⟨_, k7, _⟩, _⟩ := hr.2 z
        by_cases p : A2 7 a = -1
        · rw [if_neg (fun v => (hc.mp v).2 p), if_pos p]
          by_cases e : fM_tapeNumber l A2 = -1
          · rw [if_pos e, if_pos e]; exact nx
          · rw [if_neg e, if_neg e]
        · rw [if_pos (hc.mpr ⟨z, p⟩), if_neg p, k7]
          by_cases e : fM_tapeNumber l A2 = A2 8 a
          · rw [if_pos e, if_pos e]; exact nx
          · rw [if_neg e, if_neg e]
theorem check_R (c n : Int) {A1 A2 : qA} (h : GR A1 A2) (hR : RT A1 A2) : (fC_check c n A1).1 = (fM_check c n A2).1 := by
  unfold fC_check fM_check
  simp only [qlet_e]
  rw [← hR.1]
  by_cases h1 : 0 ≤ c ∧ c ≤ 7
  · rw [if_pos h1, if_pos h1]
    by_cases h2 : n < 0
    · rw [if_pos h2, if_pos h2]
    · rw [if_neg h2, if_neg h2]
      by_cases h3 : qd (A1 52 (fd 1)) 4 < n
      · rw [if_pos h3, if_pos h3]
      · rw [if_neg h3, if_neg h3]
        have f1 : frm [] [(52, 1)] A1 (qu A1 52 (fd 1) 0) := frm_qf (frm_0 _ _ _) rfl
        have f2 : frm [] [(0, 26)] A2 (qu A2 0 (fd 26) 0) := frm_qf (frm_0 _ _ _) rfl
        exact chk_L (GR_f h f1 f2 rfl rfl) (by rw [frm_a f1 (r := 53) rfl, frm_a f2 (r := 22) rfl]; exact hR.2) h1.1 h1.2 6 99993 99993 0 (by decide) (by decide) (by omega)
  · rw [if_neg h1, if_neg h1]
