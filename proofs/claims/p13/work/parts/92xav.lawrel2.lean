/-! THE LAW ANEW: alike -/
/-- what the class's law leaves of the law of before, where a fault is found -/
theorem law36_no {n : Int} {A : qA} (h : ¬ (1 ≤ n ∧ n ≤ 200 ∧ n ≤ A 52 (fd 1))) : fC_law_36 n A = (-1, A) := by
  unfold fC_law_36
  simp only [qlet, qlp]
  by_cases h1 : n < 1
  · rw [if_pos h1]
  · rw [if_neg h1]
    by_cases h2 : 200 < n
    · rw [if_pos h2]
    · rw [if_neg h2, if_pos (show A 52 (fd 1) < n by omega)]
theorem law36_RL {n : Int} {A1 A2 B1 B2 : qA} (hR : RT A1 A2) (hq : qokA LC A1) (hi : iva IC A1) (hj : ivf JC A1) (hK : KO A1) (h : RL A1 A2) (hD : A1 34 (fd 4) = 71) (e1 : B1 = (fC_law_36 n A1).2) (e2 : B2 = (fM_law n A2).2) (f1 : frm [37, 38, 39, 40, 41, 42] [(36, 7), (36, 8), (54, 3), (54, 4), (54, 0), (54, 1), (54, 2), (52, 1), (34, 4), (0, 10)] A1 B1) : RL B1 B2 := by
  have hD2 : RL71 A1 A2 := by
    rcases h with ⟨q, r⟩ | ⟨q, r⟩
    · exfalso; omega
    · exact r
  by_cases hn : 1 ≤ n ∧ n ≤ 200 ∧ n ≤ A1 52 (fd 1)
  · have hlk := lkC_ok hi hn.2.1
    have a := law36 (A := A1) hn.1 hn.2.1 hn.2.2 hlk (fun _ _ => rfl)
    have b := lawM (A := A2) hn.1 hn.2.1 (by rw [← hR.1]; exact hn.2.2) hlk (fun p hp => by
      show (if p < n then A1 53 p else -1) = _
      split
      · exact hR.2 p hp (by omega)
      · rfl)
    have hok := txOk_is hlk 15 0 0 0 (Int.le_refl _) (by omega)
    have b2 := b.2
    rcases hx : p_text (fun p => if p < n then A1 53 p else -1) 15 0 0 0 with f | T
    · rw [hx] at a b2 hok
      have fr := (pC_read_36 hq hi hj (show 0 ≤ n by omega) hn.2.1 hK).2.2.2.1
      have e34 : B1 34 (fd 4) = A1 34 (fd 4) := by rw [e1, a.2, frm_f fr (r := 34) (j := 4) rfl]
      have f2 : frm RDW RDV A2 B2 := by
        rw [e2]
        exact lawM_f (by rw [b2]; exact hok)
      have hr := RL71_f hD2 f1 f2 rfl rfl
      have e := e34.trans hD
      exact Or.inr ⟨e, hr⟩
    · rw [hx] at a b2 hok
      rw [← e1] at a
      rw [← e2] at b2
      have hr : RL36 B1 B2 := ⟨n, _, T, hn.2.1, hlk, hok.1, by omega, by omega, a.2.1, b2.2⟩
      have e := a.2.2
      exact Or.inl ⟨e, hr⟩
  · have c1 := law36_no hn
    have c2 : fM_law n A2 = (-1, A2) := by
      have hR1 := hR.1
      unfold fM_law
      simp only [qlet, qlp]
      by_cases h1 : 1 ≤ n ∧ n ≤ 200
      · rw [if_pos h1, if_pos (show A2 0 (fd 26) < n by omega)]
      · rw [if_neg h1]
    rw [e1, e2, c1, c2]
    exact h
/-- what the class's law leaves of the law of before, where a fault is found -/
theorem law71_no {n : Int} {A : qA} (h : ¬ (1 ≤ n ∧ n ≤ 200 ∧ n ≤ A 52 (fd 1))) : fC_law_71 n A = (-1, A) := by
  unfold fC_law_71
  simp only [qlet, qlp]
  by_cases h1 : n < 1
  · rw [if_pos h1]
  · rw [if_neg h1]
    by_cases h2 : 200 < n
    · rw [if_pos h2]
    · rw [if_neg h2, if_pos (show A 52 (fd 1) < n by omega)]
theorem law71_RL {n : Int} {A1 A2 B1 B2 : qA} (hR : RT A1 A2) (hq : qokA LC A1) (hi : iva IC A1) (hj : ivf JC A1) (hK : KO A1) (h : RL A1 A2) (hD : A1 34 (fd 4) = 36) (e1 : B1 = (fC_law_71 n A1).2) (e2 : B2 = (fM_law n A2).2) (f1 : frm [72, 73, 74, 75, 76, 77] [(71, 7), (71, 8), (54, 3), (54, 4), (54, 0), (54, 1), (54, 2), (52, 1), (34, 4), (0, 10)] A1 B1) : RL B1 B2 := by
  have hD2 : RL36 A1 A2 := by
    rcases h with ⟨q, r⟩ | ⟨q, r⟩
    · exact r
    · exfalso; omega
  by_cases hn : 1 ≤ n ∧ n ≤ 200 ∧ n ≤ A1 52 (fd 1)
  · have hlk := lkC_ok hi hn.2.1
    have a := law71 (A := A1) hn.1 hn.2.1 hn.2.2 hlk (fun _ _ => rfl)
    have b := lawM (A := A2) hn.1 hn.2.1 (by rw [← hR.1]; exact hn.2.2) hlk (fun p hp => by
      show (if p < n then A1 53 p else -1) = _
      split
      · exact hR.2 p hp (by omega)
      · rfl)
    have hok := txOk_is hlk 15 0 0 0 (Int.le_refl _) (by omega)
    have b2 := b.2
    rcases hx : p_text (fun p => if p < n then A1 53 p else -1) 15 0 0 0 with f | T
    · rw [hx] at a b2 hok
      have fr := (pC_read_71 hq hi hj (show 0 ≤ n by omega) hn.2.1 hK).2.2.2.1
      have e34 : B1 34 (fd 4) = A1 34 (fd 4) := by rw [e1, a.2, frm_f fr (r := 34) (j := 4) rfl]
      have f2 : frm RDW RDV A2 B2 := by
        rw [e2]
        exact lawM_f (by rw [b2]; exact hok)
      have hr := RL36_f hD2 f1 f2 rfl rfl
      have e := e34.trans hD
      exact Or.inl ⟨e, hr⟩
    · rw [hx] at a b2 hok
      rw [← e1] at a
      rw [← e2] at b2
      have hr : RL71 B1 B2 := ⟨n, _, T, hn.2.1, hlk, hok.1, by omega, by omega, a.2.1, b2.2⟩
      have e := a.2.2
      exact Or.inr ⟨e, hr⟩
  · have c1 := law71_no hn
    have c2 : fM_law n A2 = (-1, A2) := by
      have hR1 := hR.1
      unfold fM_law
      simp only [qlet, qlp]
      by_cases h1 : 1 ≤ n ∧ n ≤ 200
      · rw [if_pos h1, if_pos (show A2 0 (fd 26) < n by omega)]
      · rw [if_neg h1]
    rw [e1, e2, c1, c2]
    exact h
