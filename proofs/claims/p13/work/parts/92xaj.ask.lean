/-! WHAT THE LAW ANSWERS of a cell: alike -/
theorem frm_q {W : List Nat} {V : List (Nat × Nat)} {A A1 : qA} {r : Nat} {j v : Int} (h : frm W V A A1) (hs : W.contains r = true) : frm W V A (qu A1 r j v) := frm_s h rfl hs
theorem frm_qf {W : List Nat} {V : List (Nat × Nat)} {A A1 : qA} {r j : Nat} {v : Int} (h : frm W V A A1) (hs : V.contains (r, j) = true) : frm W V A (qu A1 r (fd j) v) := frm_sf h rfl hs
def EV (A1 A2 B1 B2 : qA) : Prop := frm [35, 43, 78] [(36, 9), (71, 9)] A1 B1 ∧ frm [34, 35] [] A2 B2
theorem EV_0 (A1 A2 : qA) : EV A1 A2 A1 A2 := ⟨frm_0 _ _ _, frm_0 _ _ _⟩
theorem EV_tr {A1 A2 B1 B2 C1 C2 : qA} (h : EV A1 A2 B1 B2) (g : EV B1 B2 C1 C2) : EV A1 A2 C1 C2 := ⟨frm_c h.1 g.1 rfl, frm_c h.2 g.2 rfl⟩
theorem fr_feels (c : Int) (A : qA) : frm [35] [] A (fM_feels c A) := by
  unfold fM_feels
  simp only [qlet]
  split
  · exact frm_c (fr_feelsCell _ _ _ A) (fr_feelsCrop _ _ _ _ _) rfl
  · exact frm_c (fr_feelsCell _ _ _ A) (fr_feelsCrop _ _ _ _ _) rfl
theorem fr_seeCC (c : Int) (A : qA) : frm [35] [] A (fC_seeCellAndCrop c A) := by
  unfold fC_seeCellAndCrop
  simp only [qlet]
  repeat' split
  all_goals (repeat (first | exact fr_seeCell c A | refine frm_q ?_ rfl))
theorem told36 {A1 A2 : qA} {w m : Int} (hL : RL36 A1 A2) (hf : ∀ i, 0 ≤ i → i ≤ 13 → A1 35 i = A2 35 i) (hm : 0 ≤ m) : (fC_answer36 w m A1).1 = (fM_told w m A2).1 ∧ (0 ≤ (fC_answer36 w m A1).1 ∧ (fC_answer36 w m A1).1 ≤ m) ∧ EV A1 A2 (fC_answer36 w m A1).2 (fM_told w m A2).2 := by
  obtain ⟨n, lk, T, hn, hlk, hg, hl, h14, ⟨c1, c2⟩, m1, m2⟩ := hL
  obtain ⟨a, b, c⟩ := ans36 hlk hm T 0 0 100000 100000 A1 A2 (by omega) (by omega) (Int.le_refl _) hl (by omega) (by omega) ⟨c2, m2⟩ hg hf
  exact ⟨a, b, frm_c (frm_0 _ _ _) c.1 rfl, frm_c (frm_0 _ _ _) c.2 rfl⟩
theorem told71 {A1 A2 : qA} {w m : Int} (hL : RL71 A1 A2) (hf : ∀ i, 0 ≤ i → i ≤ 13 → A1 35 i = A2 35 i) (hm : 0 ≤ m) : (fC_answer71 w m A1).1 = (fM_told w m A2).1 ∧ (0 ≤ (fC_answer71 w m A1).1 ∧ (fC_answer71 w m A1).1 ≤ m) ∧ EV A1 A2 (fC_answer71 w m A1).2 (fM_told w m A2).2 := by
  obtain ⟨n, lk, T, hn, hlk, hg, hl, h14, ⟨c1, c2⟩, m1, m2⟩ := hL
  obtain ⟨a, b, c⟩ := ans71 hlk hm T 0 0 100000 100000 A1 A2 (by omega) (by omega) (Int.le_refl _) hl (by omega) (by omega) ⟨c2, m2⟩ hg hf
  exact ⟨a, b, frm_c (frm_0 _ _ _) c.1 rfl, frm_c (frm_0 _ _ _) c.2 rfl⟩
/-- growth, odds, ageing of a cell that hangs -/
theorem see7 {A1 A2 : qA} {c : Int} (h : RC1 A1 A2 c) (hb : RB A1 A2) (h0 : 0 ≤ c) (h1 : c < 48) (hh : A2 1 c ≠ 0) : qu (fC_seeCellAndCrop c A1) 35 7 (A1 9 c) = fC_seeCellAndCrop c A1 := by
  have hs := see_is h hb h0 h1 hh 7 (by decide) (by decide)
  have k9 : A1 9 c = A2 10 c := (h.1.2 hh).2.2
  have s2 := feelC_is (f := 0) (w := 0) h0 A2 7 (by decide) (by decide)
  simp only [hh, if_false] at s2
  have hs7 : (fC_seeCellAndCrop c A1) 35 7 = A1 9 c := by
    rw [hs, k9]
    unfold fM_feels
    simp only [qlet]
    split
    · rw [feelsCrop_is _ _ _ _ _ 7 (by decide) (by decide), if_neg (by decide), if_neg (by decide), if_neg (by decide), if_neg (by decide), s2]
      rfl
    · rw [feelsCrop_is _ _ _ _ _ 7 (by decide) (by decide), if_neg (by decide), if_neg (by decide), if_neg (by decide), if_neg (by decide), s2]
      rfl
  funext r i
  rw [qu_is]
  split
  · next q => obtain ⟨rfl, rfl⟩ := q; exact hs7.symm
  · rfl
theorem growth_is {A1 A2 : qA} {c : Int} (h : RC1 A1 A2 c) (hb : RB A1 A2) (hL : RL A1 A2) (h0 : 0 ≤ c) (h1 : c < 48) (hh : A2 1 c ≠ 0) : (fC_growth c (A1 9 c) A1).1 = (fM_asked c 103 50 A2).1 ∧ (0 ≤ (fM_asked c 103 50 A2).1 ∧ (fM_asked c 103 50 A2).1 ≤ 50) ∧ EV A1 A2 (fC_growth c (A1 9 c) A1).2 (fM_asked c 103 50 A2).2 := by
  have hs := see_is h hb h0 h1 hh
  have f1 := fr_seeCC c A1
  have f2 := fr_feels c A2
  unfold fC_growth fM_asked
  rcases hL with ⟨q, hL⟩ | ⟨q, hL⟩
  · rw [if_pos q]
    unfold fC_growth36
    simp only [qlet, qlp]
    rw [see7 h hb h0 h1 hh]
    obtain ⟨a, b, e⟩ := told36 (w := 103) (m := 50) (RL36_f hL f1 f2 rfl rfl) hs (by decide)
    exact ⟨a, ⟨by rw [← a]; exact b.1, by rw [← a]; exact b.2⟩, frm_c (frm_c (frm_0 _ _ _) f1 rfl) e.1 rfl, frm_c (frm_c (frm_0 _ _ _) f2 rfl) e.2 rfl⟩
  · rw [if_neg (show ¬ A1 34 (fd 4) = 36 by omega)]
    unfold fC_growth71
    simp only [qlet, qlp]
    rw [see7 h hb h0 h1 hh]
    obtain ⟨a, b, e⟩ := told71 (w := 103) (m := 50) (RL71_f hL f1 f2 rfl rfl) hs (by decide)
    exact ⟨a, ⟨by rw [← a]; exact b.1, by rw [← a]; exact b.2⟩, frm_c (frm_c (frm_0 _ _ _) f1 rfl) e.1 rfl, frm_c (frm_c (frm_0 _ _ _) f2 rfl) e.2 rfl⟩
theorem odds_is {A1 A2 : qA} {c : Int} (h : RC1 A1 A2 c) (hb : RB A1 A2) (hL : RL A1 A2) (h0 : 0 ≤ c) (h1 : c < 48) (hh : A2 1 c ≠ 0) : (fC_odds c A1).1 = (fM_asked c 102 1000 A2).1 ∧ (0 ≤ (fM_asked c 102 1000 A2).1 ∧ (fM_asked c 102 1000 A2).1 ≤ 1000) ∧ EV A1 A2 (fC_odds c A1).2 (fM_asked c 102 1000 A2).2 := by
  have hs := see_is h hb h0 h1 hh
  have f1 := fr_seeCC c A1
  have f2 := fr_feels c A2
  unfold fC_odds fM_asked
  rcases hL with ⟨q, hL⟩ | ⟨q, hL⟩
  · rw [if_pos q]
    unfold fC_odds36
    simp only [qlet, qlp]
    obtain ⟨a, b, e⟩ := told36 (w := 102) (m := 1000) (RL36_f hL f1 f2 rfl rfl) hs (by decide)
    exact ⟨a, ⟨by rw [← a]; exact b.1, by rw [← a]; exact b.2⟩, frm_c (frm_c (frm_0 _ _ _) f1 rfl) e.1 rfl, frm_c (frm_c (frm_0 _ _ _) f2 rfl) e.2 rfl⟩
  · rw [if_neg (show ¬ A1 34 (fd 4) = 36 by omega)]
    unfold fC_odds71
    simp only [qlet, qlp]
    obtain ⟨a, b, e⟩ := told71 (w := 102) (m := 1000) (RL71_f hL f1 f2 rfl rfl) hs (by decide)
    exact ⟨a, ⟨by rw [← a]; exact b.1, by rw [← a]; exact b.2⟩, frm_c (frm_c (frm_0 _ _ _) f1 rfl) e.1 rfl, frm_c (frm_c (frm_0 _ _ _) f2 rfl) e.2 rfl⟩
theorem ageing_is {A1 A2 : qA} {c : Int} (h : RC1 A1 A2 c) (hb : RB A1 A2) (hL : RL A1 A2) (h0 : 0 ≤ c) (h1 : c < 48) (hh : A2 1 c ≠ 0) : (fC_ageing c A1).1 = (fM_asked c 97 999 A2).1 ∧ (0 ≤ (fM_asked c 97 999 A2).1 ∧ (fM_asked c 97 999 A2).1 ≤ 999) ∧ EV A1 A2 (fC_ageing c A1).2 (fM_asked c 97 999 A2).2 := by
  have hs := see_is h hb h0 h1 hh
  have f1 := fr_seeCC c A1
  have f2 := fr_feels c A2
  unfold fC_ageing fM_asked
  rcases hL with ⟨q, hL⟩ | ⟨q, hL⟩
  · rw [if_pos q]
    unfold fC_ageing36
    simp only [qlet, qlp]
    obtain ⟨a, b, e⟩ := told36 (w := 97) (m := 999) (RL36_f hL f1 f2 rfl rfl) hs (by decide)
    exact ⟨a, ⟨by rw [← a]; exact b.1, by rw [← a]; exact b.2⟩, frm_c (frm_c (frm_0 _ _ _) f1 rfl) e.1 rfl, frm_c (frm_c (frm_0 _ _ _) f2 rfl) e.2 rfl⟩
  · rw [if_neg (show ¬ A1 34 (fd 4) = 36 by omega)]
    unfold fC_ageing71
    simp only [qlet, qlp]
    obtain ⟨a, b, e⟩ := told71 (w := 97) (m := 999) (RL71_f hL f1 f2 rfl rfl) hs (by decide)
    exact ⟨a, ⟨by rw [← a]; exact b.1, by rw [← a]; exact b.2⟩, frm_c (frm_c (frm_0 _ _ _) f1 rfl) e.1 rfl, frm_c (frm_c (frm_0 _ _ _) f2 rfl) e.2 rfl⟩
