/-! DROUGHT: how a cell grows that keeps k -/
theorem see9 {c k : Int} (h0 : 0 ≤ c) (A : qA) : ∀ i, 0 ≤ i → i ≤ 13 → i ≠ 7 → (fC_seeCellAndCrop c (qu A 9 c k)) 35 i = (fC_seeCellAndCrop c A) 35 i := by
  intro i i0 i1 i7
  have s1 := seeC_is h0 A i i0 i1
  have s2 := seeC_is h0 (qu A 9 c k) i i0 i1
  have q9 : ∀ r, r ≠ 9 → (qu A 9 c k) r = A r := fun r h => qu_ne h
  rw [q9 3 (by decide), q9 2 (by decide), q9 4 (by decide), q9 15 (by decide), q9 17 (by decide)] at s2
  simp only [if_neg i7] at s1 s2
  have f1 := fr_seeCell c A
  have f2 := fr_seeCell c (qu A 9 c k)
  have hS : (fC_seeCell c (qu A 9 c k)) 35 i = (fC_seeCell c A) 35 i := s2.trans s1.symm
  unfold fC_seeCellAndCrop
  simp only [qlet_e]
  generalize fC_seeCell c (qu A 9 c k) = S2 at f2 hS ⊢
  generalize fC_seeCell c A = S1 at f1 hS ⊢
  have e1 : S2 1 = S1 1 := by rw [frm_a f1 (r := 1) rfl, frm_a f2 (r := 1) rfl, q9 1 (by decide)]
  have e6 : S2 6 = S1 6 := by rw [frm_a f1 (r := 6) rfl, frm_a f2 (r := 6) rfl, q9 6 (by decide)]
  have e7 : S2 7 = S1 7 := by rw [frm_a f1 (r := 7) rfl, frm_a f2 (r := 7) rfl, q9 7 (by decide)]
  have e10 : S2 10 = S1 10 := by rw [frm_a f1 (r := 10) rfl, frm_a f2 (r := 10) rfl, q9 10 (by decide)]
  have e12 : S2 12 = S1 12 := by rw [frm_a f1 (r := 12) rfl, frm_a f2 (r := 12) rfl, q9 12 (by decide)]
  have e35 : ∀ (S : qA) (r : Nat) (j v : Int), r ≠ 35 → (qu S 35 j v) r = S r := fun S r j v h => qu_ne h
  have hg : HG S2 c ↔ HG S1 c := HG_k (by rw [e1]) c
  by_cases hc : 0 ≤ c ∧ c ≤ 47 ∧ HG S1 c ∧ 0 ≤ S1 6 c ∧ S1 6 c ≤ 5
  · have hc2 : 0 ≤ c ∧ c ≤ 47 ∧ HG S2 c ∧ 0 ≤ S2 6 c ∧ S2 6 c ≤ 5 := by rw [hg, e6]; exact hc
    rw [if_pos hc, if_pos hc2, e6]
    have hr : fC_isRipe c (qu (qu S2 35 0 (S1 6 c)) 35 1 ((qu S2 35 0 (S1 6 c)) 7 c)) = fC_isRipe c (qu (qu S1 35 0 (S1 6 c)) 35 1 ((qu S1 35 0 (S1 6 c)) 7 c)) := by
      refine ripeC_k c ?_ ?_ ?_ ?_
      · rw [e35 _ 1 _ _ (by decide), e35 _ 1 _ _ (by decide), e35 _ 1 _ _ (by decide), e35 _ 1 _ _ (by decide), e1]
      · rw [e35 _ 6 _ _ (by decide), e35 _ 6 _ _ (by decide), e35 _ 6 _ _ (by decide), e35 _ 6 _ _ (by decide), e6]
      · rw [e35 _ 7 _ _ (by decide), e35 _ 7 _ _ (by decide), e35 _ 7 _ _ (by decide), e35 _ 7 _ _ (by decide), e7]
      · rw [e35 _ 12 _ _ (by decide), e35 _ 12 _ _ (by decide), e35 _ 12 _ _ (by decide), e35 _ 12 _ _ (by decide), e12]
    rw [hr]
    by_cases h3 : fC_isRipe c (qu (qu S1 35 0 (S1 6 c)) 35 1 ((qu S1 35 0 (S1 6 c)) 7 c)) = 0
    · rw [if_pos h3, if_pos h3]
      simp only [e35 _ 10 _ _ (show 10 ≠ 35 by decide), e35 _ 7 _ _ (show 7 ≠ 35 by decide), e10, e7]
      by_cases h4 : S1 10 c = 0
      · rw [if_pos h4, if_pos h4]
        simp only [qu_is, hS]
      · rw [if_neg h4, if_neg h4]
        simp only [qu_is, hS]
    · rw [if_neg h3, if_neg h3]
      simp only [e35 _ 10 _ _ (show 10 ≠ 35 by decide), e35 _ 7 _ _ (show 7 ≠ 35 by decide), e10, e7]
      by_cases h4 : S1 10 c = 0
      · rw [if_pos h4, if_pos h4]
        simp only [qu_is, hS]
      · rw [if_neg h4, if_neg h4]
        simp only [qu_is, hS]
  · have hc2 : ¬ (0 ≤ c ∧ c ≤ 47 ∧ HG S2 c ∧ 0 ≤ S2 6 c ∧ S2 6 c ≤ 5) := by rw [hg, e6]; exact hc
    rw [if_neg hc, if_neg hc2]
    exact hS
theorem growth_k {A1 A2 : qA} {c k : Int} (h : RC1 (qu A1 9 c k) A2 c) (hb : RB A1 A2) (hL : RL A1 A2) (h0 : 0 ≤ c) (h1 : c < 48) (hh : A2 1 c ≠ 0) : (fC_growth c k A1).1 = (fM_asked c 103 50 A2).1 ∧ (0 ≤ (fM_asked c 103 50 A2).1 ∧ (fM_asked c 103 50 A2).1 ≤ 50) ∧ EV A1 A2 (fC_growth c k A1).2 (fM_asked c 103 50 A2).2 := by
  have hb9 : RB (qu A1 9 c k) A2 := RB_f hb (frm_q (frm_0 [9] [] A1) rfl) (frm_0 [] [] A2) rfl rfl
  have hs' := see_is h hb9 h0 h1 hh
  have h7 := congrFun (congrFun (see7 h hb9 h0 h1 hh) 35) 7
  rw [qu_at, qu_at] at h7
  have hs : ∀ i, 0 ≤ i → i ≤ 13 → (qu (fC_seeCellAndCrop c A1) 35 7 k) 35 i = (fM_feels c A2) 35 i := fun i i0 i1 => by
    by_cases q : i = 7
    · rw [q, qu_at, ← hs' 7 (by decide) (by decide)]
      exact h7
    · rw [qu_nj q, ← see9 (k := k) h0 A1 i i0 i1 q]
      exact hs' i i0 i1
  have f1 : frm [35] [] A1 (qu (fC_seeCellAndCrop c A1) 35 7 k) := frm_q (fr_seeCC c A1) rfl
  have f2 := fr_feels c A2
  unfold fC_growth fM_asked
  rcases hL with ⟨q, hL⟩ | ⟨q, hL⟩
  · rw [if_pos q]
    unfold fC_growth36
    simp only [qlet_e, qlp]
    obtain ⟨a, b, e⟩ := told36 (w := 103) (m := 50) (RL36_f hL f1 f2 rfl rfl) hs (by decide)
    exact ⟨a, ⟨by rw [← a]; exact b.1, by rw [← a]; exact b.2⟩, frm_c (frm_c (frm_0 _ _ _) f1 rfl) e.1 rfl, frm_c (frm_c (frm_0 _ _ _) f2 rfl) e.2 rfl⟩
  · rw [if_neg (show ¬ A1 34 (fd 4) = 36 by omega)]
    unfold fC_growth71
    simp only [qlet_e, qlp]
    obtain ⟨a, b, e⟩ := told71 (w := 103) (m := 50) (RL71_f hL f1 f2 rfl rfl) hs (by decide)
    exact ⟨a, ⟨by rw [← a]; exact b.1, by rw [← a]; exact b.2⟩, frm_c (frm_c (frm_0 _ _ _) f1 rfl) e.1 rfl, frm_c (frm_c (frm_0 _ _ _) f2 rfl) e.2 rfl⟩
