/-! THE CLASS READS A CLAUSE, A TEXT -/
def xC71 (A A' : qA) (p' : Int) (x : pX) : Prop := (A' 54 (fd 3) = p' ∧ A' 71 (fd 7) = A 71 (fd 7) + 1 ∧ A' 71 (fd 8) = A 71 (fd 8) + x.2.1.length + x.2.2.length) ∧ (A' 74 (A 71 (fd 7)) = x.1 ∧ A' 75 (A 71 (fd 7)) = A 71 (fd 8) ∧ A' 76 (A 71 (fd 7)) = A 71 (fd 8) + x.2.1.length ∧ A' 77 (A 71 (fd 7)) = A 71 (fd 8) + x.2.1.length + x.2.2.length) ∧ (cat (A' 72) (A' 73) (A 71 (fd 8)) x.2.1 ∧ cat (A' 72) (A' 73) (A 71 (fd 8) + x.2.1.length) x.2.2) ∧ (∀ k, k < A 71 (fd 8) → A' 72 k = A 72 k ∧ A' 73 k = A 73 k) ∧ (∀ k, k < A 71 (fd 7) → A' 74 k = A 74 k ∧ A' 75 k = A 75 k ∧ A' 76 k = A 76 k ∧ A' 77 k = A 77 k) ∧ frm [72, 73, 74, 75, 76, 77] [(71, 7), (71, 8), (54, 3), (54, 4)] A A'
theorem prC71_w {n : Int} {lk : Int → Int} {A A' : qA} (h : prC71 n lk A) (h1 : A' 54 = A 54) (h2 : A' 53 = A 53) (h3 : A' 71 (fd 8) = A 71 (fd 8)) : prC71 n lk A' := by
  unfold prC71 at h ⊢
  rw [h1, h2, h3]
  exact h
theorem clause71 {n : Int} {lk : Int → Int} (hlk : lkok n lk) {A : qA} (hA : prC71 n lk A) : match p_clause lk (A 71 (fd 7)) (A 71 (fd 8)) (A 54 (fd 3)) with | .inl f => (fC_readClause_71 A).1 = 0 ∧ (fC_readClause_71 A).2 54 (fd 4) = f | .inr (p', x) => (fC_readClause_71 A).1 = 1 ∧ xC71 A (fC_readClause_71 A).2 p' x := by
  have hA0 := hA.2.1
  have hA1 := hA.2.2.1
  have hn := hA.1.2.1
  unfold fC_readClause_71 p_clause
  simp only [qlet, qlp]
  rw [look71 hA]
  by_cases h1 : qone 1 (lk (A 54 (fd 3))) = 0
  · rw [if_pos h1, if_pos h1]
    refine ⟨rfl, ?_⟩
    show (fC_fail_71 1 A) 54 (fd 4) = _
    rw [fail71]; omega
  rw [if_neg h1, if_neg h1]
  by_cases h2 : A 71 (fd 7) < 14
  rotate_left
  · rw [if_neg h2, if_neg h2]
    refine ⟨rfl, ?_⟩
    show (fC_fail_71 4 A) 54 (fd 4) = _
    rw [fail71]; omega
  rw [if_pos h2, if_pos h2]
  have hin := lk_one hlk (p := A 54 (fd 3)) (by omega) h1
  generalize hA69 : qu (qu (qu A 54 (fd 3) (A 54 (fd 3) + 1)) 74 (A 71 (fd 7)) (lk (A 54 (fd 3)))) 75 (A 71 (fd 7)) ((qu (qu A 54 (fd 3) (A 54 (fd 3) + 1)) 74 (A 71 (fd 7)) (lk (A 54 (fd 3)))) 71 (fd 8)) = A69
  have e69 : A69 71 = A 71 ∧ A69 72 = A 72 ∧ A69 73 = A 73 ∧ A69 76 = A 76 ∧ A69 77 = A 77 ∧ A69 53 = A 53 ∧ A69 54 (fd 2) = A 54 (fd 2) ∧ A69 54 (fd 3) = A 54 (fd 3) + 1 ∧ A69 74 (A 71 (fd 7)) = lk (A 54 (fd 3)) ∧ A69 75 (A 71 (fd 7)) = A 71 (fd 8) := by
    rw [← hA69]
    refine ⟨?_, ?_, ?_, ?_, ?_, ?_, ?_, ?_, ?_, ?_⟩
    all_goals first | (funext i; simp [qu_is]; done) | (simp [qu_is, fd_eq]; done)
  have k69 : (∀ k, k < A 71 (fd 7) → A69 74 k = A 74 k ∧ A69 75 k = A 75 k) ∧ frm [72, 73, 74, 75, 76, 77] [(71, 7), (71, 8), (54, 3), (54, 4)] A A69 := by
    rw [← hA69]
    refine ⟨fun k hk => ?_, frm_s (frm_s (frm_sf (frm_0 _ _ _) rfl rfl) rfl rfl) rfl rfl⟩
    have : k ≠ A 71 (fd 7) := by omega
    constructor <;> simp [qu_is, this]
  clear hA69
  obtain ⟨u1, u2, u3, u4, u5, u6, u7, u8, u9, u10⟩ := e69
  have h69 : prC71 n lk A69 := by
    unfold prC71 at hA ⊢
    rw [u1, u6, u7, u8]
    exact ⟨hA.1, hA.2.1, by omega, by omega⟩
  have h9 := sumE71 hlk 6 h69
  rw [u8, show 6 - ((6 : Nat) : Int) = 0 from rfl] at h9
  have h8 := pOk_sumE hlk 6 (A 54 (fd 3) + 1) (by omega) (by omega)
  generalize fC_readSum_71 6 0 A69 = y at h9 ⊢
  rcases hx : p_sumE lk 6 (A 54 (fd 3) + 1) with f | ⟨p1, c1⟩
  · rw [hx] at h9
    rw [if_pos h9.1]
    exact ⟨rfl, h9.2⟩
  rw [hx] at h9 h8
  obtain ⟨a1, a2, a3⟩ := h8
  obtain ⟨b1, b2⟩ := h9
  rw [if_neg (show ¬ y.1 = 0 by rw [b1]; decide)]
  have hpy := prC71_a h69 b2 (by omega) a2
  have hex := rC71_exp (g := 40) hpy b2
  dsimp only
  generalize fC_expect_71 40 y.2 = w at hex ⊢
  by_cases h3 : lk p1 = 40
  rotate_left
  · rw [if_neg h3] at hex ⊢
    rw [if_pos hex.1]
    exact ⟨rfl, hex.2⟩
  rw [if_pos h3] at hex ⊢
  obtain ⟨b3, b4⟩ := hex
  rw [if_neg (show ¬ w.1 = 0 by rw [b3]; decide)]
  have hin1 := lk_in hlk (p := p1) (by omega) (by omega)
  have hw8 : w.2 71 (fd 8) = A 71 (fd 8) + c1.length := by rw [b4.2.1, u1]
  have hpw := prC71_a h69 b4 (by omega) (by omega)
  generalize hA136 : qu w.2 76 (A 71 (fd 7)) (w.2 71 (fd 8)) = A136
  have e136 : A136 71 = w.2 71 ∧ A136 72 = w.2 72 ∧ A136 73 = w.2 73 ∧ A136 74 = w.2 74 ∧ A136 75 = w.2 75 ∧ A136 77 = w.2 77 ∧ A136 53 = w.2 53 ∧ A136 54 = w.2 54 ∧ A136 76 (A 71 (fd 7)) = A 71 (fd 8) + c1.length := by
    rw [← hA136, ← hw8]
    refine ⟨?_, ?_, ?_, ?_, ?_, ?_, ?_, ?_, ?_⟩
    all_goals first | (funext i; simp [qu_is]; done) | (simp [qu_is]; done)
  have k136 : (∀ k, k < A 71 (fd 7) → A136 76 k = w.2 76 k) ∧ frm [72, 73, 74, 75, 76, 77] [(71, 7), (71, 8), (54, 3), (54, 4)] w.2 A136 := by
    rw [← hA136]
    refine ⟨fun k hk => ?_, frm_s (frm_0 _ _ _) rfl rfl⟩
    have : k ≠ A 71 (fd 7) := by omega
    simp [qu_is, this]
  clear hA136
  obtain ⟨v1, v2, v3, v4, v5, v6, v7, v8, v9⟩ := e136
  have h136 : prC71 n lk A136 := prC71_w hpw v8 v7 (by rw [v1])
  have h9 := condE71 hlk 5 h136
  rw [v8, b4.1, v1, hw8, show 6 - ((5 : Nat) : Int) = 1 from rfl] at h9
  have h8 := pOk_condE hlk 5 (A 71 (fd 8) + c1.length) (p1 + 1) (by omega) (by omega)
  generalize fC_readCondition_71 5 1 A136 = y2 at h9 ⊢
  rcases hx2 : p_condE lk 5 (A 71 (fd 8) + c1.length) (p1 + 1) with f | ⟨p2, c2⟩
  · rw [hx2] at h9
    rw [if_pos h9.1]
    exact ⟨rfl, h9.2⟩
  rw [hx2] at h9 h8
  obtain ⟨d1, d2, d3⟩ := h8
  obtain ⟨b5, b6⟩ := h9
  rw [if_neg (show ¬ y2.1 = 0 by rw [b5]; decide)]
  have hA136p : A136 54 (fd 3) = p1 + 1 := by rw [v8]; exact b4.1
  have hpy2 := prC71_a h136 b6 (by omega) d2
  have hex := rC71_exp (g := 41) hpy2 b6
  dsimp only
  generalize fC_expect_71 41 y2.2 = w2 at hex ⊢
  by_cases h4 : lk p2 = 41
  rotate_left
  · rw [if_neg h4] at hex ⊢
    rw [if_pos hex.1]
    exact ⟨rfl, hex.2⟩
  rw [if_pos h4] at hex ⊢
  obtain ⟨b7, b8⟩ := hex
  rw [if_neg (show ¬ w2.1 = 0 by rw [b7]; decide)]
  refine ⟨rfl, ?_⟩
  obtain ⟨c81, c82, c83, c84, c85⟩ := b8
  obtain ⟨c41, c42, c43, c44, c45⟩ := b4
  have hw28 : w2.2 71 (fd 8) = A 71 (fd 8) + c1.length + c2.length := by rw [c82, v1, hw8]
  have g7 : w2.2 71 (fd 7) = A 71 (fd 7) := by rw [frm_f c85 (r := 71) (j := 7) rfl, v1, frm_f c45 (r := 71) (j := 7) rfl, u1]
  have gE : w2.2 74 = A69 74 := by rw [frm_a c85 (r := 74) rfl, v4, frm_a c45 (r := 74) rfl]
  have gF : w2.2 75 = A69 75 := by rw [frm_a c85 (r := 75) rfl, v5, frm_a c45 (r := 75) rfl]
  have gG : w2.2 76 = A136 76 := frm_a c85 (r := 76) rfl
  have gH : w2.2 77 = A 77 := by rw [frm_a c85 (r := 77) rfl, v6, frm_a c45 (r := 77) rfl, u5]
  show xC71 A (qu (qu w2.2 77 (A 71 (fd 7)) (w2.2 71 (fd 8))) 71 (fd 7) (A 71 (fd 7) + 1)) (p2 + 1) (lk (A 54 (fd 3)), c1, c2)
  generalize hR : qu (qu w2.2 77 (A 71 (fd 7)) (w2.2 71 (fd 8))) 71 (fd 7) (A 71 (fd 7) + 1) = R
  have eR : R 72 = w2.2 72 ∧ R 73 = w2.2 73 ∧ R 74 = w2.2 74 ∧ R 75 = w2.2 75 ∧ R 76 = w2.2 76 ∧ R 54 = w2.2 54 ∧ R 71 (fd 8) = w2.2 71 (fd 8) ∧ R 71 (fd 7) = A 71 (fd 7) + 1 ∧ R 77 (A 71 (fd 7)) = w2.2 71 (fd 8) := by
    rw [← hR]
    refine ⟨?_, ?_, ?_, ?_, ?_, ?_, ?_, ?_, ?_⟩
    all_goals first | (funext i; simp [qu_is]; done) | (simp [qu_is, fd_eq]; done)
  have kR : (∀ k, k < A 71 (fd 7) → R 77 k = w2.2 77 k) ∧ frm [72, 73, 74, 75, 76, 77] [(71, 7), (71, 8), (54, 3), (54, 4)] w2.2 R := by
    rw [← hR]
    refine ⟨fun k hk => ?_, frm_sf (frm_s (frm_0 _ _ _) rfl rfl) rfl rfl⟩
    have : k ≠ A 71 (fd 7) := by omega
    simp [qu_is, this]
  clear hR
  obtain ⟨r1, r2, r3, r4, r5, r6, r7, r8, r9⟩ := eR
  refine ⟨⟨by rw [r6]; exact c81, r8, by rw [r7]; exact hw28⟩, ⟨by rw [r3, gE]; exact u9, by rw [r4, gF]; exact u10, by rw [r5, gG]; exact v9, by rw [r9]; exact hw28⟩, ⟨?_, ?_⟩, fun k hk => ?_, fun k hk => ?_, ?_⟩
  · rw [r1, r2]
    rw [u1] at c43
    refine cat_ext c43 (fun k k0 k1 => ?_)
    have h7 := c84 k (by rw [v1, hw8]; exact k1)
    rw [v2, v3] at h7
    exact h7
  · rw [r1, r2]
    have h7 := c83
    rw [v1, hw8] at h7
    exact h7
  · have h7 := c84 k (by rw [v1, hw8]; omega)
    have h6 := c44 k (by rw [u1]; exact hk)
    rw [v2, v3] at h7
    rw [u2, u3] at h6
    rw [r1, r2]
    exact ⟨h7.1.trans h6.1, h7.2.trans h6.2⟩
  · have h6 := k69.1 k hk
    refine ⟨by rw [r3, gE]; exact h6.1, by rw [r4, gF]; exact h6.2, ?_, ?_⟩
    · rw [r5, gG, k136.1 k hk, frm_a c45 (r := 76) rfl, u4]
    · rw [kR.1 k hk, gH]
  · exact frm_c (frm_c (frm_c (frm_c (frm_c k69.2 c45 rfl) k136.2 rfl) c85 rfl) kR.2 rfl) (frm_0 [] [] _) rfl
theorem text71 {n : Int} {lk : Int → Int} (hlk : lkok n lk) : ∀ (k F : Nat) (i : Int) (B : qA), (k : Int) + i = 15 → k < F → prC71 n lk B → B 71 (fd 7) = i → i ≤ 14 → match p_text lk k i (B 71 (fd 8)) (B 54 (fd 3)) with | .inl f => (fC_read_71_L F 23 [i] B).1 = f | .inr T => (fC_read_71_L F 23 [i] B).1 = i + T.length ∧ (fC_read_71_L F 23 [i] B).2 71 (fd 7) = i + T.length ∧ tx ((fC_read_71_L F 23 [i] B).2 74) ((fC_read_71_L F 23 [i] B).2 75) ((fC_read_71_L F 23 [i] B).2 76) ((fC_read_71_L F 23 [i] B).2 77) (cat ((fC_read_71_L F 23 [i] B).2 72) ((fC_read_71_L F 23 [i] B).2 73)) i (B 71 (fd 8)) T ∧ (∀ k, k < B 71 (fd 8) → (fC_read_71_L F 23 [i] B).2 72 k = B 72 k ∧ (fC_read_71_L F 23 [i] B).2 73 k = B 73 k) ∧ (∀ k, k < i → (fC_read_71_L F 23 [i] B).2 74 k = B 74 k ∧ (fC_read_71_L F 23 [i] B).2 75 k = B 75 k ∧ (fC_read_71_L F 23 [i] B).2 76 k = B 76 k ∧ (fC_read_71_L F 23 [i] B).2 77 k = B 77 k)
  | _, 0, _, _, _, h, _, _, _ => absurd h (Nat.not_lt_zero _)
  | 0, F + 1, i, B, hk, hF, hB, hi, hi2 => by exfalso; omega
  | k + 1, F + 1, i, B, hk, hF, hB, hi, hi2 => by
    have hB0 := hB.2.1
    have hB1 := hB.2.2.1
    have hn := hB.1.2.1
    have hcl := clause71 hlk hB
    have hok := clOk_is hlk (B 71 (fd 7)) (B 71 (fd 8)) (B 54 (fd 3)) (by omega) hB.2.2.2
    have e0 : fC_read_71_L (F + 1) 23 [i] B = fC_read_71_c23 (fC_read_71_L F) i B := rfl
    rw [e0]
    rw [hi] at hcl hok
    unfold fC_read_71_c23 p_text
    simp only [qlet, qlp]
    rw [if_neg (show ¬ 14 < i by omega)]
    generalize fC_readClause_71 B = y at hcl ⊢
    rcases hx : p_clause lk i (B 71 (fd 8)) (B 54 (fd 3)) with f | ⟨p', x⟩
    · rw [hx] at hcl
      rw [if_pos hcl.1]
      exact hcl.2
    rw [hx] at hcl hok
    obtain ⟨o0, o1, o2, o3, o4⟩ := hok
    obtain ⟨g1, ⟨g2, g3, g4⟩, ⟨g5, g6, g7, g8⟩, ⟨g9, g10⟩, g11, g12, g13⟩ := hcl
    rw [hi] at g3 g5 g6 g7 g8 g12
    have hpy : prC71 n lk y.2 := by
      refine ⟨⟨?_, hn, ?_⟩, by omega, by omega, by omega⟩
      · rw [frm_f g13 (r := 54) (j := 2) rfl]; exact hB.1.1
      · rw [frm_a g13 (r := 53) rfl]; exact hB.1.2.2
    rw [if_neg (show ¬ y.1 = 0 by rw [g1]; decide), look71 hpy, g2]
    by_cases h1 : lk p' = -1
    · rw [if_pos h1]
      simp only [h1, if_true]
      refine ⟨by rw [g3]; rfl, by rw [g3]; rfl, ⟨⟨g5, g6, g7, g8, g9, g10⟩, trivial⟩, g11, g12⟩
    · have hin := lk_in hlk (p := p') (by omega) h1
      rw [if_neg h1]
      have hac : aC71 y.2 y.2 p' [] := by
        have := aC71_0 y.2
        rw [g2] at this
        exact this
      have hex := rC71_exp (g := 59) hpy hac
      generalize fC_expect_71 59 y.2 = w at hex ⊢
      by_cases h2 : lk p' = 59
      · rw [if_pos h2] at hex
        obtain ⟨b1, b2⟩ := hex
        rw [if_neg (show ¬ w.1 = 0 by rw [b1]; decide)]
        have hpw := prC71_a hpy b2 (by simp only [List.length_nil]; omega) (by omega)
        obtain ⟨c1, c2, c3, c4, c5⟩ := b2
        have w8 : w.2 71 (fd 8) = B 71 (fd 8) + x.2.1.length + x.2.2.length := by rw [c2, g4]; simp
        have ih := text71 hlk k F (i + 1) w.2 (by omega) (by omega) hpw (by rw [frm_f c5 (r := 71) (j := 7) rfl, g3]) (by omega)
        rw [c1, w8] at ih
        simp only [h2, if_true, show ¬ ((59 : Int) = -1) by decide, if_false]
        rcases hy : p_text lk k (i + 1) (B 71 (fd 8) + x.2.1.length + x.2.2.length) (p' + 1) with f | T
        · rw [hy] at ih
          exact ih
        · rw [hy] at ih
          obtain ⟨i1, i2, i3, i4, i5⟩ := ih
          generalize fC_read_71_L F 23 [i + 1] w.2 = z at i1 i2 i3 i4 i5 ⊢
          have hj := i5 i (by omega)
          refine ⟨by rw [i1]; simp only [List.length_cons]; omega, by rw [i2]; simp only [List.length_cons]; omega, ⟨⟨?_, ?_, ?_, ?_, ?_, ?_⟩, i3⟩, fun k hk => ?_, fun k hk => ?_⟩
          · rw [hj.1, frm_a c5 (r := 74) rfl]; exact g5
          · rw [hj.2.1, frm_a c5 (r := 75) rfl]; exact g6
          · rw [hj.2.2.1, frm_a c5 (r := 76) rfl]; exact g7
          · rw [hj.2.2.2, frm_a c5 (r := 77) rfl]; exact g8
          · refine cat_ext g9 (fun k k0 k1 => ?_)
            have := i4 k (by omega)
            rw [this.1, this.2]
            exact c4 k (by rw [g4]; omega)
          · refine cat_ext g10 (fun k k0 k1 => ?_)
            have := i4 k (by omega)
            rw [this.1, this.2]
            exact c4 k (by rw [g4]; omega)
          · have h7 := i4 k (by omega)
            have h6 := c4 k (by rw [g4]; omega)
            have h5 := g11 k hk
            exact ⟨h7.1.trans (h6.1.trans h5.1), h7.2.trans (h6.2.trans h5.2)⟩
          · have h7 := i5 k (by omega)
            have h5 := g12 k hk
            rw [frm_a c5 (r := 74) rfl, frm_a c5 (r := 75) rfl, frm_a c5 (r := 76) rfl, frm_a c5 (r := 77) rfl] at h7
            exact ⟨h7.1.trans h5.1, h7.2.1.trans h5.2.1, h7.2.2.1.trans h5.2.2.1, h7.2.2.2.trans h5.2.2.2⟩
      · rw [if_neg h2] at hex
        rw [if_pos hex.1]
        simp only [h1, h2, if_false]
        exact hex.2
/-- the law that is read -/
def txC71 (A : qA) (T : List pX) : Prop := A 71 (fd 7) = T.length ∧ tx (A 74) (A 75) (A 76) (A 77) (cat (A 72) (A 73)) 0 0 T
theorem law71 {n : Int} {lk : Int → Int} {A : qA} (h1 : 1 ≤ n) (h2 : n ≤ 200) (h3 : n ≤ A 52 (fd 1)) (hlk : lkok n lk) (he : ∀ p, 0 ≤ p → lk p = if p < n then A 53 p else -1) : match p_text lk 15 0 0 0 with | .inl f => (fC_law_71 n A).1 = f ∧ (fC_law_71 n A).2 34 (fd 4) = (fC_read_71 n A).2 34 (fd 4) | .inr T => (fC_law_71 n A).1 = T.length ∧ txC71 (fC_law_71 n A).2 T ∧ (fC_law_71 n A).2 34 (fd 4) = 71 := by
  have hr : fC_read_71 n A = fC_read_71_L 100000 23 [0] (qu (qu (qu (qu (qu (qu (qu A 54 (fd 0) (52 : Int)) 54 (fd 1) (71 : Int)) 54 (fd 2) n) 54 (fd 3) 0) 54 (fd 4) 0) 71 (fd 7) 0) 71 (fd 8) 0) := rfl
  generalize hA9 : qu (qu (qu (qu (qu (qu (qu A 54 (fd 0) (52 : Int)) 54 (fd 1) (71 : Int)) 54 (fd 2) n) 54 (fd 3) 0) 54 (fd 4) 0) 71 (fd 7) 0) 71 (fd 8) 0 = A9 at hr
  have e9 : A9 54 (fd 2) = n ∧ A9 54 (fd 3) = 0 ∧ A9 71 (fd 7) = 0 ∧ A9 71 (fd 8) = 0 ∧ A9 53 = A 53 := by
    rw [← hA9]
    refine ⟨?_, ?_, ?_, ?_, ?_⟩
    all_goals first | (funext i; simp [qu_is]; done) | (simp [qu_is, fd_eq]; done)
  obtain ⟨u1, u2, u3, u4, u5⟩ := e9
  have hp9 : prC71 n lk A9 := ⟨⟨u1, h2, by rw [u5]; exact he⟩, by omega, by omega, by omega⟩
  have h9 := text71 hlk 15 100000 0 A9 (by decide) (by decide) hp9 u3 (by decide)
  rw [u2, u4, ← hr] at h9
  have hok := txOk_is hlk 15 0 0 0 (Int.le_refl _) (by omega)
  unfold fC_law_71
  simp only [qlet, qlp]
  rw [if_neg (show ¬ n < 1 by omega), if_neg (show ¬ 200 < n by omega), if_neg (show ¬ A 52 (fd 1) < n by omega)]
  generalize fC_read_71 n A = y at h9 ⊢
  rcases hx : p_text lk 15 0 0 0 with f | T
  · rw [hx] at h9 hok
    rw [if_pos (show y.1 < 0 by rw [h9]; exact hok)]
    exact ⟨h9, by simp [qu_is]⟩
  · rw [hx] at h9 hok
    obtain ⟨g1, g2, g3, _, _⟩ := h9
    rw [if_neg (show ¬ y.1 < 0 by rw [g1]; omega)]
    dsimp only
    refine ⟨by rw [g1]; omega, ⟨?_, ?_⟩, ?_⟩
    · rw [show (qu (qu (qu y.2 52 (fd 1) 0) 34 (fd 4) (71 : Int)) 0 (fd 10) (36 : Int)) 71 = y.2 71 by funext i; simp [qu_is], g2]
      omega
    · have hE : ∀ r : Nat, r ≠ 0 → r ≠ 34 → r ≠ 52 → (qu (qu (qu y.2 52 (fd 1) 0) 34 (fd 4) (71 : Int)) 0 (fd 10) (36 : Int)) r = y.2 r := fun r h0 h1 h2 => by funext i; simp [qu_is, h0, h1, h2]
      rw [hE 74 (by decide) (by decide) (by decide), hE 75 (by decide) (by decide) (by decide), hE 76 (by decide) (by decide) (by decide), hE 77 (by decide) (by decide) (by decide), hE 72 (by decide) (by decide) (by decide), hE 73 (by decide) (by decide) (by decide)]
      exact g3
    · simp [qu_is]
