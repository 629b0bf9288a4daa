/-! THE REFERENCE READS A CLAUSE, A TEXT -/
/-- a condition behind its ( -/
theorem rcM {n : Int} {lk : Int → Int} (hlk : lkok n lk) {A A0 : qA} (h0 : A0 = qu (qu A 0 (fd 30) 0) 0 (fd 32) 0) (hA : prM n lk A0) (h40 : lk (A 0 (fd 27)) = 40) : match p_condE lk 5 (A 0 (fd 31)) (A 0 (fd 27) + 1) with | .inl f => (fM_readsCondition A).1 = 0 ∧ (fM_readsCondition A).2 0 (fd 29) = f | .inr (q, c) => if lk q = 41 then (fM_readsCondition A).1 = 1 ∧ eM A0 (fM_readsCondition A).2 (q + 1) [] (c.map en) 0 else (fM_readsCondition A).1 = 0 ∧ (fM_readsCondition A).2 0 (fd 29) = -1000 - q := by
  have e0 : A0 0 (fd 27) = A 0 (fd 27) ∧ A0 0 (fd 31) = A 0 (fd 31) ∧ A0 0 (fd 30) = 0 ∧ A0 0 (fd 32) = 0 ∧ A0 0 (fd 28) = A 0 (fd 28) ∧ A0 22 = A 22 := by
    rw [h0]
    refine ⟨?_, ?_, ?_, ?_, ?_, ?_⟩
    all_goals first | (funext i; simp [qu_is]; done) | (simp [qu_is, fd_eq]; done)
  obtain ⟨u1, u2, u3, u4, u5, u6⟩ := e0
  have hap := hA.2.1
  have hn200 := hA.1.2.1
  have hhere : fM_here A = lk (A 0 (fd 27)) := by
    have h := here_is hA
    rw [u1] at h
    rw [← h]
    unfold fM_here
    simp only [qlet]
    rw [u1, u5, u6]
  have hop := opens_is (w := 13) hA (by decide) (by omega)
  have hin := lk_in hlk (p := A 0 (fd 27)) (by omega) (by omega)
  have e1 : fM_readsCondition A = MC22 100000 (fM_opens 13 A0).2 := by
    unfold fM_readsCondition
    simp only [qlet, qlp]
    rw [hhere, if_pos h40, ← h0, if_neg (show ¬ (fM_opens 13 A0).1 = 0 by rw [hop.1]; decide)]
    rfl
  rw [e1]
  have r3 := hop.2
  generalize fM_opens 13 A0 = oo at r3 ⊢
  have r2 : prM n lk oo.2 := prM_e hA r3 (by simp only [List.length_cons, List.length_nil]; omega) (by simp only [List.length_nil]; omega) (by omega) (by omega)
  have hp1 := r3.1.1
  have hz1 : oo.2 0 (fd 31) = A 0 (fd 31) := by rw [r3.1.2.2.1, u2]; simp
  have hw1 : oo.2 0 (fd 32) = 1 := by rw [r3.1.2.1, u4]; rfl
  have ho1 : oo.2 0 (fd 30) = 1 := by rw [r3.1.2.2.2, u3]; rfl
  have htop : fM_top oo.2 = 13 := by
    rw [top_is (ps := []) r3 (by omega) (by decide)]
    decide
  rw [u1] at hp1
  have h8 : pOk n (A 0 (fd 27) + 1) (p_condE lk 5 (A 0 (fd 31)) (A 0 (fd 27) + 1)) := pOk_condE hlk 5 (A 0 (fd 31)) (A 0 (fd 27) + 1) (by omega) (by omega)
  have h9 := condM hlk (pOk_pieceE hlk 5) r2 htop (fun X F' hX h5 h6 h6' h7 => pieceM hlk 5 X F' hX h5 (by omega) (by omega) h7) 100000 (by omega)
  rw [hp1, hz1] at h9
  have h9 : outJ n lk 1 oo.2 (p_condE lk 5 (A 0 (fd 31)) (A 0 (fd 27) + 1)) (MC22 100000 oo.2) := h9
  rcases hx : p_condE lk 5 (A 0 (fd 31)) (A 0 (fd 27) + 1) with f | ⟨q, c⟩
  · rw [hx] at h9
    exact h9
  · rw [hx] at h9 h8
    obtain ⟨a1, a2, a3⟩ := h8
    obtain ⟨F', B, B', g1, g2, g3, g4, g5, g6, g7, g8, g9⟩ := h9
    rw [g2]
    obtain ⟨F', rfl⟩ : ∃ F'', F' = F'' + 1 := ⟨F' - 1, by omega⟩
    have e2 : MC47 (F' + 1) B = fM_readsCondition_c47 (fM_readsCondition_L F') B := rfl
    rw [e2]
    unfold fM_readsCondition_c47
    simp only [qlet]
    rw [here_is g4, g5]
    by_cases h41 : lk q = 41
    · simp only [h41, if_true]
      rw [g6, lands_none (Or.inr rfl) (by rw [top_base g3, htop]; unfold jit; omega)]
      have hAB := eM_tr r3 g3
      rw [List.nil_append, List.append_nil, Int.add_zero] at hAB
      have hin2 := lk_in hlk (p := q) (by omega) (by omega)
      have hBw : B' 0 (fd 32) = 1 := by rw [hAB.1.2.1, u4]; rfl
      have hBo : B' 0 (fd 30) = 1 := by rw [hAB.1.2.2.2, u3]; rfl
      have hBq : B' 0 (fd 27) = q := hAB.1.1
      have w2 : wI (B' 0 (fd 32) - 1) = B' 0 (fd 32) - 1 := wI_id ⟨by omega, by omega⟩
      have k1 : (qu B' 0 (fd 32) (B' 0 (fd 32) - 1)) 0 (fd 30) = B' 0 (fd 30) := by simp [qu_is, fd_eq]
      have w3 : wI (B' 0 (fd 30) - 1) = B' 0 (fd 30) - 1 := wI_id ⟨by omega, by omega⟩
      have k2 : (qu (qu B' 0 (fd 32) (B' 0 (fd 32) - 1)) 0 (fd 30) (B' 0 (fd 30) - 1)) 0 (fd 27) = q := by simp [qu_is, fd_eq, hBq]
      have w4 : wI (q + 1) = q + 1 := wI_id ⟨by omega, by omega⟩
      rw [w2, k1, w3, k2, w4, if_pos (show B' 0 (fd 32) - 1 = 0 by omega)]
      have h7 := eM_go (eM_open (eM_pop (ps := []) hAB) (B' 0 (fd 30) - 1)) (q + 1)
      rw [show B' 0 (fd 30) - 1 - A0 0 (fd 30) = 0 by omega] at h7
      exact ⟨rfl, h7⟩
    · simp only [h41, if_false]
      rw [if_neg g8, if_neg (g9 rfl)]
      refine ⟨rfl, ?_⟩
      show (fM_wrongAt 1 q B) 0 (fd 29) = _
      rw [wrong_is]; omega
def prT (n : Int) (lk : Int → Int) (A : qA) : Prop := (A 0 (fd 28) = n ∧ n ≤ 200 ∧ (∀ p, 0 ≤ p → lk p = if p < n then ia (A 22 p) 255 else -1)) ∧ (0 ≤ A 0 (fd 27) ∧ A 0 (fd 27) ≤ n) ∧ (0 ≤ A 0 (fd 31) ∧ A 0 (fd 31) ≤ A 0 (fd 27))
theorem here_T {n : Int} {lk : Int → Int} {A : qA} (hp : prT n lk A) : fM_here A = lk (A 0 (fd 27)) := by
  obtain ⟨⟨u1, u2, u3⟩, ⟨v1, v2⟩, _⟩ := hp
  unfold fM_here
  simp only [qlet]
  rw [u3 _ v1, u1]
def xM (A A' : qA) (p' : Int) (x : pX) : Prop := (A' 0 (fd 27) = p' ∧ A' 0 (fd 33) = A 0 (fd 33) + 1 ∧ A' 0 (fd 31) = A 0 (fd 31) + x.2.1.length + x.2.2.length) ∧ (A' 25 (A 0 (fd 33)) = x.1 ∧ A' 26 (A 0 (fd 33)) = A 0 (fd 31) ∧ A' 27 (A 0 (fd 33)) = A 0 (fd 31) + x.2.1.length ∧ A' 28 (A 0 (fd 33)) = A 0 (fd 31) + x.2.1.length + x.2.2.length) ∧ (mcat (A' 23) (A 0 (fd 31)) (x.2.1.map en) ∧ mcat (A' 23) (A 0 (fd 31) + x.2.1.length) (x.2.2.map en)) ∧ (∀ k, k < A 0 (fd 31) → A' 23 k = A 23 k) ∧ (∀ k, k < A 0 (fd 33) → A' 25 k = A 25 k ∧ A' 26 k = A 26 k ∧ A' 27 k = A 27 k ∧ A' 28 k = A 28 k) ∧ frm [23, 24, 25, 26, 27, 28] [(0, 27), (0, 29), (0, 30), (0, 31), (0, 32), (0, 34), (0, 33)] A A'
theorem clauseM {n : Int} {lk : Int → Int} (hlk : lkok n lk) {A : qA} (hA : prT n lk A) : match p_clause lk (A 0 (fd 33)) (A 0 (fd 31)) (A 0 (fd 27)) with | .inl f => A 0 (fd 33) ≤ 14 → (fM_readsClause A).1 = 0 ∧ (fM_readsClause A).2 0 (fd 29) = f | .inr (p', x) => (fM_readsClause A).1 = 1 ∧ xM A (fM_readsClause A).2 p' x := by
  obtain ⟨⟨t1, t2, t3⟩, ⟨t4, t5⟩, ⟨t6, t7⟩⟩ := id hA
  have hb := (hlk _ t4).1
  unfold fM_readsClause p_clause
  simp only [qlet, qlp]
  rw [here_T hA, ← sg_beg hb.1 hb.2 A]
  by_cases h1 : qone 1 (lk (A 0 (fd 27))) = 0
  · rw [if_pos h1, if_pos h1]
    refine fun _ => ⟨rfl, ?_⟩
    show (fM_wrongAt 1 (A 0 (fd 27)) A) 0 (fd 29) = _
    rw [wrong_is]; omega
  rw [if_neg h1, if_neg h1]
  by_cases h2 : A 0 (fd 33) < 14
  rotate_left
  · rw [if_neg h2]
    intro h14
    rw [if_pos (show A 0 (fd 33) = 14 by omega)]
    refine ⟨rfl, ?_⟩
    show (fM_wrongAt 4 (A 0 (fd 27)) A) 0 (fd 29) = _
    rw [wrong_is]; omega
  rw [if_pos h2, if_neg (show ¬ A 0 (fd 33) = 14 by omega)]
  have hin := lk_one hlk (p := A 0 (fd 27)) t4 h1
  generalize hA75 : qu (qu (qu (qu (qu A 25 (A 0 (fd 33)) (lk (A 0 (fd 27)))) 0 (fd 27) ((qu A 25 (A 0 (fd 33)) (lk (A 0 (fd 27)))) 0 (fd 27) + 1)) 26 (A 0 (fd 33)) ((qu (qu A 25 (A 0 (fd 33)) (lk (A 0 (fd 27)))) 0 (fd 27) ((qu A 25 (A 0 (fd 33)) (lk (A 0 (fd 27)))) 0 (fd 27) + 1)) 0 (fd 31))) 0 (fd 30) 0) 0 (fd 32) 0 = A75
  have e75 : A75 0 (fd 27) = A 0 (fd 27) + 1 ∧ A75 0 (fd 28) = A 0 (fd 28) ∧ A75 0 (fd 30) = 0 ∧ A75 0 (fd 31) = A 0 (fd 31) ∧ A75 0 (fd 32) = 0 ∧ A75 0 (fd 33) = A 0 (fd 33) ∧ A75 22 = A 22 ∧ A75 23 = A 23 ∧ A75 27 = A 27 ∧ A75 28 = A 28 ∧ A75 25 (A 0 (fd 33)) = lk (A 0 (fd 27)) ∧ A75 26 (A 0 (fd 33)) = A 0 (fd 31) := by
    rw [← hA75]
    refine ⟨?_, ?_, ?_, ?_, ?_, ?_, ?_, ?_, ?_, ?_, ?_, ?_⟩
    all_goals first | (funext i; simp [qu_is]; done) | (simp [qu_is, fd_eq]; done)
  have k75 : (∀ k, k < A 0 (fd 33) → A75 25 k = A 25 k ∧ A75 26 k = A 26 k) ∧ frm [23, 24, 25, 26, 27, 28] [(0, 27), (0, 29), (0, 30), (0, 31), (0, 32), (0, 34), (0, 33)] A A75 := by
    rw [← hA75]
    refine ⟨fun k hk => ?_, frm_sf (frm_sf (frm_s (frm_sf (frm_s (frm_0 _ _ _) rfl rfl) rfl rfl) rfl rfl) rfl rfl) rfl rfl⟩
    have : k ≠ A 0 (fd 33) := by omega
    constructor <;> simp [qu_is, this]
  clear hA75
  obtain ⟨u1, u2, u3, u4, u5, u6, u7, u8, u9, u10, u11, u12⟩ := e75
  have h75 : prM n lk A75 := ⟨⟨by rw [u2]; exact t1, t2, by rw [u7]; exact t3⟩, by omega, by omega, by omega, by omega⟩
  have h9 := sumM hlk 6 h75 (by rw [u3]; rfl) (by
    unfold fM_top
    simp only [qlet]
    rw [if_pos u5]
    unfold hit
    omega)
  rw [u1] at h9
  have h8 := pOk_sumE hlk 6 (A 0 (fd 27) + 1) (by omega) (by omega)
  generalize fM_readsSum A75 = y at h9 ⊢
  rcases hx : p_sumE lk 6 (A 0 (fd 27) + 1) with f | ⟨p1, c1⟩
  · rw [hx] at h9
    rw [if_pos h9.1]
    exact fun _ => ⟨rfl, h9.2⟩
  rw [hx] at h9 h8
  obtain ⟨a1, a2, a3⟩ := h8
  obtain ⟨b1, b2⟩ := h9
  rw [if_neg (show ¬ y.1 = 0 by rw [b1]; decide)]
  obtain ⟨⟨c41, c42, c43, c44⟩, c45, c46, c47, c48, c49⟩ := b2
  have y33 : y.2 0 (fd 33) = A 0 (fd 33) := by rw [frm_f c49 (r := 0) (j := 33) rfl, u6]
  have y31 : y.2 0 (fd 31) = A 0 (fd 31) + c1.length := by rw [c43, u4, List.length_map]
  generalize hB : qu y.2 27 (A 0 (fd 33)) (y.2 0 (fd 31)) = B
  have eB : B 0 = y.2 0 ∧ B 22 = y.2 22 ∧ B 23 = y.2 23 ∧ B 25 = y.2 25 ∧ B 26 = y.2 26 ∧ B 28 = y.2 28 ∧ B 27 (A 0 (fd 33)) = A 0 (fd 31) + c1.length := by
    rw [← hB, ← y31]
    refine ⟨?_, ?_, ?_, ?_, ?_, ?_, ?_⟩
    all_goals first | (funext i; simp [qu_is]; done) | (simp [qu_is]; done)
  have kB : (∀ k, k < A 0 (fd 33) → B 27 k = y.2 27 k) ∧ frm [23, 24, 25, 26, 27, 28] [(0, 27), (0, 29), (0, 30), (0, 31), (0, 32), (0, 34), (0, 33)] y.2 B := by
    rw [← hB]
    refine ⟨fun k hk => ?_, frm_s (frm_0 _ _ _) rfl rfl⟩
    have : k ≠ A 0 (fd 33) := by omega
    simp [qu_is, this]
  clear hB
  obtain ⟨v1, v2, v3, v4, v5, v6, v7⟩ := eB
  have hB28 : B 0 (fd 28) = n := by rw [v1, frm_f c49 (r := 0) (j := 28) rfl, u2]; exact t1
  have hB22 : B 22 = A 22 := by rw [v2, frm_a c49 (r := 22) rfl, u7]
  have hB27 : B 0 (fd 27) = p1 := by rw [v1]; exact c41
  have hB31 : B 0 (fd 31) = A 0 (fd 31) + c1.length := by rw [v1]; exact y31
  have hB33 : B 0 (fd 33) = A 0 (fd 33) := by rw [v1]; exact y33
  have hTB : prT n lk B := ⟨⟨hB28, t2, by rw [hB22]; exact t3⟩, by omega, by omega⟩
  generalize hB0 : qu (qu B 0 (fd 30) 0) 0 (fd 32) 0 = B0
  have eB0 : B0 0 (fd 27) = p1 ∧ B0 0 (fd 28) = n ∧ B0 0 (fd 30) = 0 ∧ B0 0 (fd 31) = A 0 (fd 31) + c1.length ∧ B0 0 (fd 32) = 0 ∧ B0 0 (fd 33) = A 0 (fd 33) ∧ B0 22 = A 22 ∧ B0 23 = y.2 23 ∧ B0 25 = y.2 25 ∧ B0 26 = y.2 26 ∧ B0 27 = B 27 ∧ B0 28 = y.2 28 := by
    rw [← hB0, ← hB22, ← v3, ← v4, ← v5, ← v6]
    refine ⟨by simp [qu_is, fd_eq, hB27], by simp [qu_is, fd_eq, hB28], by simp [qu_is, fd_eq], by simp [qu_is, fd_eq, hB31], by simp [qu_is, fd_eq], by simp [qu_is, fd_eq, hB33], ?_, ?_, ?_, ?_, ?_, ?_⟩
    all_goals (funext i; simp [qu_is])
  have kB0 : frm [23, 24, 25, 26, 27, 28] [(0, 27), (0, 29), (0, 30), (0, 31), (0, 32), (0, 34), (0, 33)] B B0 := by
    rw [← hB0]
    exact frm_sf (frm_sf (frm_0 _ _ _) rfl rfl) rfl rfl
  obtain ⟨w1, w2, w3, w4, w5, w6, w7, w8, w9, w10, w11, w12⟩ := eB0
  have hpB0 : prM n lk B0 := ⟨⟨w2, t2, by rw [w7]; exact t3⟩, by omega, by omega, by omega, by omega⟩
  dsimp only
  by_cases h3 : lk p1 = 40
  rotate_left
  · have e1 : fM_readsCondition B = (0, fM_wrongAt 1 p1 B) := by
      unfold fM_readsCondition
      simp only [qlet, qlp]
      rw [here_T hTB, hB27, if_neg h3]
    rw [if_neg h3, e1, if_pos rfl]
    refine fun _ => ⟨rfl, ?_⟩
    show (fM_wrongAt 1 p1 B) 0 (fd 29) = _
    rw [wrong_is]; omega
  rw [if_pos h3]
  have hrc := rcM hlk hB0.symm hpB0 (by rw [hB27]; exact h3)
  rw [hB27, hB31] at hrc
  clear hB0
  have h8 := pOk_condE hlk 5 (A 0 (fd 31) + c1.length) (p1 + 1) (by omega) (by have := lk_in hlk (p := p1) (by omega) (by omega); omega)
  generalize fM_readsCondition B = z at hrc ⊢
  rcases hx2 : p_condE lk 5 (A 0 (fd 31) + c1.length) (p1 + 1) with f | ⟨p2, c2⟩
  · rw [hx2] at hrc
    rw [if_pos hrc.1]
    exact fun _ => ⟨rfl, hrc.2⟩
  rw [hx2] at hrc h8
  obtain ⟨d1, d2, d3⟩ := h8
  dsimp only
  have hrc : if lk p2 = 41 then z.1 = 1 ∧ eM B0 z.2 (p2 + 1) [] (c2.map en) 0 else z.1 = 0 ∧ z.2 0 (fd 29) = -1000 - p2 := hrc
  by_cases h4 : lk p2 = 41
  rotate_left
  · rw [if_neg h4] at hrc ⊢
    rw [if_pos hrc.1]
    exact fun _ => ⟨rfl, hrc.2⟩
  rw [if_pos h4] at hrc ⊢
  obtain ⟨b7, ⟨e81, e82, e83, e84⟩, e85, e86, e87, e88, e89⟩ := hrc
  rw [if_neg (show ¬ z.1 = 0 by rw [b7]; decide)]
  refine ⟨rfl, ?_⟩
  have z33 : z.2 0 (fd 33) = A 0 (fd 33) := by rw [frm_f e89 (r := 0) (j := 33) rfl, w6]
  have z31 : z.2 0 (fd 31) = A 0 (fd 31) + c1.length + c2.length := by rw [e83, w4, List.length_map]
  show xM A (qu (qu z.2 28 (A 0 (fd 33)) (z.2 0 (fd 31))) 0 (fd 33) (A 0 (fd 33) + 1)) (p2 + 1) (lk (A 0 (fd 27)), c1, c2)
  generalize hR : qu (qu z.2 28 (A 0 (fd 33)) (z.2 0 (fd 31))) 0 (fd 33) (A 0 (fd 33) + 1) = R
  have eR : R 23 = z.2 23 ∧ R 25 = z.2 25 ∧ R 26 = z.2 26 ∧ R 27 = z.2 27 ∧ R 0 (fd 27) = z.2 0 (fd 27) ∧ R 0 (fd 31) = z.2 0 (fd 31) ∧ R 0 (fd 33) = A 0 (fd 33) + 1 ∧ R 28 (A 0 (fd 33)) = z.2 0 (fd 31) := by
    rw [← hR]
    refine ⟨?_, ?_, ?_, ?_, ?_, ?_, ?_, ?_⟩
    all_goals first | (funext i; simp [qu_is]; done) | (simp [qu_is, fd_eq]; done)
  have kR : (∀ k, k < A 0 (fd 33) → R 28 k = z.2 28 k) ∧ frm [23, 24, 25, 26, 27, 28] [(0, 27), (0, 29), (0, 30), (0, 31), (0, 32), (0, 34), (0, 33)] z.2 R := by
    rw [← hR]
    refine ⟨fun k hk => ?_, frm_sf (frm_s (frm_0 _ _ _) rfl rfl) rfl rfl⟩
    have : k ≠ A 0 (fd 33) := by omega
    simp [qu_is, this]
  clear hR
  obtain ⟨r1, r2, r3, r4, r5, r6, r7, r8⟩ := eR
  have z25 : z.2 25 = A75 25 := by rw [frm_a e89 (r := 25) rfl, w9, frm_a c49 (r := 25) rfl]
  have z26 : z.2 26 = A75 26 := by rw [frm_a e89 (r := 26) rfl, w10, frm_a c49 (r := 26) rfl]
  have z27 : z.2 27 = B 27 := by rw [frm_a e89 (r := 27) rfl, w11]
  have z28 : z.2 28 = A 28 := by rw [frm_a e89 (r := 28) rfl, w12, frm_a c49 (r := 28) rfl, u10]
  refine ⟨⟨by rw [r5]; exact e81, r7, by rw [r6]; exact z31⟩, ⟨by rw [r2, z25]; exact u11, by rw [r3, z26]; exact u12, by rw [r4, z27]; exact v7, by rw [r8]; exact z31⟩, ⟨?_, ?_⟩, fun k hk => ?_, fun k hk => ?_, ?_⟩
  · rw [r1]
    rw [u4] at c46
    refine mcat_ext c46 (fun k k0 k1 => ?_)
    rw [List.length_map] at k1
    rw [e88 k (by rw [w4]; omega), w8]
  · rw [r1]
    rw [w4] at e86
    exact e86
  · rw [r1, e88 k (by rw [w4]; omega), w8, c48 k (by rw [u4]; exact hk), u8]
  · have h6 := k75.1 k hk
    refine ⟨by rw [r2, z25]; exact h6.1, by rw [r3, z26]; exact h6.2, ?_, ?_⟩
    · rw [r4, z27, kB.1 k hk, frm_a c49 (r := 27) rfl, u9]
    · rw [kR.1 k hk, z28]
  · exact frm_c (frm_c (frm_c (frm_c (frm_c (frm_c k75.2 c49 rfl) kB.2 rfl) kB0 rfl) e89 rfl) kR.2 rfl) (frm_0 [] [] _) rfl
/-- what is read, laid in the rows of the law -/
def txM (A : qA) (T : List pX) : Prop := A 0 (fd 35) = T.length ∧ tx (A 30) (A 31) (A 32) (A 33) (fun z c => mcat (A 29) z (c.map en)) 0 0 T
theorem lawM_c75 : ∀ (m F : Nat) (k : Int) (B : qA), m < F → 0 ≤ k → B 0 (fd 33) - k ≤ m → (fM_law_L F 75 [k] B).1 = B 0 (fd 33) ∧ (∀ j, k ≤ j → j < B 0 (fd 33) → (fM_law_L F 75 [k] B).2 30 j = B 25 j ∧ (fM_law_L F 75 [k] B).2 31 j = B 26 j ∧ (fM_law_L F 75 [k] B).2 32 j = B 27 j ∧ (fM_law_L F 75 [k] B).2 33 j = B 28 j) ∧ (∀ j, j < k → (fM_law_L F 75 [k] B).2 30 j = B 30 j ∧ (fM_law_L F 75 [k] B).2 31 j = B 31 j ∧ (fM_law_L F 75 [k] B).2 32 j = B 32 j ∧ (fM_law_L F 75 [k] B).2 33 j = B 33 j) ∧ frm [30, 31, 32, 33] [] B (fM_law_L F 75 [k] B).2
  | _, 0, _, _, h, _, _ => absurd h (Nat.not_lt_zero _)
  | m, F + 1, k, B, hF, hk, hm => by
    have e0 : fM_law_L (F + 1) 75 [k] B = fM_law_c75 (fM_law_L F) k B := rfl
    rw [e0]
    unfold fM_law_c75
    simp only [qlet]
    by_cases h : k < B 0 (fd 33)
    · rw [if_pos h]
      generalize hB1 : qu (qu (qu (qu B 30 k (B 25 k)) 31 k ((qu B 30 k (B 25 k)) 26 k)) 32 k ((qu (qu B 30 k (B 25 k)) 31 k ((qu B 30 k (B 25 k)) 26 k)) 27 k)) 33 k ((qu (qu (qu B 30 k (B 25 k)) 31 k ((qu B 30 k (B 25 k)) 26 k)) 32 k ((qu (qu B 30 k (B 25 k)) 31 k ((qu B 30 k (B 25 k)) 26 k)) 27 k)) 28 k) = B1
      have e1 : B1 0 = B 0 ∧ B1 25 = B 25 ∧ B1 26 = B 26 ∧ B1 27 = B 27 ∧ B1 28 = B 28 ∧ B1 30 k = B 25 k ∧ B1 31 k = B 26 k ∧ B1 32 k = B 27 k ∧ B1 33 k = B 28 k := by
        rw [← hB1]
        refine ⟨?_, ?_, ?_, ?_, ?_, ?_, ?_, ?_, ?_⟩
        all_goals first | (funext i; simp [qu_is]; done) | (simp [qu_is]; done)
      have k1 : (∀ j, j < k → B1 30 j = B 30 j ∧ B1 31 j = B 31 j ∧ B1 32 j = B 32 j ∧ B1 33 j = B 33 j) ∧ frm [30, 31, 32, 33] [] B B1 := by
        rw [← hB1]
        refine ⟨fun j hj => ?_, frm_s (frm_s (frm_s (frm_s (frm_0 _ _ _) rfl rfl) rfl rfl) rfl rfl) rfl rfl⟩
        have : j ≠ k := by omega
        refine ⟨?_, ?_, ?_, ?_⟩ <;> simp [qu_is, this]
      clear hB1
      obtain ⟨u1, u2, u3, u4, u5, u6, u7, u8, u9⟩ := e1
      cases m with
      | zero => exfalso; omega
      | succ m =>
        obtain ⟨i1, i2, i3, i4⟩ := lawM_c75 m F (k + 1) B1 (by omega) (by omega) (by rw [u1]; omega)
        rw [u1, u2, u3, u4, u5] at i2
        rw [u1] at i1
        refine ⟨i1, fun j j0 j1 => ?_, fun j hj => ?_, frm_c k1.2 i4 rfl⟩
        · by_cases hj : j = k
          · have := i3 k (by omega)
            rw [u6, u7, u8, u9] at this
            rw [hj]; exact this
          · exact i2 j (by omega) j1
        · have h3 := i3 j (by omega)
          have h4 := k1.1 j hj
          exact ⟨h3.1.trans h4.1, h3.2.1.trans h4.2.1, h3.2.2.1.trans h4.2.2.1, h3.2.2.2.trans h4.2.2.2⟩
    · rw [if_neg h]
      exact ⟨rfl, fun j j0 j1 => by exfalso; omega, fun j _ => ⟨rfl, rfl, rfl, rfl⟩, frm_0 _ _ _⟩
theorem lawM_c59 : ∀ (m F : Nat) (k : Int) (B : qA), m < F → 0 ≤ k → B 0 (fd 31) - k ≤ m → ∃ (F' : Nat) (B1 : qA), F ≤ F' + m + 1 ∧ fM_law_L F 59 [k] B = fM_law_L F' 75 [0] B1 ∧ (∀ j, k ≤ j → j < B 0 (fd 31) → B1 29 j = B 23 j) ∧ (∀ j, j < k → B1 29 j = B 29 j) ∧ frm [29] [] B B1
  | _, 0, _, _, h, _, _ => absurd h (Nat.not_lt_zero _)
  | m, F + 1, k, B, hF, hk, hm => by
    have e0 : fM_law_L (F + 1) 59 [k] B = fM_law_c59 (fM_law_L F) k B := rfl
    rw [e0]
    unfold fM_law_c59
    simp only [qlet]
    by_cases h : k < B 0 (fd 31)
    · rw [if_pos h]
      have e1 : (qu B 29 k (B 23 k)) 0 = B 0 ∧ (qu B 29 k (B 23 k)) 23 = B 23 := ⟨by funext i; simp [qu_is], by funext i; simp [qu_is]⟩
      cases m with
      | zero => exfalso; omega
      | succ m =>
        obtain ⟨F', B1, i0, i1, i2, i3, i4⟩ := lawM_c59 m F (k + 1) (qu B 29 k (B 23 k)) (by omega) (by omega) (by rw [e1.1]; omega)
        rw [e1.1, e1.2] at i2
        refine ⟨F', B1, by omega, i1, fun j j0 j1 => ?_, fun j hj => ?_, frm_c (frm_s (frm_0 _ _ _) rfl rfl) i4 rfl⟩
        · by_cases hj : j = k
          · rw [hj, i3 k (by omega), qu_at]
          · exact i2 j (by omega) j1
        · rw [i3 j (by omega), qu_nj (by omega)]
    · rw [if_neg h]
      exact ⟨F, B, by omega, rfl, fun j j0 j1 => by exfalso; omega, fun j _ => rfl, frm_0 _ _ _⟩
theorem takes_is {n : Int} {lk : Int → Int} {A : qA} (hA : prT n lk A) (g : Int) : (lk (A 0 (fd 27)) = g → (fM_takes g A).1 = 1 ∧ (fM_takes g A).2 = qu A 0 (fd 27) (A 0 (fd 27) + 1)) ∧ (lk (A 0 (fd 27)) ≠ g → (fM_takes g A).1 = 0 ∧ (fM_takes g A).2 0 (fd 29) = -1000 - A 0 (fd 27)) := by
  unfold fM_takes
  simp only [qlet]
  rw [here_T hA]
  refine ⟨fun h => ?_, fun h => ?_⟩
  · rw [if_pos h]
    exact ⟨rfl, rfl⟩
  · rw [if_neg h]
    refine ⟨rfl, ?_⟩
    show (fM_wrongAt 1 (A 0 (fd 27)) A) 0 (fd 29) = _
    rw [wrong_is]; omega
/-- what the loop over the clauses comes to, with the clauses T behind the first i -/
def lwM (i : Int) (B : qA) (x : Int ⊕ List pX) (y : Int × qA) : Prop := match x with
  | .inl f => y.1 = f ∧ y.2 0 (fd 26) = 0
  | .inr T => y.2 0 (fd 26) = 0 ∧ y.1 = i + T.length ∧ y.2 0 (fd 35) = i + T.length ∧ tx (y.2 30) (y.2 31) (y.2 32) (y.2 33) (fun z c => mcat (y.2 29) z (c.map en)) i (B 0 (fd 31)) T ∧ (∀ k, 0 ≤ k → k < B 0 (fd 31) → y.2 29 k = B 23 k) ∧ (∀ k, 0 ≤ k → k < i → y.2 30 k = B 25 k ∧ y.2 31 k = B 26 k ∧ y.2 32 k = B 27 k ∧ y.2 33 k = B 28 k)
theorem clausesM {n : Int} {lk : Int → Int} (hlk : lkok n lk) : ∀ (k F : Nat) (i : Int) (B : qA), (k : Int) + i = 15 → 1000 + k < F → prT n lk B → B 0 (fd 33) = i → 0 ≤ i → i ≤ 14 → lwM i B (p_text lk k i (B 0 (fd 31)) (B 0 (fd 27))) (fM_law_L F 26 [(fM_readsClause B).1] (fM_readsClause B).2)
  | _, 0, _, _, _, h, _, _, _, _ => absurd h (Nat.not_lt_zero _)
  | 0, F + 1, i, B, hk, hF, hB, hi, hi0, hi2 => by exfalso; omega
  | k + 1, F + 1, i, B, hk, hF, hB, hi, hi0, hi2 => by
    obtain ⟨⟨t1, t2, t3⟩, ⟨t4, t5⟩, ⟨t6, t7⟩⟩ := id hB
    have hcl := clauseM hlk hB
    have hok := clOk_is hlk (B 0 (fd 33)) (B 0 (fd 31)) (B 0 (fd 27)) t4 t5
    rw [hi] at hcl hok
    generalize fM_readsClause B = y at hcl ⊢
    have e0 : ∀ g C, fM_law_L (F + 1) 26 [g] C = fM_law_c26 (fM_law_L F) g C := fun _ _ => rfl
    unfold p_text
    rcases hx : p_clause lk i (B 0 (fd 31)) (B 0 (fd 27)) with f | ⟨p', x⟩
    · rw [hx] at hcl
      have hcl := hcl hi2
      rw [e0, hcl.1]
      unfold fM_law_c26
      simp only [qlet]
      rw [if_pos trivial]
      refine ⟨?_, (by dsimp only; exact qu_at _ _ _ _)⟩
      show (qu y.2 0 (fd 26) 0) 0 (fd 29) = f
      rw [← hcl.2]
      simp [qu_is, fd_eq]
    rw [hx] at hcl hok
    obtain ⟨o0, o1, o2, o3, o4⟩ := hok
    obtain ⟨g1, ⟨g2, g3, g4⟩, ⟨g5, g6, g7, g8⟩, ⟨g9, g10⟩, g11, g12, g13⟩ := hcl
    rw [hi] at g3 g5 g6 g7 g8 g12
    have hTy : prT n lk y.2 := ⟨⟨by rw [frm_f g13 (r := 0) (j := 28) rfl]; exact t1, t2, by rw [frm_a g13 (r := 22) rfl]; exact t3⟩, by omega, by omega⟩
    have hb := hlk p' (by omega)
    rw [e0, g1]
    unfold fM_law_c26
    simp only [qlet, qlp]
    rw [if_neg (show ¬ (1 : Int) = 0 by decide), g2, frm_f g13 (r := 0) (j := 28) rfl, t1]
    by_cases h1 : p' < n
    · have h1' : lk p' ≠ -1 := by
        have := hTy.1.2.2 p' (by omega)
        rw [if_pos h1] at this
        have hbd := ia_bd (a := y.2 22 p') (b := 255) (by decide) (by decide)
        omega
      rw [if_pos h1]
      have htk := takes_is hTy 59
      rw [g2] at htk
      simp only [h1', if_false]
      by_cases h2 : lk p' = 59
      · simp only [h2, if_true]
        obtain ⟨k1, k2⟩ := htk.1 h2
        rw [k1, k2, if_neg (show ¬ (1 : Int) = 0 by decide)]
        have eC : (qu y.2 0 (fd 27) (p' + 1)) 0 (fd 28) = y.2 0 (fd 28) ∧ (qu y.2 0 (fd 27) (p' + 1)) 22 = y.2 22 ∧ (qu y.2 0 (fd 27) (p' + 1)) 0 (fd 31) = y.2 0 (fd 31) ∧ (qu y.2 0 (fd 27) (p' + 1)) 0 (fd 33) = y.2 0 (fd 33) ∧ (∀ r : Nat, r ≠ 0 → (qu y.2 0 (fd 27) (p' + 1)) r = y.2 r) := ⟨by simp [qu_is, fd_eq], by funext i; simp [qu_is], by simp [qu_is, fd_eq], by simp [qu_is, fd_eq], fun r hr => by funext i; simp [qu_is, hr]⟩
        have e27 : (qu y.2 0 (fd 27) (p' + 1)) 0 (fd 27) = p' + 1 := qu_at _ _ _ _
        generalize qu y.2 0 (fd 27) (p' + 1) = C at eC e27 ⊢
        obtain ⟨c1, c2, c3, c4, c5⟩ := eC
        have hTC : prT n lk C := ⟨⟨by rw [c1, frm_f g13 (r := 0) (j := 28) rfl]; exact t1, t2, by rw [c2]; exact hTy.1.2.2⟩, by omega, by omega⟩
        have ih := clausesM hlk k F (i + 1) C (by omega) (by omega) hTC (by rw [c4, g3]) (by omega) (by omega)
        rw [c3, g4, e27] at ih
        have e3 : (if (fM_readsClause C).1 = 0 then fM_law_L F 26 [0] (fM_readsClause C).2 else fM_law_L F 26 [1] (fM_readsClause C).2) = fM_law_L F 26 [(fM_readsClause C).1] (fM_readsClause C).2 := by
          have hcl2 := clauseM hlk hTC
          rcases hx3 : p_clause lk (C 0 (fd 33)) (C 0 (fd 31)) (C 0 (fd 27)) with f | ⟨p'', x'⟩
          · rw [hx3] at hcl2
            have := (hcl2 (by rw [c4, g3]; omega)).1
            rw [this, if_pos rfl]
          · rw [hx3] at hcl2
            rw [hcl2.1, if_neg (show ¬ (1 : Int) = 0 by decide)]
        rw [e3]
        generalize fM_law_L F 26 [(fM_readsClause C).1] (fM_readsClause C).2 = w at ih ⊢
        rcases hy : p_text lk k (i + 1) (B 0 (fd 31) + x.2.1.length + x.2.2.length) (p' + 1) with f | T
        · rw [hy] at ih
          exact ih
        · rw [hy] at ih
          obtain ⟨i0, i1, i2, i3, i4, i5⟩ := ih
          rw [c3, g4] at i3 i4
          have hj := i5 i hi0 (by omega)
          rw [c5 25 (by decide), c5 26 (by decide), c5 27 (by decide), c5 28 (by decide)] at hj
          refine ⟨i0, by rw [i1]; simp only [List.length_cons]; omega, by rw [i2]; simp only [List.length_cons]; omega, ⟨⟨hj.1.trans g5, hj.2.1.trans g6, hj.2.2.1.trans g7, hj.2.2.2.trans g8, ?_, ?_⟩, i3⟩, fun k k0 hk => ?_, fun k k0 hk => ?_⟩
          · refine mcat_ext g9 (fun k k0 k1 => ?_)
            rw [List.length_map] at k1
            rw [i4 k (by omega) (by omega), c5 23 (by decide)]
          · refine mcat_ext g10 (fun k k0 k1 => ?_)
            rw [List.length_map] at k1
            rw [i4 k (by omega) (by omega), c5 23 (by decide)]
          · rw [i4 k k0 (by omega), c5 23 (by decide)]
            exact g11 k hk
          · have h7 := i5 k k0 (by omega)
            have h5 := g12 k hk
            rw [c5 25 (by decide), c5 26 (by decide), c5 27 (by decide), c5 28 (by decide)] at h7
            exact ⟨h7.1.trans h5.1, h7.2.1.trans h5.2.1, h7.2.2.1.trans h5.2.2.1, h7.2.2.2.trans h5.2.2.2⟩
      · simp only [h2, if_false]
        obtain ⟨k1, k2⟩ := htk.2 h2
        rw [k1, if_pos rfl]
        obtain ⟨F, rfl⟩ : ∃ F', F = F' + 1 := ⟨F - 1, by omega⟩
        show (fM_law_c26 (fM_law_L F) 0 (fM_takes 59 y.2).2).1 = _ ∧ (fM_law_c26 (fM_law_L F) 0 (fM_takes 59 y.2).2).2 0 (fd 26) = 0
        unfold fM_law_c26
        simp only [qlet]
        rw [if_pos trivial]
        refine ⟨?_, (by dsimp only; exact qu_at _ _ _ _)⟩
        show (qu (fM_takes 59 y.2).2 0 (fd 26) 0) 0 (fd 29) = _
        rw [← k2]
        simp [qu_is, fd_eq]
    · rw [if_neg h1]
      have h1' : lk p' = -1 := hb.2 (by omega)
      simp only [h1', if_true]
      generalize hC : qu (qu y.2 0 (fd 26) 0) 0 (fd 35) ((qu y.2 0 (fd 26) 0) 0 (fd 33)) = C
      have eC : C 0 (fd 31) = y.2 0 (fd 31) ∧ C 0 (fd 33) = y.2 0 (fd 33) ∧ C 0 (fd 35) = y.2 0 (fd 33) ∧ C 0 (fd 26) = 0 ∧ (∀ r : Nat, r ≠ 0 → C r = y.2 r) := by
        rw [← hC]
        exact ⟨by simp [qu_is, fd_eq], by simp [qu_is, fd_eq], by simp [qu_is, fd_eq], by simp [qu_is, fd_eq], fun r hr => by funext i; simp [qu_is, hr]⟩
      clear hC
      obtain ⟨c1, c2, c3, c4, c5⟩ := eC
      obtain ⟨F', B1, i0, i1, i2, i3, i4⟩ := lawM_c59 300 F 0 C (by omega) (Int.le_refl _) (by rw [c1, g4]; omega)
      rw [i1]
      have hf33 : B1 0 (fd 33) = i + 1 := by rw [frm_f i4 (r := 0) (j := 33) rfl, c2, g3]
      have hf35 : B1 0 (fd 35) = i + 1 := by rw [frm_f i4 (r := 0) (j := 35) rfl, c3, g3]
      obtain ⟨j1, j2, j3, j4⟩ := lawM_c75 100 F' 0 B1 (by omega) (Int.le_refl _) (by rw [hf33]; omega)
      generalize fM_law_L F' 75 [0] B1 = w at j1 j2 j3 j4 ⊢
      rw [hf33] at j1 j2
      have hrow : ∀ r : Nat, (r = 25 ∨ r = 26 ∨ r = 27 ∨ r = 28) → B1 r = y.2 r := by
        intro r hr
        rcases hr with rfl | rfl | rfl | rfl
        · rw [frm_a i4 (r := 25) rfl, c5 25 (by decide)]
        · rw [frm_a i4 (r := 26) rfl, c5 26 (by decide)]
        · rw [frm_a i4 (r := 27) rfl, c5 27 (by decide)]
        · rw [frm_a i4 (r := 28) rfl, c5 28 (by decide)]
      have h29 : ∀ k, 0 ≤ k → k < y.2 0 (fd 31) → w.2 29 k = y.2 23 k := fun k k0 k1 => by
        rw [frm_a j4 (r := 29) rfl, i2 k k0 (by rw [c1]; exact k1), c5 23 (by decide)]
      rw [hrow 25 (by omega), hrow 26 (by omega), hrow 27 (by omega), hrow 28 (by omega)] at j2
      have hj := j2 i hi0 (by omega)
      refine ⟨by rw [frm_f j4 (r := 0) (j := 26) rfl, frm_f i4 (r := 0) (j := 26) rfl, c4], by rw [j1]; rfl, by rw [frm_f j4 (r := 0) (j := 35) rfl, hf35]; rfl, ⟨⟨hj.1.trans g5, hj.2.1.trans g6, hj.2.2.1.trans g7, hj.2.2.2.trans g8, ?_, ?_⟩, trivial⟩, fun k k0 hk => ?_, fun k k0 hk => ?_⟩
      · refine mcat_ext g9 (fun k k0 k1 => ?_)
        rw [List.length_map] at k1
        exact h29 k (by omega) (by omega)
      · refine mcat_ext g10 (fun k k0 k1 => ?_)
        rw [List.length_map] at k1
        exact h29 k (by omega) (by omega)
      · rw [h29 k k0 (by omega)]
        exact g11 k hk
      · have h7 := j2 k k0 (by omega)
        have h5 := g12 k hk
        exact ⟨h7.1.trans h5.1, h7.2.1.trans h5.2.1, h7.2.2.1.trans h5.2.2.1, h7.2.2.2.trans h5.2.2.2⟩
theorem lawM {n : Int} {lk : Int → Int} {A : qA} (h1 : 1 ≤ n) (h2 : n ≤ 200) (h3 : n ≤ A 0 (fd 26)) (hlk : lkok n lk) (he : ∀ p, 0 ≤ p → lk p = if p < n then ia (A 22 p) 255 else -1) : (fM_law n A).2 0 (fd 26) = 0 ∧ match p_text lk 15 0 0 0 with | .inl f => (fM_law n A).1 = f | .inr T => (fM_law n A).1 = T.length ∧ txM (fM_law n A).2 T := by
  unfold fM_law
  simp only [qlet, qlp]
  rw [if_pos (show 1 ≤ n ∧ n ≤ 200 from ⟨h1, h2⟩), if_neg (show ¬ A 0 (fd 26) < n by omega)]
  generalize hB : qu (qu (qu (qu A 0 (fd 27) 0) 0 (fd 28) n) 0 (fd 31) 0) 0 (fd 33) 0 = B
  have e9 : B 0 (fd 28) = n ∧ B 0 (fd 27) = 0 ∧ B 0 (fd 31) = 0 ∧ B 0 (fd 33) = 0 ∧ B 22 = A 22 := by
    rw [← hB]
    refine ⟨?_, ?_, ?_, ?_, ?_⟩
    all_goals first | (funext i; simp [qu_is]; done) | (simp [qu_is, fd_eq]; done)
  clear hB
  obtain ⟨u1, u2, u3, u4, u5⟩ := e9
  have h9 := clausesM hlk 15 100000 0 B (by decide) (by decide) ⟨⟨u1, h2, by rw [u5]; exact he⟩, by omega, by omega⟩ u4 (by decide) (by decide)
  rw [u2, u3] at h9
  rcases hx : p_text lk 15 0 0 0 with f | T
  · rw [hx] at h9
    exact ⟨h9.2, h9.1⟩
  · rw [hx] at h9
    obtain ⟨g0, g1, g2, g3, _, _⟩ := h9
    rw [u3] at g3
    exact ⟨g0, by rw [g1]; omega, by rw [g2]; omega, g3⟩
