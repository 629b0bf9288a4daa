/-! WATER: drops that come into kitchens -/
theorem RB_19 {A1 A2 B1 B2 : qA} {W1 W2 : List Nat} {V1 V2 : List (Nat × Nat)} (h : RB A1 A2) (f1 : frm W1 V1 A1 B1) (f2 : frm W2 V2 A2 B2) (c1 : okFr [11, 12, 13, 16, 17, 18, 20, 21, 22] [(15, 8), (0, 11)] W1 V1 = true) (c2 : okFr [11, 12, 13, 14, 15, 16, 18, 20, 21] [(0, 0), (0, 1)] W2 V2 = true) (hx : ∀ x, 0 ≤ x → x < 8 → B1 19 x = B2 17 x) : RB B1 B2 := by
  obtain ⟨a, b⟩ := okFr_a f1 c1
  obtain ⟨c, d⟩ := okFr_a f2 c2
  have b1 := b (15, 8) (by decide)
  have b2 := b (0, 11) (by decide)
  have d1 := d (0, 0) (by decide)
  have d2 := d (0, 1) (by decide)
  obtain ⟨h1, h2, h3, h4, h5⟩ := h
  refine ⟨fun k k0 k1 => ?_, fun x x0 x1 => ?_, by rw [b1, d1]; exact h3, by rw [b2, d2]; exact h4, by rw [d2]; exact h5⟩
  · rw [a 11 (by decide), a 12 (by decide), a 13 (by decide), c 11 (by decide), c 12 (by decide), c 13 (by decide)]
    exact h1 k k0 k1
  · rw [a 16 (by decide), a 17 (by decide), a 18 (by decide), a 20 (by decide), a 21 (by decide), a 22 (by decide), c 14 (by decide), c 15 (by decide), c 16 (by decide), c 18 (by decide), c 20 (by decide), c 21 (by decide), hx x x0 x1]
    obtain ⟨u1, ⟨_, u2⟩, u3, u4⟩ := h2 x x0 x1
    exact ⟨u1, ⟨rfl, u2⟩, u3, u4⟩
theorem came_L : ∀ (m F1 F2 : Nat) (s k : Int) (B1 B2 : qA), k + m = 8 → 0 ≤ k → (∀ x, 0 ≤ x → x < 8 → B1 19 x = B2 17 x ∧ B1 45 x = B2 36 x) → (fC_letWaterFlow_L (F1 + m + 1) 13 [s, k] B1).1 = (fM_water_L (F2 + m + 1) 21 [s, k] B2).1 ∧ frm [19] [] B1 (fC_letWaterFlow_L (F1 + m + 1) 13 [s, k] B1).2 ∧ frm [17] [] B2 (fM_water_L (F2 + m + 1) 21 [s, k] B2).2 ∧ ∀ x, 0 ≤ x → x < 8 → (fC_letWaterFlow_L (F1 + m + 1) 13 [s, k] B1).2 19 x = (fM_water_L (F2 + m + 1) 21 [s, k] B2).2 17 x
  | 0, F1, F2, s, k, B1, B2, hm, k0, h => by
    rw [fC_letWaterFlow_L13, fM_water_L21]
    unfold fC_letWaterFlow_c13 fM_water_c21
    simp only [qlet]
    rw [if_neg (show ¬ k < 8 by omega), if_neg (show ¬ k < 8 by omega)]
    exact ⟨rfl, frm_0 _ _ _, frm_0 _ _ _, fun x x0 x1 => (h x x0 x1).1⟩
  | m + 1, F1, F2, s, k, B1, B2, hm, k0, h => by
    rw [show F1 + (m + 1) + 1 = (F1 + m + 1) + 1 by omega, show F2 + (m + 1) + 1 = (F2 + m + 1) + 1 by omega, fC_letWaterFlow_L13, fM_water_L21]
    unfold fC_letWaterFlow_c13 fM_water_c21
    simp only [qlet]
    obtain ⟨h1, h2⟩ := h k k0 (by omega)
    rw [if_pos (show k < 8 by omega), if_pos (show k < 8 by omega), show wI (k + 1) = k + 1 from wI_id ⟨by omega, by omega⟩, h1, h2]
    obtain ⟨r1, r2, r3, r4⟩ := came_L m F1 F2 (wI (s + B2 36 k)) (k + 1) (qu B1 19 k (wI (B2 17 k + B2 36 k))) (qu B2 17 k (wI (B2 17 k + B2 36 k))) (by omega) (by omega) (fun x x0 x1 => by
      obtain ⟨g1, g2⟩ := h x x0 x1
      rw [qu_ne (show (45 : Nat) ≠ 19 by decide), qu_ne (show (36 : Nat) ≠ 17 by decide)]
      refine ⟨?_, g2⟩
      by_cases q : x = k
      · rw [q, qu_at, qu_at]
      · rw [qu_nj q, qu_nj q]; exact g1)
    exact ⟨r1, frm_c (frm_q (frm_0 _ _ _) rfl) r2 rfl, frm_c (frm_q (frm_0 _ _ _) rfl) r3 rfl, r4⟩
theorem waterM_2 : ∀ (m F : Nat) (x : Int) (B : qA), x + m = 8 → 0 ≤ x → (∀ j, 0 ≤ j → j < x → B 36 j = B 14 j) → ∃ C, frm [36] [] B C ∧ (∀ j, 0 ≤ j → j < 8 → C 36 j = B 14 j) ∧ fM_water_L (F + m + 1) 2 [x] B = fM_water_L F 21 [0, 0] (fM_flows C) := by
  intro m
  induction m with
  | zero =>
    intro F x B hm h0 hz
    rw [fM_water_L2]
    unfold fM_water_c2
    rw [if_neg (show ¬ x < 8 by omega), qlet.eq_1]
    exact ⟨B, frm_0 _ _ _, fun j j0 j1 => hz j j0 (by omega), rfl⟩
  | succ m ih =>
    intro F x B hm h0 hz
    have e14 : (qu B 36 x (B 14 x)) 14 = B 14 := qu_ne (by decide)
    obtain ⟨C, c1, c2, c3⟩ := ih F (x + 1) (qu B 36 x (B 14 x)) (by omega) (by omega) (fun j j0 j1 => by
      rw [e14]
      by_cases q : j = x
      · rw [q, qu_at]
      · rw [qu_nj q]; exact hz j j0 (by omega))
    rw [show F + (m + 1) + 1 = (F + m + 1) + 1 by omega, fM_water_L2]
    unfold fM_water_c2
    rw [if_pos (show x < 8 by omega), qlet.eq_1, qlet.eq_1, qlet.eq_1, show wI (x + 1) = x + 1 from wI_id ⟨by omega, by omega⟩]
    exact ⟨C, frm_c (frm_q (frm_0 _ _ _) rfl) c1 rfl, fun j j0 j1 => by rw [c2 j j0 j1, e14], c3⟩
/-- ways, told in the class -/
def WY (A1 : qA) : Prop := ∀ d, 0 ≤ d → d < 48 → 0 ≤ A1 5 d ∧ A1 5 d ≤ 3
theorem WH_of {A1 A2 : qA} (h : GR A1 A2) (hy : WY A1) : WH A1 A2 := by
  refine ⟨fun d d0 d1 => ⟨h.1.1.1 d d0 d1, fun z => ?_⟩, fun k k0 k1 => ⟨(h.2.1.1 k k0 k1).1.1, (h.2.1.1 k k0 k1).2.1⟩⟩
  obtain ⟨a, b⟩ := h.1.2 d d0 d1 trivial
  have y := hy d d0 d1
  rw [(a.2 z).1.2.2.2] at y
  exact ⟨(a.2 z).1.2.2.2, (b z).1.1, (b z).2.2.1, y⟩
theorem flow_is {A1 A2 : qA} (h : GR A1 A2) (hy : WY A1) : (fC_letWaterFlow A1).1 = (fM_water A2).1 ∧ GR (fC_letWaterFlow A1).2 (fM_water A2).2 ∧ frm [45, 46, 9, 19] [] A1 (fC_letWaterFlow A1).2 ∧ frm [36, 37, 10, 17] [] A2 (fM_water A2).2 := by
  obtain ⟨C, c1, c2, c3⟩ := waterM_2 8 99991 0 A2 (by decide) (by decide) (fun j j0 j1 => by omega)
  have e1 : fC_letWaterFlow A1 = fC_letWaterFlow_L 100000 13 [0, 0] (fC_pourA A1) := by rw [fC_letWaterFlow.eq_1]; repeat rw [qlet.eq_1]
  have e2 : fM_water A2 = fM_water_L 99991 21 [0, 0] (fM_flows C) := c3
  have hG : GR A1 C := ⟨⟨RHG_e h.1.1 rfl (frm_a c1 rfl), fun d a b s => ⟨RN_e (h.1.2 d a b s).1 rfl (by rw [frm_a c1 (r := 1) rfl]) (at_0 _ _ _) (at_f c1 rfl), RK_e (h.1.2 d a b s).2 (by rw [frm_a c1 (r := 1) rfl]) (at_0 _ _ _) (at_f c1 rfl)⟩⟩, RB_f h.2.1 (frm_0 [] [] A1) c1 rfl rfl, RF_f h.2.2.1 (frm_0 [] [] A1) c1 rfl rfl, RL_f h.2.2.2 (frm_0 [] [] A1) c1 rfl rfl⟩
  obtain ⟨⟨p1, p2⟩, p3, p4⟩ := pourA_is (WH_of hG hy) (fun i i0 i1 => by
    obtain ⟨u, _, _, v⟩ := h.2.1.2.1 i i0 i1
    rw [c2 i i0 i1]
    exact ⟨u.1, v⟩) (fun d d0 d1 z => ((hG.1.2 d d0 d1 trivial).1.2 z).2.2)
  generalize fC_pourA A1 = P1 at e1 p1 p3 p4
  generalize fM_flows C = P2 at e2 p2 p3 p4
  obtain ⟨q1, q2, q3, q4⟩ := came_L 8 99991 99982 0 0 P1 P2 (by decide) (by decide) (fun x x0 x1 => by
    refine ⟨?_, (p3 x x0 x1).1⟩
    rw [frm_a p1 (r := 19) rfl, frm_a p2 (r := 17) rfl]
    exact (hG.2.1.2.1 x x0 x1).2.1.1)
  rw [show 99991 + 8 + 1 = 100000 from rfl, ← e1] at q1 q2 q4
  rw [show 99982 + 8 + 1 = 99991 from rfl, ← e2] at q1 q3 q4
  generalize fC_letWaterFlow A1 = y1 at q1 q2 q4 ⊢
  generalize fM_water A2 = y2 at q1 q3 q4 ⊢
  have g1 : frm [45, 46, 9, 19] [] A1 y1.2 := frm_c (frm_c (frm_0 _ _ _) p1 rfl) q2 rfl
  have g2 : frm [36, 37, 10, 17] [] C y2.2 := frm_c (frm_c (frm_0 _ _ _) p2 rfl) q3 rfl
  have e1 : y1.2 1 (fd 0) = A1 1 (fd 0) := frm_f g1 rfl
  have e2 : y2.2 1 = C 1 := frm_a g2 rfl
  refine ⟨q1, ⟨⟨RHG_e hG.1.1 e1 e2, fun d a b s => ⟨?_, RK_e (hG.1.2 d a b s).2 (by rw [e2]) (at_f g1 rfl) (at_f g2 rfl)⟩⟩, RB_19 hG.2.1 g1 g2 rfl rfl q4, RF_f hG.2.2.1 g1 g2 rfl rfl, RL_f hG.2.2.2 g1 g2 rfl rfl⟩, g1, frm_c (frm_c (frm_0 _ _ _) c1 rfl) g2 rfl⟩
  obtain ⟨u1, u2⟩ := (hG.1.2 d a b s).1
  refine ⟨by rw [HG_k e1 d, e2]; exact u1, fun z => ?_⟩
  rw [e2] at z
  obtain ⟨u3, u4, u5⟩ := u2 z
  rw [frm_a g1 (r := 2) rfl, frm_a g1 (r := 3) rfl, frm_a g1 (r := 4) rfl, frm_a g1 (r := 5) rfl, frm_a g1 (r := 8) rfl, frm_a g2 (r := 3) rfl, frm_a g2 (r := 4) rfl, frm_a g2 (r := 5) rfl, frm_a g2 (r := 6) rfl, frm_a g2 (r := 9) rfl, frm_a q2 (r := 9) rfl, frm_a q3 (r := 10) rfl]
  exact ⟨u3, u4, p4 d a b z (Or.inr rfl)⟩
