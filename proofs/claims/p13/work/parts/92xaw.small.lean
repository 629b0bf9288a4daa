/-! CALLS THAT TELL SOMETHING: both gardens -/
/-- not seen as a plain unfolding: simp then leaves a proof that the kernel needn't unfold for -/
theorem qlet_e {α β : Type} (x : α) (f : α → β) : qlet x f = f x := (qlet.eq_1 x f).trans (Eq.refl (f x))
theorem qu_nn {A : qA} {r b : Nat} {j v i : Int} (h : i ≠ j) : qu A r j v b i = A b i := if_neg (fun q => h q.2)
theorem GR_B {A1 A2 B1 B2 : qA} {W1 W2 : List Nat} {V1 V2 : List (Nat × Nat)} (h : GR A1 A2) (hb : RB B1 B2) (f1 : frm W1 V1 A1 B1) (f2 : frm W2 V2 A2 B2) (c1 : (okFr aC1 [(1, 0)] W1 V1 && (okFr aC3 [(24, 9)] W1 V1 && okFr aC4 [(34, 4), (36, 7), (71, 7)] W1 V1)) = true) (c2 : (okFr aM1 [] W2 V2 && (okFr aM3 [(0, 2)] W2 V2 && okFr aM4 [(0, 35)] W2 V2)) = true) : GR B1 B2 := by
  simp only [Bool.and_eq_true] at c1 c2
  exact ⟨RCS_of (RC_f (GR_C h) f1 f2 c1.1 c2.1) _, hb, RF_f h.2.2.1 f1 f2 c1.2.1 c2.2.1, RL_f h.2.2.2 f1 f2 c1.2.2 c2.2.2⟩
theorem kind_GR (k n r w : Int) {A1 A2 : qA} (h : GR A1 A2) : GR (fC_kind k n r w A1) (fM_kind k n r w A2) := by
  unfold fC_kind fM_kind
  simp only [qlet]
  by_cases h1 : 0 ≤ k ∧ k ≤ 5
  · rw [if_pos h1, if_pos h1]
    by_cases h2 : 0 ≤ n ∧ n ≤ 20
    · rw [if_pos h2, if_pos h2]
      by_cases h3 : 1 ≤ r ∧ r ≤ 200
      · rw [if_neg (show ¬ r < 1 by omega), if_neg (show ¬ 200 < r by omega), if_pos h3]
        by_cases h4 : 0 ≤ w ∧ w ≤ 99
        · rw [if_pos h4, if_pos h4]
          have f1 : frm [11, 12, 13] [] A1 (qu (qu (qu A1 11 k n) 12 k r) 13 k w) := frm_q (frm_q (frm_q (frm_0 _ _ _) rfl) rfl) rfl
          have f2 : frm [11, 12, 13] [] A2 (qu (qu (qu A2 11 k n) 12 k r) 13 k w) := frm_q (frm_q (frm_q (frm_0 _ _ _) rfl) rfl) rfl
          refine GR_B h ?_ f1 f2 rfl rfl
          obtain ⟨b1, b2, b3, b4, b5⟩ := h.2.1
          refine ⟨fun x x0 x1 => ?_, fun x x0 x1 => ?_, ?_, ?_, ?_⟩
          · obtain ⟨⟨u1, u2, u3⟩, u4, u5, u6⟩ := b1 x x0 x1
            by_cases q : x = k
            · subst q
              have e : ∀ B : qA, (qu (qu (qu B 11 x n) 12 x r) 13 x w) 11 x = n ∧ (qu (qu (qu B 11 x n) 12 x r) 13 x w) 12 x = r ∧ (qu (qu (qu B 11 x n) 12 x r) 13 x w) 13 x = w := fun B => ⟨by simp [qu_is], by simp [qu_is], by simp [qu_is]⟩
              rw [(e A1).1, (e A1).2.1, (e A1).2.2, (e A2).1, (e A2).2.1, (e A2).2.2]
              exact ⟨⟨rfl, rfl, rfl⟩, h2, h3, h4⟩
            · simp only [qu_nn q]
              exact ⟨⟨u1, u2, u3⟩, u4, u5, u6⟩
          · rw [frm_a f1 (r := 16) rfl, frm_a f1 (r := 17) rfl, frm_a f1 (r := 18) rfl, frm_a f1 (r := 19) rfl, frm_a f1 (r := 20) rfl, frm_a f1 (r := 21) rfl, frm_a f1 (r := 22) rfl, frm_a f2 (r := 14) rfl, frm_a f2 (r := 15) rfl, frm_a f2 (r := 16) rfl, frm_a f2 (r := 17) rfl, frm_a f2 (r := 18) rfl, frm_a f2 (r := 20) rfl, frm_a f2 (r := 21) rfl]
            exact b2 x x0 x1
          · rw [frm_f f1 (r := 15) (j := 8) rfl, frm_f f2 (r := 0) (j := 0) rfl]; exact b3
          · rw [frm_f f1 (r := 0) (j := 11) rfl, frm_f f2 (r := 0) (j := 1) rfl]; exact b4
          · rw [frm_f f2 (r := 0) (j := 1) rfl]; exact b5
        · rw [if_neg h4, if_neg h4]; exact h
      · rw [if_neg h3]
        by_cases h5 : r < 1
        · rw [if_pos h5]; exact h
        · rw [if_neg h5, if_pos (show 200 < r by omega)]; exact h
    · rw [if_neg h2, if_neg h2]; exact h
  · rw [if_neg h1, if_neg h1]; exact h
/-- rows by columns: one or two of them told anew -/
theorem RB_col {A1 A2 B1 B2 : qA} {W1 W2 : List Nat} {V1 V2 : List (Nat × Nat)} (h : RB A1 A2) (f1 : frm W1 V1 A1 B1) (f2 : frm W2 V2 A2 B2) (c1 : okFr [11, 12, 13] [(15, 8), (0, 11)] W1 V1 = true) (c2 : okFr [11, 12, 13] [(0, 0), (0, 1)] W2 V2 = true) (hx : ∀ x, 0 ≤ x → x < 8 → (B1 16 x = B2 14 x ∧ B1 17 x = B2 15 x ∧ B1 18 x = B2 16 x) ∧ (B1 19 x = B2 17 x ∧ B1 20 x = B2 18 x) ∧ (B1 21 x = B2 20 x ∧ B1 22 x = B2 21 x) ∧ (0 ≤ B2 14 x ∧ B2 14 x ≤ 99)) : RB B1 B2 := by
  obtain ⟨a, b⟩ := okFr_a f1 c1
  obtain ⟨c, d⟩ := okFr_a f2 c2
  have b1 := b (15, 8) (by decide)
  have b2 := b (0, 11) (by decide)
  have d1 := d (0, 0) (by decide)
  have d2 := d (0, 1) (by decide)
  obtain ⟨h1, h2, h3, h4, h5⟩ := h
  refine ⟨fun k k0 k1 => ?_, hx, by rw [b1, d1]; exact h3, by rw [b2, d2]; exact h4, by rw [d2]; exact h5⟩
  rw [a 11 (by decide), a 12 (by decide), a 13 (by decide), c 11 (by decide), c 12 (by decide), c 13 (by decide)]
  exact h1 k k0 k1
theorem valve_GR (c d : Int) {A1 A2 : qA} (h : GR A1 A2) : GR (fC_valve c d A1) (fM_valve c d A2) := by
  unfold fC_valve fM_valve
  simp only [qlet]
  by_cases h1 : 0 ≤ c ∧ c ≤ 7
  · rw [if_pos h1, if_pos h1]
    by_cases h2 : 0 ≤ d ∧ d ≤ 99
    · rw [if_pos h2, if_pos h2]
      have f1 : frm [16] [] A1 (qu A1 16 c d) := frm_q (frm_0 _ _ _) rfl
      have f2 : frm [14] [] A2 (qu A2 14 c d) := frm_q (frm_0 _ _ _) rfl
      refine GR_B h (RB_col h.2.1 f1 f2 rfl rfl (fun x x0 x1 => ?_)) f1 f2 rfl rfl
      obtain ⟨⟨u1, u2⟩, u3, u4, u5⟩ := h.2.1.2.1 x x0 x1
      rw [frm_a f1 (r := 17) rfl, frm_a f1 (r := 18) rfl, frm_a f1 (r := 19) rfl, frm_a f1 (r := 20) rfl, frm_a f1 (r := 21) rfl, frm_a f1 (r := 22) rfl, frm_a f2 (r := 15) rfl, frm_a f2 (r := 16) rfl, frm_a f2 (r := 17) rfl, frm_a f2 (r := 18) rfl, frm_a f2 (r := 20) rfl, frm_a f2 (r := 21) rfl]
      by_cases q : x = c
      · rw [q, qu_at, qu_at]
        rw [q] at u2 u3 u4
        exact ⟨⟨rfl, u2⟩, u3, u4, h2⟩
      · rw [qu_nj q, qu_nj q]
        exact ⟨⟨u1, u2⟩, u3, u4, u5⟩
    · rw [if_neg h2, if_neg h2]; exact h
  · rw [if_neg h1, if_neg h1]; exact h
theorem kitchen_GR (c o f : Int) {A1 A2 : qA} (h : GR A1 A2) : GR (fC_kitchen c o f A1) (fM_kitchen c o f A2) := by
  unfold fC_kitchen fM_kitchen
  simp only [qlet]
  by_cases h1 : 0 ≤ c ∧ c ≤ 7
  · rw [if_pos h1, if_pos h1]
    by_cases h2 : 0 ≤ o ∧ o ≤ 7
    · rw [if_pos h2, if_pos h2]
      by_cases h3 : 0 ≤ f ∧ f ≤ 9999
      · rw [if_pos h3, if_pos h3]
        have f1 : frm [17, 18] [] A1 (qu (qu A1 17 c o) 18 c f) := frm_q (frm_q (frm_0 _ _ _) rfl) rfl
        have f2 : frm [15, 16] [] A2 (qu (qu A2 15 c o) 16 c f) := frm_q (frm_q (frm_0 _ _ _) rfl) rfl
        refine GR_B h (RB_col h.2.1 f1 f2 rfl rfl (fun x x0 x1 => ?_)) f1 f2 rfl rfl
        obtain ⟨⟨u1, u2, u6⟩, u3, u4, u5⟩ := h.2.1.2.1 x x0 x1
        rw [frm_a f1 (r := 16) rfl, frm_a f1 (r := 19) rfl, frm_a f1 (r := 20) rfl, frm_a f1 (r := 21) rfl, frm_a f1 (r := 22) rfl, frm_a f2 (r := 14) rfl, frm_a f2 (r := 17) rfl, frm_a f2 (r := 18) rfl, frm_a f2 (r := 20) rfl, frm_a f2 (r := 21) rfl]
        by_cases q : x = c
        · subst q
          have e1 : (qu (qu A1 17 x o) 18 x f) 17 x = o := by simp [qu_is]
          have e2 : (qu (qu A2 15 x o) 16 x f) 15 x = o := by simp [qu_is]
          rw [e1, e2, qu_at, qu_at]
          exact ⟨⟨u1, rfl, rfl⟩, u3, u4, u5⟩
        · simp only [qu_nn q]
          exact ⟨⟨u1, u2, u6⟩, u3, u4, u5⟩
      · rw [if_neg h3, if_neg h3]; exact h
    · rw [if_neg h2, if_neg h2]; exact h
  · rw [if_neg h1, if_neg h1]; exact h
theorem rope_GR (c b w : Int) {A1 A2 : qA} (h : GR A1 A2) : GR (fC_rope c b w A1) (fM_rope c b w A2) := by
  unfold fC_rope fM_rope
  simp only [qlet]
  by_cases h1 : 0 ≤ c ∧ c ≤ 7
  · rw [if_pos h1, if_pos h1]
    by_cases h2 : 0 ≤ b ∧ b ≤ 999
    · rw [if_pos h2, if_pos h2]
      by_cases h3 : 0 ≤ w ∧ w ≤ 99
      · rw [if_pos h3, if_pos h3]
        have f1 : frm [21, 22] [] A1 (qu (qu A1 21 c b) 22 c w) := frm_q (frm_q (frm_0 _ _ _) rfl) rfl
        have f2 : frm [20, 21] [] A2 (qu (qu A2 20 c b) 21 c w) := frm_q (frm_q (frm_0 _ _ _) rfl) rfl
        refine GR_B h (RB_col h.2.1 f1 f2 rfl rfl (fun x x0 x1 => ?_)) f1 f2 rfl rfl
        obtain ⟨u1, u3, ⟨u4, u6⟩, u5⟩ := h.2.1.2.1 x x0 x1
        rw [frm_a f1 (r := 16) rfl, frm_a f1 (r := 17) rfl, frm_a f1 (r := 18) rfl, frm_a f1 (r := 19) rfl, frm_a f1 (r := 20) rfl, frm_a f2 (r := 14) rfl, frm_a f2 (r := 15) rfl, frm_a f2 (r := 16) rfl, frm_a f2 (r := 17) rfl, frm_a f2 (r := 18) rfl]
        by_cases q : x = c
        · subst q
          have e1 : (qu (qu A1 21 x b) 22 x w) 21 x = b := by simp [qu_is]
          have e2 : (qu (qu A2 20 x b) 21 x w) 20 x = b := by simp [qu_is]
          rw [e1, e2, qu_at, qu_at]
          exact ⟨u1, u3, ⟨rfl, rfl⟩, u5⟩
        · simp only [qu_nn q]
          exact ⟨u1, u3, ⟨u4, u6⟩, u5⟩
      · rw [if_neg h3, if_neg h3]; exact h
    · rw [if_neg h2, if_neg h2]; exact h
  · rw [if_neg h1, if_neg h1]; exact h
theorem seed_GR (x : Int) {A1 A2 : qA} (h : GR A1 A2) : GR (fC_seed x A1) (fM_seed x A2) := by
  unfold fC_seed fM_seed
  simp only [qlet]
  rw [qn16]
  by_cases h1 : 0 ≤ x ∧ x ≤ 65535
  · rw [if_pos h1, if_pos h1]
    exact GR_seed h h1.1 h1.2
  · rw [if_neg h1, if_neg h1]; exact h
/-- a cell's number -/
theorem hung_is {A1 A2 : qA} (h : GR A1 A2) (c l : Int) : (((0 ≤ c ∧ c ≤ 7) ∧ (0 ≤ l ∧ l ≤ 5)) ∧ A2 1 (6 * c + l) ≠ 0 → fC_hungCell c l A1 = 6 * c + l) ∧ (¬ (((0 ≤ c ∧ c ≤ 7) ∧ (0 ≤ l ∧ l ≤ 5)) ∧ A2 1 (6 * c + l) ≠ 0) → fC_hungCell c l A1 = -1) := by
  unfold fC_hungCell
  simp only [qlet]
  rw [show c * 6 + l = 6 * c + l by omega]
  by_cases h1 : (0 ≤ c ∧ c ≤ 7) ∧ (0 ≤ l ∧ l ≤ 5)
  · have hg := h.1.1.1 (6 * c + l) (by omega) (by omega)
    rw [if_pos h1]
    by_cases q : A2 1 (6 * c + l) = 0
    · rw [if_neg (fun z => hg.mp z.2.2 q)]
      exact ⟨fun z => absurd q z.2, fun _ => rfl⟩
    · rw [if_pos ⟨by omega, by omega, hg.mpr q⟩]
      exact ⟨fun _ => rfl, fun z => absurd ⟨h1, q⟩ z⟩
  · rw [if_neg h1]
    exact ⟨fun z => absurd z.1 h1, fun _ => rfl⟩
theorem knot_GR (c l n : Int) {A1 A2 : qA} (h : GR A1 A2) : (fC_knot c l n A1).1 = (fM_knot c l n A2).1 ∧ GR (fC_knot c l n A1).2 (fM_knot c l n A2).2 := by
  have hu := hung_is h c l
  unfold fC_knot fM_knot
  simp only [qlet]
  by_cases h1 : ((0 ≤ c ∧ c ≤ 7) ∧ (0 ≤ l ∧ l ≤ 5)) ∧ A2 1 (6 * c + l) ≠ 0
  · have a0 : 0 ≤ 6 * c + l := by omega
    have a1 : 6 * c + l < 48 := by omega
    rw [hu.1 h1, if_pos h1, if_neg (show ¬ 6 * c + l < 0 by omega)]
    by_cases h2 : 0 ≤ n ∧ n ≤ 9999
    · rw [if_pos h2, if_pos h2]
      refine ⟨rfl, ?_⟩
      generalize 6 * c + l = k at a0 a1 h1
      show GR (qu A1 2 k n) (qu A2 3 k n)
      have f1 : frm [2] [] A1 (qu A1 2 k n) := frm_q (frm_0 _ _ _) rfl
      have f2 : frm [3] [] A2 (qu A2 3 k n) := frm_q (frm_0 _ _ _) rfl
      have e1 : (qu A1 2 k n) 1 (fd 0) = A1 1 (fd 0) := frm_f f1 rfl
      refine ⟨⟨RHG_e h.1.1 e1 (frm_a f2 rfl), fun d a b s => ⟨?_, RK_e (h.1.2 d a b s).2 (by rw [frm_a f2 (r := 1) rfl]) (at_f f1 rfl) (at_f f2 rfl)⟩⟩, RB_f h.2.1 f1 f2 rfl rfl, RF_f h.2.2.1 f1 f2 rfl rfl, RL_f h.2.2.2 f1 f2 rfl rfl⟩
      obtain ⟨u1, u2⟩ := (h.1.2 d a b s).1
      refine ⟨by rw [HG_k e1 d, frm_a f2 (r := 1) rfl]; exact u1, fun z => ?_⟩
      rw [frm_a f2 (r := 1) rfl] at z
      obtain ⟨⟨u3, u4, u5, u6⟩, u7⟩ := u2 z
      rw [frm_a f1 (r := 3) rfl, frm_a f1 (r := 4) rfl, frm_a f1 (r := 5) rfl, frm_a f1 (r := 8) rfl, frm_a f1 (r := 9) rfl, frm_a f2 (r := 4) rfl, frm_a f2 (r := 5) rfl, frm_a f2 (r := 6) rfl, frm_a f2 (r := 9) rfl, frm_a f2 (r := 10) rfl]
      refine ⟨⟨?_, u4, u5, u6⟩, u7⟩
      by_cases e : d = k
      · rw [e, qu_at, qu_at]
      · rw [qu_nj e, qu_nj e]; exact u3
    · rw [if_neg h2, if_neg h2]; exact ⟨rfl, h⟩
  · rw [hu.2 h1, if_neg h1, if_pos (by decide)]
    exact ⟨rfl, h⟩
/-- a crop is set -/
theorem GR_crop {A1 A2 B1 B2 : qA} {k v w : Int} (h : GR A1 A2) (k0 : 0 ≤ k) (k1 : k < 48) (v0 : 0 ≤ v) (v1 : v ≤ 5) (w0 : 0 ≤ w) (w1 : w ≤ 200) (hn : A2 7 k = -1) (hh : A2 1 k ≠ 0) (e1 : B1 = fC_setCrop k v w A1) (f2 : frm [7, 8] [] A2 B2) (g : ∀ d, d ≠ k → at_ aRKm d A2 B2) (g7 : B2 7 k = v) (g8 : B2 8 k = w) : GR B1 B2 := by
  have hs : fC_setCrop k v w A1 = qu (qu (qu A1 6 k v) 7 k w) 10 k 0 := rfl
  rw [hs] at e1
  have f1 : frm [6, 7, 10] [] A1 B1 := by rw [e1]; exact frm_q (frm_q (frm_q (frm_0 _ _ _) rfl) rfl) rfl
  have c1 : B1 6 k = v ∧ B1 7 k = w ∧ B1 10 k = 0 := by
    rw [e1]
    refine ⟨?_, ?_, ?_⟩ <;> simp [qu_is]
  have d1 : ∀ d, d ≠ k → at_ aRK d A1 B1 := fun d hd => by
    rw [e1]
    exact at_j (at_j (at_j (at_0 _ _ _) hd) hd) hd
  have h1 : B1 1 (fd 0) = A1 1 (fd 0) := frm_f f1 rfl
  have h2 : B2 1 = A2 1 := frm_a f2 rfl
  have kn := ((h.1.2 k k0 k1 trivial).2 hh).2.1 hn
  refine ⟨⟨RHG_e h.1.1 h1 h2, fun d a b s => ⟨RN_e (h.1.2 d a b s).1 h1 (by rw [h2]) (at_f f1 rfl) (at_f f2 rfl), ?_⟩⟩, RB_f h.2.1 f1 f2 rfl rfl, RF_f h.2.2.1 f1 f2 rfl rfl, RL_f h.2.2.2 f1 f2 rfl rfl⟩
  by_cases q : d = k
  · intro _
    rw [q, c1.1, c1.2.1, c1.2.2, g7, g8, frm_a f2 (r := 2) rfl, kn.2]
    exact ⟨⟨rfl, rfl, rfl⟩, fun z => by omega, ⟨by omega, by omega⟩, Or.inl rfl, ⟨w0, w1⟩⟩
  · exact RK_e (h.1.2 d a b s).2 (by rw [h2]) (d1 d q) (g d q)
theorem plant_GR (c l k w : Int) {A1 A2 : qA} (h : GR A1 A2) : (fC_plant c l k w A1).1 = (fM_plant c l k w A2).1 ∧ GR (fC_plant c l k w A1).2 (fM_plant c l k w A2).2 := by
  have hu := hung_is h c l
  unfold fC_plant fM_plant
  simp only [qlet]
  by_cases h1 : ((0 ≤ c ∧ c ≤ 7) ∧ (0 ≤ l ∧ l ≤ 5)) ∧ A2 1 (6 * c + l) ≠ 0
  · have a0 : 0 ≤ 6 * c + l := by omega
    have a1 : 6 * c + l < 48 := by omega
    have hh := h1.2
    rw [hu.1 h1, if_pos h1, if_neg (show ¬ 6 * c + l < 0 by omega)]
    generalize 6 * c + l = at9 at a0 a1 hh ⊢
    have hc := crop_is (h.1.2 at9 a0 a1 trivial) a0 a1
    by_cases q : A2 7 at9 = -1
    · rw [if_pos q, if_neg (fun z => (hc.mp z).2 q)]
      by_cases h2 : 0 ≤ k ∧ k ≤ 5
      · rw [if_pos h2, if_pos h2]
        by_cases h3 : 0 ≤ w ∧ w ≤ 200
        · rw [if_pos h3, if_pos h3]
          refine ⟨rfl, GR_crop h a0 a1 h2.1 h2.2 h3.1 h3.2 q hh rfl (frm_q (frm_q (frm_0 _ _ _) rfl) rfl) (fun d hd => at_j (at_j (at_0 _ _ _) hd) hd) ?_ ?_⟩
          · simp [qu_is]
          · simp [qu_is]
        · rw [if_neg h3, if_neg h3]; exact ⟨rfl, h⟩
      · rw [if_neg h2, if_neg h2]; exact ⟨rfl, h⟩
    · rw [if_neg q, if_pos (hc.mpr ⟨hh, q⟩)]
      by_cases h2 : 0 ≤ k ∧ k ≤ 5
      · rw [if_pos h2]
        by_cases h3 : 0 ≤ w ∧ w ≤ 200
        · rw [if_pos h3]; exact ⟨rfl, h⟩
        · rw [if_neg h3]; exact ⟨rfl, h⟩
      · rw [if_neg h2]; exact ⟨rfl, h⟩
  · rw [hu.2 h1, if_neg h1, if_pos (by decide)]
    exact ⟨rfl, h⟩
/-- a cell is hung -/
theorem hung_GR {A1 A2 : qA} {k s n f w : Int} (h : GR A1 A2) (k0 : 0 ≤ k) (k1 : k < 48) (ha : k % 6 ≠ 0 → A2 1 (k - 1) ≠ 0) : ∀ B1 B2, B1 = fC_clearCrop k (qu (qu (qu (qu (qu (qu (qu A1 1 (fd 0) (jo (A1 1 (fd 0)) (jsl 1 k))) 3 k s) 2 k n) 4 k f) 5 k w) 8 k 0) 9 k 0) → B2 = qu (qu (fM_empties k (qu (qu (qu (qu (qu A2 1 k 1) 4 k s) 3 k n) 5 k f) 6 k w)) 9 k 0) 10 k 0 → GR B1 B2 := by
  intro B1 B2 h1 h2
  have h1 : B1 = qu (qu (qu (qu (qu (qu (qu (qu (qu (qu A1 1 (fd 0) (jo (A1 1 (fd 0)) (jsl 1 k))) 3 k s) 2 k n) 4 k f) 5 k w) 8 k 0) 9 k 0) 6 k (-1)) 7 k 0) 10 k 0 := h1
  have h2 : B2 = qu (qu (qu (qu (qu (qu (qu (qu (qu (qu A2 1 k 1) 4 k s) 3 k n) 5 k f) 6 k w) 7 k (-1)) 8 k 0) 2 k 0) 9 k 0) 10 k 0 := h2
  have f1 : frm [3, 2, 4, 5, 8, 9, 6, 7, 10] [(1, 0)] A1 B1 := by
    rw [h1]
    exact frm_q (frm_q (frm_q (frm_q (frm_q (frm_q (frm_q (frm_q (frm_q (frm_qf (frm_0 _ _ _) rfl) rfl) rfl) rfl) rfl) rfl) rfl) rfl) rfl) rfl
  have f2 : frm [1, 4, 3, 5, 6, 7, 8, 2, 9, 10] [] A2 B2 := by
    rw [h2]
    exact frm_q (frm_q (frm_q (frm_q (frm_q (frm_q (frm_q (frm_q (frm_q (frm_q (frm_0 _ _ _) rfl) rfl) rfl) rfl) rfl) rfl) rfl) rfl) rfl) rfl
  have e1 : B1 1 (fd 0) = jo (A1 1 (fd 0)) (jsl 1 k) := by
    rw [h1]
    simp [qu_is]
  have e2 : ∀ d, B2 1 d = if d = k then 1 else A2 1 d := fun d => by
    rw [h2]
    by_cases q : d = k
    · rw [if_pos q, q]; simp [qu_is]
    · rw [if_neg q]; simp [qu_is, q]
  have hg : ∀ d, 0 ≤ d → d < 48 → (HG B1 d ↔ (d = k ∨ HG A1 d)) := fun d d0 d1 => HG_or e1 k0 (by omega) d0 (by omega)
  have hr : RHG B1 B2 := by
    refine ⟨fun d d0 d1 => ?_, fun d d0 d1 d2 d3 => ?_⟩
    · rw [hg d d0 d1, e2 d]
      by_cases q : d = k
      · rw [if_pos q]
        exact ⟨fun _ => by decide, fun _ => Or.inl q⟩
      · rw [if_neg q, ← h.1.1.1 d d0 d1]
        exact ⟨fun z => z.resolve_left q, Or.inr⟩
    · rw [e2 d] at d3
      rw [e2 (d - 1)]
      by_cases q : d - 1 = k
      · rw [if_pos q]; decide
      · rw [if_neg q]
        by_cases p : d = k
        · rw [p] at d2 ⊢
          exact ha d2
        · rw [if_neg p] at d3
          exact h.1.1.2 d d0 d1 d2 d3
  have ck : B1 2 k = n ∧ B1 3 k = s ∧ B1 4 k = f ∧ B1 5 k = w ∧ B1 8 k = 0 ∧ B1 9 k = 0 ∧ B1 6 k = -1 ∧ B1 7 k = 0 ∧ B1 10 k = 0 := by
    rw [h1]
    refine ⟨?_, ?_, ?_, ?_, ?_, ?_, ?_, ?_, ?_⟩ <;> simp [qu_is]
  have cm : B2 3 k = n ∧ B2 4 k = s ∧ B2 5 k = f ∧ B2 6 k = w ∧ B2 9 k = 0 ∧ B2 10 k = 0 ∧ B2 7 k = -1 ∧ B2 8 k = 0 ∧ B2 2 k = 0 := by
    rw [h2]
    refine ⟨?_, ?_, ?_, ?_, ?_, ?_, ?_, ?_, ?_⟩ <;> simp [qu_is]
  have ad : ∀ d, 0 ≤ d → d ≠ k → ∀ r, r ≠ 1 → B1 r d = A1 r d := fun d d0 hd r hr1 => by
    rw [h1]; simp only [qu_nn hd]; rw [qu_ne hr1]
  have am : ∀ d, d ≠ k → ∀ r, B2 r d = A2 r d := fun d hd r => by
    rw [h2]; simp only [qu_nn hd]
  clear h1 h2
  refine ⟨⟨hr, fun d d0 d1 _ => ?_⟩, RB_f h.2.1 f1 f2 rfl rfl, RF_f h.2.2.1 f1 f2 rfl rfl, RL_f h.2.2.2 f1 f2 rfl rfl⟩
  by_cases q : d = k
  · refine ⟨⟨hr.1 d d0 d1, fun _ => ?_⟩, fun _ => ?_⟩
    · rw [q, ck.1, ck.2.1, ck.2.2.1, ck.2.2.2.1, ck.2.2.2.2.1, ck.2.2.2.2.2.1, cm.1, cm.2.1, cm.2.2.1, cm.2.2.2.1, cm.2.2.2.2.1, cm.2.2.2.2.2.1]
      exact ⟨⟨rfl, rfl, rfl, rfl⟩, rfl, rfl⟩
    · rw [q, ck.2.2.2.2.2.2.1, ck.2.2.2.2.2.2.2.1, ck.2.2.2.2.2.2.2.2, cm.2.2.2.2.2.2.1, cm.2.2.2.2.2.2.2.1, cm.2.2.2.2.2.2.2.2]
      exact ⟨⟨rfl, rfl, rfl⟩, fun _ => ⟨rfl, rfl⟩, ⟨by decide, by decide⟩, Or.inl rfl, ⟨by decide, by decide⟩⟩
  · obtain ⟨u, v⟩ := h.1.2 d d0 d1 trivial
    refine ⟨⟨hr.1 d d0 d1, fun z => ?_⟩, RK_e v (am d q 1) (fun r hr9 => ad d d0 q r (by
      have hm : ∀ r ∈ aRK, r ≠ 1 := by decide
      exact hm r hr9)) (fun r _ => am d q r)⟩
    rw [am d q 1] at z
    rw [ad d d0 q 2 (by decide), ad d d0 q 3 (by decide), ad d d0 q 4 (by decide), ad d d0 q 5 (by decide), ad d d0 q 8 (by decide), ad d d0 q 9 (by decide), am d q 3, am d q 4, am d q 5, am d q 6, am d q 9, am d q 10]
    exact u.2 z
theorem hang_GR (c l s n f w : Int) {A1 A2 : qA} (h : GR A1 A2) : (fC_hang c l s n f w A1).1 = (fM_hang c l s n f w A2).1 ∧ GR (fC_hang c l s n f w A1).2 (fM_hang c l s n f w A2).2 := by
  unfold fC_hang fM_hang
  simp only [qlet]
  rw [show c * 6 + l = 6 * c + l by omega, show 6 * c + (l - 1) = 6 * c + l - 1 by omega]
  by_cases h1 : (0 ≤ c ∧ c ≤ 7) ∧ (0 ≤ l ∧ l ≤ 5)
  · rw [if_pos h1, if_pos h1]
    by_cases h2 : 0 ≤ s ∧ s ≤ 9
    · rw [if_pos h2, if_pos h2]
      by_cases h3 : 0 ≤ n ∧ n ≤ 9999
      · rw [if_pos h3, if_pos h3]
        by_cases h4 : 0 ≤ f ∧ f ≤ 7
        · rw [if_pos h4, if_pos h4]
          by_cases h5 : 0 ≤ w ∧ w ≤ 3
          · rw [if_pos h5, if_pos h5]
            have hl : (6 * c + l) % 6 = l := by omega
            have a0 : 0 ≤ 6 * c + l := by omega
            have a1 : 6 * c + l < 48 := by omega
            generalize 6 * c + l = k at hl a0 a1 ⊢
            have hg := h.1.1.1 k a0 a1
            by_cases q : A2 1 k = 0
            · rw [if_neg (fun z => hg.mp z.2.2 q), if_pos q]
              by_cases l0 : 0 < l
              · rw [if_pos l0, if_pos l0]
                have hg2 := h.1.1.1 (k - 1) (by omega) (by omega)
                by_cases p : A2 1 (k - 1) = 0
                · rw [if_neg (fun z => hg2.mp z.2.2 p), if_pos p]; exact ⟨rfl, h⟩
                · rw [if_pos ⟨by omega, by omega, hg2.mpr p⟩, if_neg p]
                  exact ⟨rfl, hung_GR h a0 a1 (fun _ => p) _ _ rfl rfl⟩
              · rw [if_neg l0, if_neg l0]
                exact ⟨rfl, hung_GR h a0 a1 (fun z => by omega) _ _ rfl rfl⟩
            · rw [if_pos ⟨a0, by omega, hg.mpr q⟩, if_neg q]; exact ⟨rfl, h⟩
          · rw [if_neg h5, if_neg h5]; exact ⟨rfl, h⟩
        · rw [if_neg h4, if_neg h4]; exact ⟨rfl, h⟩
      · rw [if_neg h3, if_neg h3]; exact ⟨rfl, h⟩
    · rw [if_neg h2, if_neg h2]; exact ⟨rfl, h⟩
  · rw [if_neg h1, if_neg h1]; exact ⟨rfl, h⟩
/-- pollen -/
theorem GR_10 {A1 A2 : qA} {k : Int} (h : GR A1 A2) (hk : A2 7 k ≠ -1) : GR (qu A1 10 k 1) (qu A2 2 k 1) := by
  have f1 : frm [10] [] A1 (qu A1 10 k 1) := frm_q (frm_0 _ _ _) rfl
  have f2 : frm [2] [] A2 (qu A2 2 k 1) := frm_q (frm_0 _ _ _) rfl
  have e1 : (qu A1 10 k 1) 1 (fd 0) = A1 1 (fd 0) := frm_f f1 rfl
  have e2 : (qu A2 2 k 1) 1 = A2 1 := frm_a f2 rfl
  refine ⟨⟨RHG_e h.1.1 e1 e2, fun d a b s => ⟨RN_e (h.1.2 d a b s).1 e1 (by rw [e2]) (at_f f1 rfl) (at_f f2 rfl), fun z => ?_⟩⟩, RB_f h.2.1 f1 f2 rfl rfl, RF_f h.2.2.1 f1 f2 rfl rfl, RL_f h.2.2.2 f1 f2 rfl rfl⟩
  rw [e2] at z
  obtain ⟨⟨u1, u2, u3⟩, u4, u5, u6, u7⟩ := (h.1.2 d a b s).2 z
  rw [frm_a f1 (r := 6) rfl, frm_a f1 (r := 7) rfl, frm_a f2 (r := 7) rfl, frm_a f2 (r := 8) rfl]
  by_cases q : d = k
  · rw [q, qu_at, qu_at]
    rw [q] at u1 u2 u5 u7
    exact ⟨⟨u1, u2, rfl⟩, fun w => absurd w hk, u5, Or.inr rfl, u7⟩
  · rw [qu_nj q, qu_nj q]
    exact ⟨⟨u1, u2, u3⟩, u4, u5, u6, u7⟩
theorem polli_L {c k : Int} (c0 : 0 ≤ c) (c1 : c ≤ 7) (k0 : 0 ≤ k) (k1 : k ≤ 5) : ∀ (m F1 F2 : Nat) (s l : Int) (B1 B2 : qA), l + m = 6 → 0 ≤ l → GR B1 B2 → (fC_pollinate_L (F1 + m + 1) 13 [c, k, s, l] B1).1 = (fM_pollinate_L (F2 + m + 1) 18 [c, k, s, 6 * c + l] B2).1 ∧ GR (fC_pollinate_L (F1 + m + 1) 13 [c, k, s, l] B1).2 (fM_pollinate_L (F2 + m + 1) 18 [c, k, s, 6 * c + l] B2).2 := by
  intro m
  induction m with
  | zero =>
    intro F1 F2 s l B1 B2 hm l0 h
    rw [fC_pollinate_L13, fM_pollinate_L18]
    unfold fC_pollinate_c13 fM_pollinate_c18
    simp only [qlet_e]
    rw [if_neg (show ¬ l < 6 by omega), show wI (6 * (c + 1)) = 6 * (c + 1) from wI_id ⟨by omega, by omega⟩, if_neg (show ¬ 6 * c + l < 6 * (c + 1) by omega)]
    exact ⟨rfl, h⟩
  | succ m ih =>
    intro F1 F2 s l B1 B2 hm l0 h
    rw [show F1 + (m + 1) + 1 = (F1 + m + 1) + 1 by omega, show F2 + (m + 1) + 1 = (F2 + m + 1) + 1 by omega, fC_pollinate_L13, fM_pollinate_L18]
    unfold fC_pollinate_c13 fM_pollinate_c18
    simp only [qlet_e]
    rw [if_pos (show l < 6 by omega), show wI (6 * (c + 1)) = 6 * (c + 1) from wI_id ⟨by omega, by omega⟩, if_pos (show 6 * c + l < 6 * (c + 1) by omega), show c * 6 + l = 6 * c + l by omega, show wI (6 * c + l) = 6 * c + l from wI_id ⟨by omega, by omega⟩, show wI (l + 1) = l + 1 from wI_id ⟨by omega, by omega⟩, show wI (6 * c + l + 1) = 6 * c + (l + 1) from (wI_id ⟨by omega, by omega⟩).trans (by omega)]
    have nx := fun (s : Int) (B1 B2 : qA) (h : GR B1 B2) => ih F1 F2 s (l + 1) B1 B2 (by omega) (by omega) h
    have a0 : 0 ≤ 6 * c + l := by omega
    have a1 : 6 * c + l < 48 := by omega
    generalize 6 * c + l = at9 at a0 a1 ⊢
    have hr := h.1.2 at9 a0 a1 trivial
    have hc := crop_is hr a0 a1
    by_cases q : B2 1 at9 = 0
    · rw [if_neg (fun z => (hc.mp z).1 q), if_pos q]
      exact nx s B1 B2 h
    · rw [if_neg q]
      obtain ⟨⟨w1, _, w3⟩, _⟩ := hr.2 q
      by_cases p : B2 7 at9 = -1
      · rw [if_neg (fun z => (hc.mp z).2 p), if_neg (show ¬ B2 7 at9 = k by omega)]
        exact nx s B1 B2 h
      · rw [if_pos (hc.mpr ⟨q, p⟩), w1, w3]
        by_cases e : B2 7 at9 = k
        · rw [if_pos e, if_pos e]
          by_cases z : B2 2 at9 = 0
          · rw [if_pos z, if_pos z]
            exact nx (wI (s + 1)) _ _ (GR_10 h p)
          · rw [if_neg z, if_neg z]
            exact nx s B1 B2 h
        · rw [if_neg e, if_neg e]
          exact nx s B1 B2 h
theorem pollinate_GR (c k : Int) {A1 A2 : qA} (h : GR A1 A2) : (fC_pollinate c k A1).1 = (fM_pollinate c k A2).1 ∧ GR (fC_pollinate c k A1).2 (fM_pollinate c k A2).2 := by
  unfold fC_pollinate fM_pollinate
  simp only [qlet_e]
  by_cases h1 : 0 ≤ c ∧ c ≤ 7
  · rw [if_pos h1, if_pos h1]
    by_cases h2 : 0 ≤ k ∧ k ≤ 5
    · rw [if_pos h2, if_pos h2, show wI (6 * c) = 6 * c + 0 from (wI_id ⟨by omega, by omega⟩).trans (by omega)]
      obtain ⟨F, g⟩ : ∃ F : Nat, F + 6 + 1 = 100000 := ⟨99993, by decide⟩
      have key := polli_L h1.1 h1.2 h2.1 h2.2 6 F F 0 0 A1 A2 (by decide) (by decide) h
      rw [g] at key
      exact key
    · rw [if_neg h2, if_neg h2]; exact ⟨rfl, h⟩
  · rw [if_neg h1, if_neg h1]; exact ⟨rfl, h⟩
/-! falls, knots that go -/
theorem fall_GR (c l : Int) {A1 A2 : qA} (h : GR A1 A2) : (fC_fall c l A1).1 = (fM_fall c l A2).1 ∧ GR (fC_fall c l A1).2 (fM_fall c l A2).2 ∧ ∀ M, 0 ≤ M → M ≤ 2000000000 → CA M A2 → CA (M + 200) (fM_fall c l A2).2 := by
  have hu := hung_is h c l
  unfold fC_fall fM_fall
  simp only [qlet, qlp]
  by_cases h1 : ((0 ≤ c ∧ c ≤ 7) ∧ (0 ≤ l ∧ l ≤ 5)) ∧ A2 1 (6 * c + l) ≠ 0
  · have a0 : 0 ≤ 6 * c + l := by omega
    have a1 : 6 * c + l < 48 := by omega
    have hh := h1.2
    rw [hu.1 h1, if_pos h1, if_neg (show ¬ 6 * c + l < 0 by omega)]
    generalize 6 * c + l = k at a0 a1 hh ⊢
    have hc := crop_is (h.1.2 k a0 a1 trivial) a0 a1
    by_cases q : A2 7 k = -1
    · rw [if_pos q, if_neg (fun z => (hc.mp z).2 q)]; exact ⟨rfl, h, fun M _ _ hM => CA_w hM (by omega)⟩
    · rw [if_neg q, if_pos (hc.mpr ⟨hh, q⟩)]
      obtain ⟨d1, d2, _, _, _, _, d7⟩ := drop1 h a0 a1 hh q
      exact ⟨d1, d2, fun M _ m1 hM => d7 M m1 hM⟩
  · rw [hu.2 h1, if_neg h1, if_pos (by decide)]; exact ⟨rfl, h, fun M _ _ hM => CA_w hM (by omega)⟩
theorem go_GR {A1 A2 : qA} (h : GR A1 A2) : (fC_go A1).1 = (fM_go A2).1 ∧ GR (fC_go A1).2 (fM_go A2).2 ∧ ∀ M, M ≤ 2000000000 → CA M A2 → CA M (fM_go A2).2 := by
  unfold fC_go
  simp only [qlp]
  obtain ⟨a, b, _, _, _, e⟩ := go_is h
  exact ⟨a, b, e⟩
theorem water_GR {A1 A2 : qA} (h : GR A1 A2) (hy : WY A1) : (fC_water A1).1 = (fM_water A2).1 ∧ GR (fC_water A1).2 (fM_water A2).2 := by
  unfold fC_water
  simp only [qlp]
  obtain ⟨a, b, _⟩ := flow_is h hy
  exact ⟨a, b⟩
