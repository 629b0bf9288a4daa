/-! A DROUGHT, in the reference: it leaves all but its own places -/
theorem frM_sends (x t d : Int) (A : qA) : frm [37] [] A (fM_sends x t d A) := by
  unfold fM_sends
  simp only [qlet_e]
  repeat' split
  all_goals exact frm_q (frm_0 _ _ _) rfl
theorem frM_drips (c d : Int) (A : qA) : frm [37, 10] [] A (fM_drips c d A) := by
  unfold fM_drips
  simp only [qlet_e]
  repeat' split
  all_goals (repeat' (first | with_reducible exact frm_0 _ _ _ | with_reducible refine frm_q ?_ ?_ | with_reducible refine frm_c ?_ (frM_sends _ _ _ _) ?_ | exact rfl))
theorem frM_flows_L : ∀ F : Nat, (∀ (l : Int) (B : qA), frm [36, 37, 10] [] B (fM_flows_L F 2 [l] B)) ∧ (∀ (l x : Int) (B : qA), frm [36, 37, 10] [] B (fM_flows_L F 7 [l, x] B)) ∧ (∀ (l x : Int) (B : qA), frm [36, 37, 10] [] B (fM_flows_L F 19 [l, x] B)) ∧ (∀ (l x : Int) (B : qA), frm [36, 37, 10] [] B (fM_flows_L F 35 [l, x] B))
  | 0 => ⟨fun _ _ => frm_0 _ _ _, fun _ _ _ => frm_0 _ _ _, fun _ _ _ => frm_0 _ _ _, fun _ _ _ => frm_0 _ _ _⟩
  | F + 1 => by
    obtain ⟨i2, i7, i19, i35⟩ := frM_flows_L F
    refine ⟨fun l B => ?_, fun l x B => ?_, fun l x B => ?_, fun l x B => ?_⟩
    · rw [fM_flows_L2]
      unfold fM_flows_c2
      split
      · exact i7 _ _ _
      · exact frm_0 _ _ _
    · rw [fM_flows_L7]
      unfold fM_flows_c7
      simp only [qlet_e]
      split
      · exact frm_c (frm_q (frm_0 _ _ _) rfl) (i7 _ _ _) rfl
      · exact i19 _ _ _
    · rw [fM_flows_L19]
      unfold fM_flows_c19
      simp only [qlet_e]
      split
      · exact frm_c (frm_c (frm_0 _ _ _) (frM_drips _ _ _) rfl) (i19 _ _ _) rfl
      · exact i35 _ _ _
    · rw [fM_flows_L35]
      unfold fM_flows_c35
      simp only [qlet_e]
      split
      · exact frm_c (frm_q (frm_0 _ _ _) rfl) (i35 _ _ _) rfl
      · exact i2 _ _
theorem frM_flows (A : qA) : frm [36, 37, 10] [] A (fM_flows A) := (frM_flows_L _).1 _ _
theorem frM_comesTo_L : ∀ (F : Nat) (t n b k : Int) (B : qA), frm [34] [] B (fM_comesTo_L F 10 [t, n, b, k] B).2
  | 0, _, _, _, _, _ => frm_0 _ _ _
  | F + 1, t, n, b, k, B => by
    have ih := frM_comesTo_L F
    rw [fM_comesTo_L10]
    unfold fM_comesTo_c10
    simp only [qlet_e]
    repeat' split
    all_goals (repeat' (first | with_reducible exact frm_0 _ _ _ | with_reducible refine frm_q ?_ ?_ | with_reducible refine frm_c ?_ (ih _ _ _ _ _) ?_ | exact rfl))
theorem frM_comesTo (f t : Int) (A : qA) : frm [34] [] A (fM_comesTo f t A).2 := frM_comesTo_L _ _ _ _ _ _
theorem frM_told_L : ∀ (F : Nat) (a b q : Int) (B : qA), frm [34] [] B (fM_told_L F 2 [a, b, q] B).2
  | 0, _, _, _, _ => frm_0 _ _ _
  | F + 1, a, b, q, B => by
    have ih := frM_told_L F
    rw [fM_told_L2]
    unfold fM_told_c2
    simp only [qlet, qlp]
    repeat' split
    all_goals (repeat' (first | with_reducible exact frm_0 _ _ _ | with_reducible refine frm_c ?_ (ih _ _ _ _) ?_ | with_reducible refine frm_c ?_ (frM_comesTo _ _ _) ?_ | exact rfl))
theorem frM_told (a b : Int) (A : qA) : frm [34] [] A (fM_told a b A).2 := frM_told_L _ _ _ _ _
theorem frM_asked (c l h : Int) (A : qA) : frm [34, 35] [] A (fM_asked c l h A).2 := by
  unfold fM_asked
  simp only [qlet, qlp]
  exact frm_c (frm_c (frm_0 _ _ _) (fr_feels c A) rfl) (frM_told _ _ _) rfl
theorem frM_growth_L : ∀ (F : Nat) (s c : Int) (B : qA), frm [34, 35] [] B (fM_growth_L F 4 [s, c] B).2
  | 0, _, _, _ => frm_0 _ _ _
  | F + 1, s, c, B => by
    have ih := frM_growth_L F
    rw [fM_growth_L4]
    unfold fM_growth_c4
    simp only [qlet, qlp]
    repeat' split
    all_goals (repeat' (first | with_reducible exact frm_0 _ _ _ | with_reducible refine frm_c ?_ (ih _ _ _) ?_ | with_reducible refine frm_c ?_ (frM_asked _ _ _ _) ?_ | exact rfl))
theorem frM_growth (A : qA) : frm [34, 35] [] A (fM_growth A).2 := frM_growth_L _ _ _ _
def DRW : List Nat := [10, 34, 35, 36, 37, 61, 62]
/-- no valve is open yet -/
theorem dr91 {d w y u b k e s : Int} (y0 : 0 ≤ y) (y4 : y ≤ 4) : ∀ (m F : Nat) (j : Int) (B : qA), j + m = 8 → 0 ≤ j → ∃ C, frm [36] [] B C ∧ (∀ i, j ≤ i → i < 8 → C 36 i = 0) ∧ (∀ i, i < j → C 36 i = B 36 i) ∧ fM_drought_L (F + m + 1) 91 [d, w, y, u, b, k, e, s, j] B = fM_drought_L F 105 [d, w, y, u, b, k, e, s, y - 1] C
  | 0, F, j, B, hm, j0 => by
    rw [fM_drought_L91]
    unfold fM_drought_c91
    simp only [qlet_e]
    rw [if_neg (show ¬ j < 8 by omega), show wI (y - 1) = y - 1 from wI_id ⟨by omega, by omega⟩]
    exact ⟨B, frm_0 _ _ _, fun i i0 i1 => by omega, fun _ _ => rfl, rfl⟩
  | m + 1, F, j, B, hm, j0 => by
    rw [show F + (m + 1) + 1 = (F + m + 1) + 1 by omega, fM_drought_L91]
    unfold fM_drought_c91
    simp only [qlet_e]
    rw [if_pos (show j < 8 by omega), show wI (j + 1) = j + 1 from wI_id ⟨by omega, by omega⟩]
    obtain ⟨C, c1, c2, c3, c4⟩ := dr91 (d := d) (w := w) (u := u) (b := b) (k := k) (e := e) (s := s) y0 y4 m F (j + 1) (qu B 36 j 0) (by omega) (by omega)
    refine ⟨C, frm_c (frm_q (frm_0 _ _ _) rfl) c1 rfl, fun i i0 i1 => ?_, fun i i0 => by rw [c3 i (by omega), qu_nj (by omega)], c4⟩
    by_cases q : i = j
    · rw [q, c3 j (by omega), qu_at]
    · exact c2 i (by omega) i1
/-- rows of drops by codes -/
def cr10 : Nat → Int → List Int
  | 0, _ => []
  | m + 1, k => cr10 m (k / 10) ++ [k % 10]
def sumL : List Int → Int
  | [] => 0
  | d :: ds => d + sumL ds
theorem sumL_a (d : Int) : ∀ pre : List Int, sumL (pre ++ [d]) = sumL pre + d
  | [] => by
    show d + 0 = 0 + d
    omega
  | x :: pre => by
    show x + sumL (pre ++ [d]) = x + sumL pre + d
    rw [sumL_a d pre]
    omega
theorem cr10_len : ∀ (m : Nat) (k : Int), (cr10 m k).length = m
  | 0, _ => rfl
  | m + 1, k => by
    show (cr10 m (k / 10) ++ [k % 10]).length = m + 1
    rw [List.length_append, cr10_len m, List.length_singleton]
theorem cr10_bd : ∀ (m : Nat) (k : Int), 0 ≤ sumL (cr10 m k) ∧ sumL (cr10 m k) ≤ 9 * m
  | 0, _ => ⟨Int.le_refl _, Int.le_refl _⟩
  | m + 1, k => by
    have ih := cr10_bd m (k / 10)
    show 0 ≤ sumL (cr10 m (k / 10) ++ [k % 10]) ∧ sumL (cr10 m (k / 10) ++ [k % 10]) ≤ _
    rw [sumL_a]
    omega
theorem dr105 {d w y u b k N : Int} {cc : Int → Int} (N4 : N ≤ 4) : ∀ (m F : Nat) (e s : Int) (B : qA), (m : Int) ≤ N → 0 ≤ e → e < 100000 → 0 ≤ s → s ≤ 9 * (4 - m) → (∀ i : Int, 0 ≤ i → i < m → B 60 i = cc i) → (∀ i j : Int, 0 ≤ i → i < j → j < N → cc i < cc j) → ∃ C e', frm [36, 62] [] B C ∧ rw_ (C 62) m 0 = cr10 m e ∧ (∀ j, (m : Int) ≤ j → C 62 j = B 62 j) ∧ (∀ j : Int, 0 ≤ j → j < m → C 36 (cc j) = C 62 j) ∧ (∀ x, (∀ j : Int, 0 ≤ j → j < m → x ≠ cc j) → C 36 x = B 36 x) ∧ fM_drought_L (F + m) 105 [d, w, y, u, b, k, e, s, (m : Int) - 1] B = fM_drought_L F 105 [d, w, y, u, b, k, e', s + sumL (cr10 m e), -1] C
  | 0, F, e, s, B, hm, e0, e1, s0, s1, h60, hcc => ⟨B, e, frm_0 _ _ _, rfl, fun j _ => rfl, fun j j0 j1 => absurd j1 (by omega), fun x _ => rfl, by
    show _ = fM_drought_L F 105 [d, w, y, u, b, k, e, s + 0, -1] B
    rw [Int.add_zero]
    rfl⟩
  | m + 1, F, e, s, B, hm, e0, e1, s0, s1, h60, hcc => by
    rw [show F + (m + 1) = (F + m) + 1 by omega, show (((m + 1 : Nat) : Int) - 1) = (m : Int) by omega, fM_drought_L105]
    unfold fM_drought_c105
    simp only [qlet, qlp]
    have e60 : (qu B 62 (m : Int) (e % 10)) 60 (m : Int) = cc m := by
      rw [qu_ne (by decide)]
      exact h60 m (by omega) (by omega)
    rw [if_neg (show ¬ (m : Int) < 0 by omega), qm_nn e0, qd_nn e0, e60, show wI (e / 10) = e / 10 from wI_id ⟨by omega, by omega⟩, show wI (s + e % 10) = s + e % 10 from wI_id ⟨by omega, by omega⟩, show wI ((m : Int) + -1) = (m : Int) - 1 from (wI_id ⟨by omega, by omega⟩).trans (by omega)]
    have f0 : frm [36, 62] [] B (qu (qu B 62 (m : Int) (e % 10)) 36 (cc m) (e % 10)) := frm_q (frm_q (frm_0 _ _ _) rfl) rfl
    have e62 : (qu (qu B 62 (m : Int) (e % 10)) 36 (cc m) (e % 10)) 62 = (qu B 62 (m : Int) (e % 10)) 62 := qu_ne (by decide)
    have e36 : ∀ x, x ≠ cc m → (qu (qu B 62 (m : Int) (e % 10)) 36 (cc m) (e % 10)) 36 x = B 36 x := fun x hx => by rw [qu_nj hx, qu_ne (by decide)]
    have e36c : (qu (qu B 62 (m : Int) (e % 10)) 36 (cc m) (e % 10)) 36 (cc m) = e % 10 := qu_at _ _ _ _
    obtain ⟨C, e', g1, g2, g3, g4, g5, g6⟩ := dr105 (d := d) (w := w) (y := y) (u := u) (b := b) (k := k) (cc := cc) N4 m F (e / 10) (s + e % 10) (qu (qu B 62 (m : Int) (e % 10)) 36 (cc m) (e % 10)) (by omega) (by omega) (by omega) (by omega) (by omega) (fun i i0 i1 => by
      rw [frm_a f0 (r := 60) rfl]
      exact h60 i i0 (by omega)) hcc
    have c62m : C 62 (m : Int) = e % 10 := by rw [g3 (m : Int) (Int.le_refl _), e62, qu_at]
    refine ⟨C, e', frm_c f0 g1 rfl, ?_, fun j hj => by rw [g3 j (by omega), e62, qu_nj (by omega)], fun j j0 j1 => ?_, fun x hx => ?_, ?_⟩
    · rw [rw_a, g2, Int.zero_add, c62m]
      rfl
    · by_cases q : j = (m : Int)
      · rw [q, g5 (cc m) (fun i i0 i1 z => by have := hcc i (m : Int) i0 i1 (by omega); omega), e36c, c62m]
      · exact g4 j j0 (by omega)
    · rw [g5 x (fun j j0 j1 => hx j j0 (by omega)), e36 x (hx m (by omega) (by omega))]
    · rw [g6]
      show _ = fM_drought_L F 105 [d, w, y, u, b, k, e', s + sumL (cr10 m (e / 10) ++ [e % 10]), -1] C
      rw [sumL_a, show s + e % 10 + sumL (cr10 m (e / 10)) = s + (sumL (cr10 m (e / 10)) + e % 10) by omega]
theorem dr155 {d w u b k : Int} {n : Nat} (n4 : n ≤ 4) (k0 : 0 ≤ k) (k1 : k < 100000) : ∀ (m F : Nat) (j : Int) (B : qA), j + m = n → 0 ≤ j → ∃ C, frm [61] [] B C ∧ (∀ i, C 61 i = if j ≤ i ∧ i < n then B 62 i else B 61 i) ∧ fM_drought_L (F + m + 1) 155 [d, w, (n : Int), u, b, k, j] B = fM_drought_L F 82 [d, w, (n : Int), u, b, k + 1] C
  | 0, F, j, B, hm, j0 => by
    rw [fM_drought_L155]
    unfold fM_drought_c155
    simp only [qlet_e]
    rw [if_neg (show ¬ j < (n : Int) by omega), show wI (k + 1) = k + 1 from wI_id ⟨by omega, by omega⟩]
    exact ⟨B, frm_0 _ _ _, fun i => by rw [if_neg (fun z => by omega)], rfl⟩
  | m + 1, F, j, B, hm, j0 => by
    rw [show F + (m + 1) + 1 = (F + m + 1) + 1 by omega, fM_drought_L155]
    unfold fM_drought_c155
    simp only [qlet_e]
    rw [if_pos (show j < (n : Int) by omega), show wI (j + 1) = j + 1 from wI_id ⟨by omega, by omega⟩]
    have e62 : (qu B 61 j (B 62 j)) 62 = B 62 := qu_ne (by decide)
    obtain ⟨C, c1, c2, c3⟩ := dr155 (d := d) (w := w) (u := u) (b := b) n4 k0 k1 m F (j + 1) (qu B 61 j (B 62 j)) (by omega) (by omega)
    refine ⟨C, frm_c (frm_q (frm_0 _ _ _) rfl) c1 rfl, fun i => ?_, c3⟩
    rw [c2 i, e62]
    by_cases q : i = j
    · rw [q, if_neg (fun z => by omega), qu_at, if_pos ⟨Int.le_refl _, by omega⟩]
    · rw [qu_nj q]
      by_cases v : j + 1 ≤ i ∧ i < n
      · rw [if_pos v, if_pos ⟨by omega, v.2⟩]
      · rw [if_neg v, if_neg (fun z => v ⟨by omega, z.2⟩)]
/-- one code: what comes is poured, weighed -/
theorem drone {d w u b k : Int} {n : Nat} {cc : Int → Int} {B : qA} (n4 : n ≤ 4) (h60 : ∀ i : Int, 0 ≤ i → i < n → B 60 i = cc i) (hcc : ∀ i j : Int, 0 ≤ i → i < j → j < (n : Int) → cc i < cc j) (k0 : 0 ≤ k) (ku : k < u) (u1 : u < 100000) (F : Nat) (hF : 30 ≤ F) : ∃ C, frm [36, 62] [] B C ∧ rw_ (C 62) n 0 = cr10 n k ∧ (∀ j : Int, 0 ≤ j → j < n → C 36 (cc j) = C 62 j) ∧ (∀ x, 0 ≤ x → x < 8 → (∀ j : Int, 0 ≤ j → j < n → x ≠ cc j) → C 36 x = 0) ∧ ∃ F' B' b', F ≤ F' + 30 ∧ fM_drought_L F 82 [d, w, (n : Int), u, b, k] B = fM_drought_L F' 82 [d, w, (n : Int), u, b', k + 1] B' ∧ frm DRW [] B B' ∧ (d < sumL (cr10 n k) → b' = b ∧ B' 61 = B 61) ∧ (¬ d < sumL (cr10 n k) → ¬ b < (fM_growth (fM_flows C)).1 → b' = b ∧ B' 61 = B 61) ∧ (¬ d < sumL (cr10 n k) → b < (fM_growth (fM_flows C)).1 → b' = (fM_growth (fM_flows C)).1 ∧ rw_ (B' 61) n 0 = cr10 n k) := by
  obtain ⟨F0, hF0⟩ : ∃ F0, F = ((((F0 + n + 1) + 1) + n) + 8 + 1) + 1 := ⟨F - (2 * n + 12), by omega⟩
  rw [hF0, fM_drought_L82]
  unfold fM_drought_c82
  rw [if_pos ku]
  obtain ⟨C1, a1, a2, _, a4⟩ := dr91 (d := d) (w := w) (u := u) (b := b) (k := k) (e := k) (s := 0) (show (0 : Int) ≤ n by omega) (show (n : Int) ≤ 4 by omega) 8 (((F0 + n + 1) + 1) + n) 0 B (by decide) (by decide)
  rw [a4]
  obtain ⟨C, e', c1, c2, _, c4, c5, c6⟩ := dr105 (d := d) (w := w) (y := n) (u := u) (b := b) (k := k) (cc := cc) (N := n) (by omega) n ((F0 + n + 1) + 1) k 0 C1 (Int.le_refl _) k0 (by omega) (by decide) (by omega) (fun i i0 i1 => by
    rw [frm_a a1 (r := 60) rfl]
    exact h60 i i0 i1) hcc
  have fC : frm [36, 62] [] B C := frm_c (frm_c (frm_0 _ _ _) a1 rfl) c1 rfl
  refine ⟨C, fC, c2, c4, fun x x0 x1 hx => by rw [c5 x hx]; exact a2 x x0 x1, ?_⟩
  rw [c6, Int.zero_add, fM_drought_L105]
  unfold fM_drought_c105
  simp only [qlet, qlp]
  rw [if_pos (show (-1 : Int) < 0 by decide), show wI (k + 1) = k + 1 from wI_id ⟨by omega, by omega⟩]
  have ff := frM_flows C
  have fg := frM_growth (fM_flows C)
  by_cases hs : d < sumL (cr10 n k)
  · rw [if_pos hs]
    exact ⟨F0 + n + 1, C, b, by omega, rfl, frm_c (frm_0 _ _ _) fC rfl, fun _ => ⟨rfl, by rw [frm_a fC (r := 61) rfl]⟩, fun z => absurd hs z, fun z => absurd hs z⟩
  · rw [if_neg hs]
    have fG : frm DRW [] B (fM_growth (fM_flows C)).2 := frm_c (frm_c (frm_c (frm_0 _ _ _) fC rfl) ff rfl) fg rfl
    by_cases hb : b < (fM_growth (fM_flows C)).1
    · rw [if_pos hb]
      obtain ⟨E, e1, e2, e3⟩ := dr155 (d := d) (w := w) (u := u) (b := (fM_growth (fM_flows C)).1) n4 k0 (by omega) n F0 0 (fM_growth (fM_flows C)).2 (by omega) (by decide)
      refine ⟨F0, E, (fM_growth (fM_flows C)).1, by omega, e3, frm_c fG e1 rfl, fun z => absurd z hs, fun _ z => absurd hb z, fun _ _ => ⟨rfl, ?_⟩⟩
      rw [← c2]
      exact rw_e n 0 (fun j j0 j1 => by rw [e2 j, if_pos ⟨j0, by omega⟩, frm_a fg (r := 62) rfl, frm_a ff (r := 62) rfl])
    · rw [if_neg hb]
      refine ⟨F0 + n + 1, (fM_growth (fM_flows C)).2, b, by omega, rfl, fG, fun z => absurd z hs, fun _ _ => ⟨rfl, by rw [frm_a fg (r := 61) rfl, frm_a ff (r := 61) rfl, frm_a fC (r := 61) rfl]⟩, fun _ z => absurd z hb⟩
/-- all codes -/
theorem drloop {d w u : Int} {n : Nat} {cc : Int → Int} {B0 : qA} (n4 : n ≤ 4) (h60 : ∀ i : Int, 0 ≤ i → i < n → B0 60 i = cc i) (hcc : ∀ i j : Int, 0 ≤ i → i < j → j < (n : Int) → cc i < cc j) (u1 : u < 100000) : ∀ (m F : Nat) (k b : Int) (B : qA), k + m = u → 0 ≤ k → 30 * m ≤ F → frm DRW [] B0 B → ∃ F' B' b', F ≤ F' + 30 * m ∧ fM_drought_L F 82 [d, w, (n : Int), u, b, k] B = fM_drought_L F' 82 [d, w, (n : Int), u, b', u] B' ∧ frm DRW [] B0 B'
  | 0, F, k, b, B, hm, k0, hF, f => by
    rw [show k = u by omega]
    exact ⟨F, B, b, by omega, rfl, f⟩
  | m + 1, F, k, b, B, hm, k0, hF, f => by
    obtain ⟨C, _, _, _, _, F1, B1, b1, h1, h2, h3, _⟩ := drone (d := d) (w := w) (u := u) (b := b) (k := k) (cc := cc) (B := B) n4 (fun i i0 i1 => by rw [frm_a f (r := 60) rfl]; exact h60 i i0 i1) hcc k0 (by omega) u1 F (by omega)
    obtain ⟨F2, B2, b2, g1, g2, g3⟩ := drloop n4 h60 hcc u1 m F1 (k + 1) b1 B1 (by omega) (by omega) (by omega) (frm_c f h3 rfl)
    exact ⟨F2, B2, b2, by omega, h2.trans g2, g3⟩
theorem dr172 {w b : Int} : ∀ (m F : Nat) (j : Int) (B : qA), j + m = 48 → 0 ≤ j → ∃ C, frm [10] [] B C ∧ (∀ i, C 10 i = if j ≤ i ∧ i < 48 then B 59 i else B 10 i) ∧ fM_drought_L (F + m + 1) 172 [w, b, j] B = ((if w = -1 then b else B 61 w), C)
  | 0, F, j, B, hm, j0 => by
    rw [fM_drought_L172]
    unfold fM_drought_c172
    simp only [qlet_e]
    rw [if_neg (show ¬ j < 48 by omega)]
    refine ⟨B, frm_0 _ _ _, fun i => by rw [if_neg (fun z => by omega)], ?_⟩
    split <;> rfl
  | m + 1, F, j, B, hm, j0 => by
    rw [show F + (m + 1) + 1 = (F + m + 1) + 1 by omega, fM_drought_L172]
    unfold fM_drought_c172
    simp only [qlet_e]
    rw [if_pos (show j < 48 by omega), show wI (j + 1) = j + 1 from wI_id ⟨by omega, by omega⟩]
    have e59 : (qu B 10 j (B 59 j)) 59 = B 59 := qu_ne (by decide)
    have e61 : (qu B 10 j (B 59 j)) 61 = B 61 := qu_ne (by decide)
    obtain ⟨C, c1, c2, c3⟩ := dr172 (w := w) (b := b) m F (j + 1) (qu B 10 j (B 59 j)) (by omega) (by omega)
    rw [e61] at c3
    refine ⟨C, frm_c (frm_q (frm_0 _ _ _) rfl) c1 rfl, fun i => ?_, c3⟩
    rw [c2 i, e59]
    by_cases q : i = j
    · rw [q, if_neg (fun z => by omega), qu_at, if_pos ⟨Int.le_refl _, by omega⟩]
    · rw [qu_nj q]
      by_cases v : j + 1 ≤ i ∧ i < 48
      · rw [if_pos v, if_pos ⟨by omega, v.2⟩]
      · rw [if_neg v, if_neg (fun z => v ⟨by omega, z.2⟩)]
theorem dr52 {d w y : Int} : ∀ (m F : Nat) (j : Int) (B : qA), j + m = 48 → 0 ≤ j → ∃ C, frm [59] [] B C ∧ (∀ i, C 59 i = if j ≤ i ∧ i < 48 then B 10 i else B 59 i) ∧ fM_drought_L (F + m + 1) 52 [d, w, y, j] B = fM_drought_L F 69 [d, w, y, 1, 0] C
  | 0, F, j, B, hm, j0 => by
    rw [fM_drought_L52]
    unfold fM_drought_c52
    simp only [qlet_e]
    rw [if_neg (show ¬ j < 48 by omega)]
    exact ⟨B, frm_0 _ _ _, fun i => by rw [if_neg (fun z => by omega)], rfl⟩
  | m + 1, F, j, B, hm, j0 => by
    rw [show F + (m + 1) + 1 = (F + m + 1) + 1 by omega, fM_drought_L52]
    unfold fM_drought_c52
    simp only [qlet_e]
    rw [if_pos (show j < 48 by omega), show wI (j + 1) = j + 1 from wI_id ⟨by omega, by omega⟩]
    have e10 : (qu B 59 j (B 10 j)) 10 = B 10 := qu_ne (by decide)
    obtain ⟨C, c1, c2, c3⟩ := dr52 (d := d) (w := w) (y := y) m F (j + 1) (qu B 59 j (B 10 j)) (by omega) (by omega)
    refine ⟨C, frm_c (frm_q (frm_0 _ _ _) rfl) c1 rfl, fun i => ?_, c3⟩
    rw [c2 i, e10]
    by_cases q : i = j
    · rw [q, if_neg (fun z => by omega), qu_at, if_pos ⟨Int.le_refl _, by omega⟩]
    · rw [qu_nj q]
      by_cases v : j + 1 ≤ i ∧ i < 48
      · rw [if_pos v, if_pos ⟨by omega, v.2⟩]
      · rw [if_neg v, if_neg (fun z => v ⟨by omega, z.2⟩)]
def p10 : Nat → Nat
  | 0 => 1
  | m + 1 => 10 * p10 m
theorem p10_bd {n : Nat} (h : n ≤ 4) : p10 n ≤ 10000 := by
  have : n = 0 ∨ n = 1 ∨ n = 2 ∨ n = 3 ∨ n = 4 := by omega
  rcases this with e | e | e | e | e <;> rw [e] <;> decide
theorem dr69 {d w : Int} {n : Nat} (n4 : n ≤ 4) : ∀ (m F : Nat) (q : Int) (B : qA), q + m = n → 0 ≤ q → fM_drought_L (F + m + 1) 69 [d, w, (n : Int), (p10 (n - m) : Int), q] B = fM_drought_L F 82 [d, w, (n : Int), (p10 n : Int), -1, 0] B
  | 0, F, q, B, hm, q0 => by
    rw [fM_drought_L69]
    unfold fM_drought_c69
    simp only [qlet_e]
    rw [if_neg (show ¬ q < (n : Int) by omega)]
    rfl
  | m + 1, F, q, B, hm, q0 => by
    have hp : p10 (n - m) = 10 * p10 (n - (m + 1)) := by
      rw [show n - m = (n - (m + 1)) + 1 by omega]
      rfl
    have hb := p10_bd (n := n - m) (by omega)
    rw [show F + (m + 1) + 1 = (F + m + 1) + 1 by omega, fM_drought_L69]
    unfold fM_drought_c69
    simp only [qlet_e]
    rw [if_pos (show q < (n : Int) by omega), show wI (q + 1) = q + 1 from wI_id ⟨by omega, by omega⟩, show wI (10 * (p10 (n - (m + 1)) : Int)) = (p10 (n - m) : Int) from (wI_id ⟨by omega, by omega⟩).trans (by omega)]
    exact dr69 n4 m F (q + 1) B (by omega) (by omega)
/-- bits of the columns told -/
def bt (c : Int) (k : Nat) : Int := ia (sr c (k : Int)) 1
theorem bt_bd (c : Int) (k : Nat) : 0 ≤ bt c k ∧ bt c k ≤ 1 := ia_bd ⟨by decide, by decide⟩ (by decide)
def bsum (c : Int) : Nat → Nat
  | 0 => 0
  | k + 1 => bsum c k + (bt c k).toNat
theorem bsum_s1 {c : Int} {k : Nat} (h : bt c k ≠ 0) : bsum c (k + 1) = bsum c k + 1 := by
  have := bt_bd c k
  show bsum c k + (bt c k).toNat = _
  omega
theorem bsum_s0 {c : Int} {k : Nat} (h : bt c k = 0) : bsum c (k + 1) = bsum c k := by
  show bsum c k + (bt c k).toNat = _
  omega
theorem bsum_mono (c : Int) : ∀ {a b : Nat}, a ≤ b → bsum c a ≤ bsum c b
  | a, 0, h => by rw [show a = 0 by omega]; exact Nat.le_refl _
  | a, b + 1, h => by
    by_cases q : a = b + 1
    · rw [q]; exact Nat.le_refl _
    · have := bsum_mono c (show a ≤ b by omega)
      show bsum c a ≤ bsum c b + (bt c b).toNat
      omega
theorem bsum_le (c : Int) : ∀ k : Nat, bsum c k ≤ k
  | 0 => Nat.le_refl _
  | k + 1 => by
    have := bsum_le c k
    have := bt_bd c k
    show bsum c k + (bt c k).toNat ≤ k + 1
    omega
theorem bits2_L (c : Int) (A : qA) : ∀ (m F k : Nat), k + m = 8 → fM_bits2_L (F + m + 1) 4 [c, (bsum c k : Int), (k : Int)] A = bsum c 8
  | 0, F, k, hm => by
    rw [fM_bits2_L4]
    unfold fM_bits2_c4
    simp only [qlet_e]
    rw [if_neg (show ¬ (k : Int) < 8 by omega), show k = 8 by omega]
  | m + 1, F, k, hm => by
    have hb := bt_bd c k
    rw [show F + (m + 1) + 1 = (F + m + 1) + 1 by omega, fM_bits2_L4]
    unfold fM_bits2_c4
    simp only [qlet_e]
    rw [if_pos (show (k : Int) < 8 by omega), show (bsum c k : Int) + ia (sr c (k : Int)) 1 = (bsum c (k + 1) : Int) from by
      show (bsum c k : Int) + bt c k = ((bsum c k + (bt c k).toNat : Nat) : Int)
      omega, show (k : Int) + 1 = ((k + 1 : Nat) : Int) by omega]
    exact bits2_L c A m F (k + 1) (by omega)
theorem bits2_is (c : Int) (A : qA) : fM_bits2 c A = bsum c 8 := bits2_L c A 8 99991 0 rfl
/-- the columns told lie in their order -/
def told8 (c : Int) (k : Nat) (g : Int → Int) : Prop := ∀ j, j < k → bt c j ≠ 0 → g (bsum c j : Int) = (j : Int)
theorem told8_s0 {c : Int} {k : Nat} {g : Int → Int} (h : told8 c k g) (hb : bt c k = 0) : told8 c (k + 1) g := fun j hj hz => by
  by_cases q : j = k
  · rw [q] at hz; exact absurd hb hz
  · exact h j (by omega) hz
theorem bsum_lt {c : Int} {a b : Nat} (h : a < b) (ht : bt c a ≠ 0) : bsum c a < bsum c b := by
  have h1 := bsum_mono c (show a + 1 ≤ b from h)
  rw [bsum_s1 ht] at h1
  omega
theorem told8_s1 {c : Int} {k : Nat} {g : Int → Int} (h : told8 c k g) (hb : bt c k ≠ 0) : told8 c (k + 1) (fun i => if i = (bsum c k : Int) then (k : Int) else g i) := fun j hj hz => by
  dsimp only
  by_cases q : j = k
  · rw [q, if_pos rfl]
  · have := bsum_lt (show j < k by omega) hz
    rw [if_neg (show ¬ (bsum c j : Int) = (bsum c k : Int) by omega)]
    exact h j (by omega) hz
theorem bsum_ex {c : Int} : ∀ (k i : Nat), i < bsum c k → ∃ j, j < k ∧ bt c j ≠ 0 ∧ bsum c j = i
  | 0, i, h => absurd h (Nat.not_lt_zero _)
  | k + 1, i, h => by
    by_cases hb : bt c k = 0
    · rw [bsum_s0 hb] at h
      obtain ⟨j, a, b, d⟩ := bsum_ex k i h
      exact ⟨j, by omega, b, d⟩
    · rw [bsum_s1 hb] at h
      by_cases q : i = bsum c k
      · exact ⟨k, by omega, hb, q.symm⟩
      · obtain ⟨j, a, b, d⟩ := bsum_ex (c := c) k i (by omega)
        exact ⟨j, by omega, b, d⟩
theorem told8_inj {c : Int} {g : Int → Int} (h : told8 c 8 g) : ∀ i j : Int, 0 ≤ i → i < j → j < (bsum c 8 : Int) → g i < g j := fun i j i0 ij j1 => by
  obtain ⟨a, h1, h2, h3⟩ := bsum_ex (c := c) 8 i.toNat (by omega)
  obtain ⟨b, k1, k2, k3⟩ := bsum_ex (c := c) 8 j.toNat (by omega)
  have u := h a h1 h2
  have v := h b k1 k2
  rw [h3, show ((i.toNat : Nat) : Int) = i by omega] at u
  rw [k3, show ((j.toNat : Nat) : Int) = j by omega] at v
  rw [u, v]
  by_cases w : a < b
  · omega
  · have := bsum_mono c (show b ≤ a by omega)
    omega
theorem dr20 {d c w : Int} : ∀ (m F k : Nat) (B : qA), k + m = 8 → told8 c k (B 60) → ∃ C, frm [60] [] B C ∧ told8 c 8 (C 60) ∧ fM_drought_L (F + m + 1) 20 [d, c, w, (bsum c k : Int), (k : Int)] B = (if -1 ≤ w ∧ w ≤ (bsum c 8 : Int) - 1 then fM_drought_L F 52 [d, w, (bsum c 8 : Int), 0] C else (-2, C))
  | 0, F, k, B, hm, ht => by
    have hl := bsum_le c 8
    rw [fM_drought_L20]
    unfold fM_drought_c20
    simp only [qlet_e]
    rw [if_neg (show ¬ (k : Int) < 8 by omega), show k = 8 by omega, show wI ((bsum c 8 : Int) - 1) = (bsum c 8 : Int) - 1 from wI_id ⟨by omega, by omega⟩]
    rw [show k = 8 by omega] at ht
    exact ⟨B, frm_0 _ _ _, ht, rfl⟩
  | m + 1, F, k, B, hm, ht => by
    have hl := bsum_le c k
    rw [show F + (m + 1) + 1 = (F + m + 1) + 1 by omega, fM_drought_L20]
    unfold fM_drought_c20
    simp only [qlet_e]
    rw [if_pos (show (k : Int) < 8 by omega), show wI ((k : Int) + 1) = ((k + 1 : Nat) : Int) from (wI_id ⟨by omega, by omega⟩).trans (by omega), show wI ((bsum c k : Int) + 1) = (bsum c k : Int) + 1 from wI_id ⟨by omega, by omega⟩]
    by_cases hb : bt c k = 0
    · rw [if_pos (show ia (sr c (k : Int)) 1 = 0 from hb), show (bsum c k : Int) = (bsum c (k + 1) : Int) by rw [bsum_s0 hb]]
      exact dr20 m F (k + 1) B (by omega) (told8_s0 ht hb)
    · rw [if_neg (show ¬ ia (sr c (k : Int)) 1 = 0 from hb), show (bsum c k : Int) + 1 = (bsum c (k + 1) : Int) by rw [bsum_s1 hb]; omega]
      obtain ⟨C, c1, c2, c3⟩ := dr20 (d := d) (w := w) m F (k + 1) (qu B 60 (bsum c k : Int) (k : Int)) (by omega) (by
        have h9 := told8_s1 ht hb
        intro j hj hz
        have := h9 j hj hz
        dsimp only at this
        by_cases q : (bsum c j : Int) = (bsum c k : Int)
        · rw [if_pos q] at this
          rw [q, qu_at]; exact this
        · rw [if_neg q] at this
          rw [qu_nj q]; exact this)
      exact ⟨C, frm_c (frm_q (frm_0 _ _ _) rfl) c1 rfl, c2, c3⟩
/-- it leaves all as it was but its own places -/
theorem drought_k (d c w : Int) (A : qA) : frm [10, 34, 35, 36, 37, 59, 60, 61, 62] [] A (fM_drought d c w A).2 ∧ ∀ i, 0 ≤ i → i < 48 → (fM_drought d c w A).2 10 i = A 10 i := by
  unfold fM_drought
  simp only [qlet_e]
  by_cases h1 : 0 ≤ d ∧ d ≤ 36
  · rw [if_pos h1]
    by_cases h2 : 1 ≤ c ∧ c ≤ 255
    · rw [if_pos h2, bits2_is]
      by_cases h3 : 4 < (bsum c 8 : Int)
      · rw [if_pos h3]; exact ⟨frm_0 _ _ _, fun _ _ _ => rfl⟩
      · rw [if_neg h3]
        generalize hn : bsum c 8 = n at h3
        obtain ⟨C, c1, c2, c3⟩ := dr20 (d := d) (c := c) (w := w) 8 99999991 0 A (by decide) (fun j hj => absurd hj (Nat.not_lt_zero j))
        rw [show 99999991 + 8 + 1 = 100000000 from rfl, show ((bsum c 0 : Nat) : Int) = 0 from rfl, show ((0 : Nat) : Int) = 0 from rfl, hn] at c3
        rw [c3]
        by_cases hw : -1 ≤ w ∧ w ≤ (n : Int) - 1
        · rw [if_pos hw]
          obtain ⟨D, d1, d2, d3⟩ := dr52 (d := d) (w := w) (y := (n : Int)) 48 99999942 0 C (by decide) (by decide)
          rw [show 99999942 + 48 + 1 = 99999991 from rfl] at d3
          have e69 := dr69 (d := d) (w := w) (n := n) (by omega) n (99999941 - n) 0 D (by omega) (by decide)
          rw [show 99999941 - n + n + 1 = 99999942 by omega, Nat.sub_self, show ((p10 0 : Nat) : Int) = 1 from rfl] at e69
          rw [d3, e69]
          have hp := p10_bd (n := n) (by omega)
          obtain ⟨F1, E, b', g1, g2, g3⟩ := drloop (d := d) (w := w) (u := (p10 n : Int)) (n := n) (cc := C 60) (B0 := D) (by omega) (fun i i0 i1 => by rw [frm_a d1 (r := 60) rfl]) (by rw [← hn]; exact told8_inj c2) (by omega) (p10 n) (99999941 - n) 0 (-1) D (by omega) (by decide) (by omega) (frm_0 _ _ _)
          rw [g2]
          obtain ⟨F2, rfl⟩ : ∃ F2, F1 = (F2 + 48 + 1) + 1 := ⟨F1 - 50, by omega⟩
          rw [fM_drought_L82]
          unfold fM_drought_c82
          rw [if_neg (show ¬ (p10 n : Int) < (p10 n : Int) by omega)]
          obtain ⟨H, k1, k2, k3⟩ := dr172 (w := w) (b := b') 48 F2 0 E (by decide) (by decide)
          rw [k3]
          refine ⟨frm_c (frm_c (frm_c (frm_c (frm_0 _ _ _) c1 rfl) d1 rfl) g3 rfl) k1 rfl, fun i i0 i1 => ?_⟩
          show H 10 i = A 10 i
          rw [k2 i, if_pos ⟨i0, i1⟩, frm_a g3 (r := 59) rfl, d2 i, if_pos ⟨i0, i1⟩, frm_a c1 (r := 10) rfl]
        · rw [if_neg hw]
          exact ⟨frm_c (frm_0 _ _ _) c1 rfl, fun i _ _ => by show C 10 i = A 10 i; rw [frm_a c1 (r := 10) rfl]⟩
    · rw [if_neg h2]; exact ⟨frm_0 _ _ _, fun _ _ _ => rfl⟩
  · rw [if_neg h1]; exact ⟨frm_0 _ _ _, fun _ _ _ => rfl⟩
theorem GR_drought {A1 A2 B1 B2 : qA} {W1 : List Nat} {V1 : List (Nat × Nat)} (h : GR A1 A2) (f1 : frm W1 V1 A1 B1) (f2 : frm [10, 34, 35, 36, 37, 59, 60, 61, 62] [] A2 B2) (e : ∀ i, 0 ≤ i → i < 48 → B2 10 i = A2 10 i) (c1 : (okFr aC1 [(1, 0)] W1 V1 && (okFr aC2 [(15, 8), (0, 11)] W1 V1 && (okFr aC3 [(24, 9)] W1 V1 && okFr aC4 [(34, 4), (36, 7), (71, 7)] W1 V1))) = true) : GR B1 B2 := by
  have h1 : GR B1 A2 := GR_f h f1 (frm_0 [] [] A2) c1 rfl
  have e2 : B2 1 = A2 1 := frm_a f2 rfl
  refine ⟨⟨RHG_e h1.1.1 rfl e2, fun d a b s => ⟨?_, RK_e (h1.1.2 d a b s).2 (by rw [e2]) (at_0 _ _ _) (at_f f2 rfl)⟩⟩, RB_f h1.2.1 (frm_0 [] [] B1) f2 rfl rfl, RF_f h1.2.2.1 (frm_0 [] [] B1) f2 rfl rfl, RL_f h1.2.2.2 (frm_0 [] [] B1) f2 rfl rfl⟩
  obtain ⟨u1, u2⟩ := (h1.1.2 d a b s).1
  refine ⟨by rw [e2]; exact u1, fun z => ?_⟩
  rw [e2] at z
  rw [frm_a f2 (r := 3) rfl, frm_a f2 (r := 4) rfl, frm_a f2 (r := 5) rfl, frm_a f2 (r := 6) rfl, frm_a f2 (r := 9) rfl, e d a b]
  exact u2 z
