/-! THE POLLEN: one step -/
theorem fill69_L (v n : Int) : ∀ (m F : Nat) (i : Int) (B : qA), m < F → n - i ≤ m → fC_fill69_L F 5 [v, i, n] B = fun r j => if r = 69 ∧ i ≤ j ∧ j < n then v else B r j
  | _, 0, _, _, h, _ => absurd h (Nat.not_lt_zero _)
  | m, F + 1, i, B, hF, hm => by
    rw [fC_fill69_L5]
    unfold fC_fill69_c5
    simp only [qlet_e]
    by_cases h : i < n
    · rw [if_pos h]
      cases m with
      | zero => exfalso; omega
      | succ m =>
        rw [fill69_L v n m F (i + 1) _ (by omega) (by omega)]
        funext r j
        by_cases h1 : r = 69 ∧ i + 1 ≤ j ∧ j < n
        · rw [if_pos h1, if_pos ⟨h1.1, by omega, h1.2.2⟩]
        · rw [if_neg h1, qu_is]
          by_cases h2 : r = 69 ∧ j = i
          · rw [if_pos h2, if_pos ⟨h2.1, by omega, by omega⟩]
          · rw [if_neg h2, if_neg (fun q => by
              by_cases h3 : j = i
              · exact h2 ⟨q.1, h3⟩
              · exact h1 ⟨q.1, by omega, q.2.2⟩)]
    · rw [if_neg h]
      funext r j
      rw [if_neg (fun q => by omega)]
theorem fill69_is (A : qA) : fC_fill69 0 A = fun r j => if r = 69 ∧ 0 ≤ j ∧ j < 24 then 0 else A r j := fill69_L 0 24 24 100000 0 A (by decide) (by decide)
theorem sm_mono {f : Int → Int} {m : Nat} (h : ∀ j, 0 ≤ j → j < (m : Int) → 0 ≤ f j) : ∀ n : Nat, n ≤ m → sm f n ≤ sm f m := by
  induction m with
  | zero => intro n hn; rw [show n = 0 by omega]; exact Int.le_refl _
  | succ m ih =>
    intro n hn
    have h1 := h m (by omega) (by omega)
    by_cases e : n = m + 1
    · rw [e]; exact Int.le_refl _
    · have := ih (fun j j0 j1 => h j j0 (by omega)) n (by omega)
      show sm f n ≤ sm f m + f m
      omega
theorem arr_ex {c t v to b : Int} {B : qA} (hb : 0 ≤ B 69 (dst b to c t)) (v0 : 0 ≤ v) (hb2 : B 69 (dst b to c t) + v ≤ 2000000000) : ∃ B', fC_arrive c t v to b B = B' ∧ B' 69 = ad (B 69) (dst b to c t) v ∧ B' 70 = B 70 ∧ B' 68 = B 68 := by
  refine ⟨_, rfl, ?_⟩
  rw [arr_is, show wI (B 69 (dst b to c t) + v) = B 69 (dst b to c t) + v from wI_id ⟨by omega, by omega⟩]
  exact ⟨qu_ad _ _ _ _, qu_ne (by decide), qu_ne (by decide)⟩
theorem fly_k {F : Nat} {to b n i x t v : Int} {B : qA} (x0 : 0 ≤ x) (x1 : x < 8) (t0 : 0 ≤ t) (t1 : t < 3) (hv : B 70 (x * 3 + t) = v) (v0 : 0 ≤ v) (hW : ∀ j, 0 ≤ j → j < 24 → 0 ≤ B 69 j ∧ B 69 j + 3 * v ≤ 2000000000) : ∃ B', fC_fly_L (F + 1) 33 [to, b, n, i, x * 3 + t] B = fC_fly_L F 33 [to, b, n, i, x * 3 + t + 1] B' ∧ B' 69 = ad (ad (ad (B 69) (dst b to (max 0 (x - 1)) t) v) (dst b to x t) v) (dst b to (min 7 (x + 1)) t) v ∧ B' 70 = B 70 ∧ B' 68 = B 68 := by
  have q1 : qd (x * 3 + t) 3 = x := by
    show Int.tdiv (x * 3 + t) 3 = x
    rw [Int.tdiv_eq_ediv_of_nonneg (by omega)]; omega
  have q2 : qm (x * 3 + t) 3 = t := by
    show Int.tmod (x * 3 + t) 3 = t
    rw [Int.tmod_eq_emod_of_nonneg (by omega)]; omega
  have d1 := dst_r (b := b) (to := to) (show 0 ≤ max 0 (x - 1) by omega) (by omega) t0 t1
  have d2 := dst_r (b := b) (to := to) x0 x1 t0 t1
  have d3 := dst_r (b := b) (to := to) (show 0 ≤ min 7 (x + 1) by omega) (by omega) t0 t1
  rw [fC_fly_L33]
  unfold fC_fly_c33
  simp only [qlet_e]
  rw [if_pos (show x * 3 + t < 24 by omega), q1, q2, hv, show wI (x - 1) = x - 1 from wI_id ⟨by omega, by omega⟩, show wI x = x from wI_id ⟨by omega, by omega⟩, show wI (x + 1) = x + 1 from wI_id ⟨by omega, by omega⟩, show wI (x * 3 + t + 1) = x * 3 + t + 1 from wI_id ⟨by omega, by omega⟩]
  have b1 := hW _ d1.1 d1.2
  obtain ⟨B1, e1, w1, r1, s1⟩ := arr_ex (c := max 0 (x - 1)) (t := t) (to := to) (b := b) b1.1 v0 (by omega)
  rw [e1]
  have b2 := hW _ d2.1 d2.2
  have a2 := ad_le (f := B 69) (i := dst b to (max 0 (x - 1)) t) (j := dst b to x t) v0
  rw [← w1] at a2
  obtain ⟨B2, e2, w2, r2, s2⟩ := arr_ex (c := x) (t := t) (to := to) (b := b) (B := B1) (by omega) v0 (by omega)
  rw [e2]
  have b3 := hW _ d3.1 d3.2
  have a3 := ad_le (f := B 69) (i := dst b to (max 0 (x - 1)) t) (j := dst b to (min 7 (x + 1)) t) v0
  rw [← w1] at a3
  have a4 := ad_le (f := B1 69) (i := dst b to x t) (j := dst b to (min 7 (x + 1)) t) v0
  rw [← w2] at a4
  obtain ⟨B3, e3, w3, r3, s3⟩ := arr_ex (c := min 7 (x + 1)) (t := t) (to := to) (b := b) (B := B2) (by omega) v0 (by omega)
  rw [e3]
  refine ⟨B3, rfl, ?_, ?_, ?_⟩
  · rw [w3, w2, w1]
  · rw [r3, r2, r1]
  · rw [s3, s2, s1]
theorem flies_b {F : Nat} {x b r : Int} {B : qA} (hb : b < 2) (hr : fM_moved x b B = r) (n0 : 0 ≤ B 54 x) (y0 : 0 ≤ B 55 x) (h1 : 0 ≤ B 56 r ∧ B 56 r + B 54 x ≤ 2000000000) (h2 : 0 ≤ B 57 r ∧ B 57 r + B 55 x ≤ 2000000000) : ∃ B', fM_flies2_L (F + 1) 24 [x, b] B = fM_flies2_L F 24 [x, b + 1] B' ∧ B' 56 = ad (B 56) r (B 54 x) ∧ B' 57 = ad (B 57) r (B 55 x) ∧ (B' 54 = B 54 ∧ B' 55 = B 55 ∧ B' 1 = B 1 ∧ B' 7 = B 7) := by
  rw [fM_flies2_L24]
  unfold fM_flies2_c24
  simp only [qlet_e]
  rw [if_pos hb, hr]
  unfold jadd
  rw [show wL (B 56 r + B 54 x) = B 56 r + B 54 x from wL_id ⟨by omega, by omega⟩]
  have e57 : (qu B 56 r (B 56 r + B 54 x)) 57 = B 57 := qu_ne (by decide)
  have e55 : (qu B 56 r (B 56 r + B 54 x)) 55 = B 55 := qu_ne (by decide)
  rw [e57, e55, show wL (B 57 r + B 55 x) = B 57 r + B 55 x from wL_id ⟨by omega, by omega⟩]
  refine ⟨_, rfl, ?_, ?_, ?_, ?_, ?_, ?_⟩
  · rw [qu_ne (by decide), qu_ad]
  · rw [← e57, qu_ad, e57]
  · rw [qu_ne (by decide), qu_ne (by decide)]
  · rw [qu_ne (by decide), qu_ne (by decide)]
  · rw [qu_ne (by decide), qu_ne (by decide)]
  · rw [qu_ne (by decide), qu_ne (by decide)]
theorem mv_a {x : Int} {B : qA} (x0 : 0 ≤ x) (x1 : x < 8) : fM_moved x (-1) B = max 0 (x - 1) := by
  unfold fM_moved
  simp only [qlet_e]
  by_cases h : x + -1 < 0
  · rw [if_pos h]; omega
  · rw [if_neg h, if_neg (by omega)]; omega
theorem mv_b {x : Int} {B : qA} (x0 : 0 ≤ x) (x1 : x < 8) : fM_moved x 0 B = x := by
  unfold fM_moved
  simp only [qlet_e]
  rw [if_neg (by omega), if_neg (by omega)]; omega
theorem mv_c {x : Int} {B : qA} (x0 : 0 ≤ x) (x1 : x < 8) : fM_moved x 1 B = min 7 (x + 1) := by
  unfold fM_moved
  simp only [qlet_e]
  rw [if_neg (show ¬ x + 1 < 0 by omega)]
  by_cases h : 7 < x + 1
  · rw [if_pos h]; omega
  · rw [if_neg h]; omega
theorem flies_x {F : Nat} {x : Int} {B : qA} (x0 : 0 ≤ x) (x1 : x < 8) (n0 : 0 ≤ B 54 x) (y0 : 0 ≤ B 55 x) (h : ∀ y, 0 ≤ y → y < 8 → (0 ≤ B 56 y ∧ B 56 y + 3 * B 54 x ≤ 2000000000) ∧ (0 ≤ B 57 y ∧ B 57 y + 3 * B 55 x ≤ 2000000000)) : ∃ B', fM_flies2_L (F + 5) 19 [x] B = fM_flies2_L F 19 [x + 1] B' ∧ B' 56 = ad (ad (ad (B 56) (max 0 (x - 1)) (B 54 x)) x (B 54 x)) (min 7 (x + 1)) (B 54 x) ∧ B' 57 = ad (ad (ad (B 57) (max 0 (x - 1)) (B 55 x)) x (B 55 x)) (min 7 (x + 1)) (B 55 x) ∧ (B' 54 = B 54 ∧ B' 55 = B 55 ∧ B' 1 = B 1 ∧ B' 7 = B 7) := by
  rw [show F + 5 = (F + 4) + 1 by omega, fM_flies2_L19]
  unfold fM_flies2_c19
  rw [if_pos x1]
  have q1 := h (max 0 (x - 1)) (by omega) (by omega)
  obtain ⟨B1, e1, a1, c1, d1, f1, g1, k1⟩ := flies_b (F := F + 3) (x := x) (b := -1) (r := max 0 (x - 1)) (B := B) (by decide) (mv_a x0 x1) n0 y0 ⟨q1.1.1, by omega⟩ ⟨q1.2.1, by omega⟩
  rw [e1, show (-1 : Int) + 1 = 0 by decide]
  have q2 := h x x0 x1
  have p2 := ad_le (f := B 56) (i := max 0 (x - 1)) (j := x) n0
  have p3 := ad_le (f := B 57) (i := max 0 (x - 1)) (j := x) y0
  rw [← a1] at p2
  rw [← c1] at p3
  obtain ⟨B2, e2, a2, c2, d2, f2, g2, k2⟩ := flies_b (F := F + 2) (x := x) (b := 0) (r := x) (B := B1) (by decide) (mv_b x0 x1) (by rw [d1]; exact n0) (by rw [f1]; exact y0) (by rw [d1]; exact ⟨by omega, by omega⟩) (by rw [f1]; exact ⟨by omega, by omega⟩)
  rw [d1] at a2
  rw [f1] at c2
  rw [e2, show (0 : Int) + 1 = 1 by decide]
  have q3 := h (min 7 (x + 1)) (by omega) (by omega)
  have p4 := ad_le (f := B 56) (i := max 0 (x - 1)) (j := min 7 (x + 1)) n0
  have p5 := ad_le (f := B 57) (i := max 0 (x - 1)) (j := min 7 (x + 1)) y0
  rw [← a1] at p4
  rw [← c1] at p5
  have p6 := ad_le (f := B1 56) (i := x) (j := min 7 (x + 1)) n0
  have p7 := ad_le (f := B1 57) (i := x) (j := min 7 (x + 1)) y0
  rw [← a2] at p6
  rw [← c2] at p7
  obtain ⟨B3, e3, a3, c3, d3, f3, g3, k3⟩ := flies_b (F := F + 1) (x := x) (b := 1) (r := min 7 (x + 1)) (B := B2) (by decide) (mv_c x0 x1) (by rw [d2, d1]; exact n0) (by rw [f2, f1]; exact y0) (by rw [d2, d1]; exact ⟨by omega, by omega⟩) (by rw [f2, f1]; exact ⟨by omega, by omega⟩)
  rw [d2, d1] at a3
  rw [f2, f1] at c3
  rw [e3, show (1 : Int) + 1 = 2 by decide, fM_flies2_L24]
  unfold fM_flies2_c24
  simp only [qlet_e]
  rw [if_neg (by decide)]
  refine ⟨B3, rfl, ?_, ?_, ?_, ?_, ?_, ?_⟩
  · rw [a3, a2, a1]
  · rw [c3, c2, c1]
  · rw [d3, d2, d1]
  · rw [f3, f2, f1]
  · rw [g3, g2, g1]
  · rw [k3, k2, k1]
theorem col_x {F1 F2 : Nat} {to b n i x s t : Int} {B1 B2 : qA} (x0 : 0 ≤ x) (x1 : x < 8) (t0 : 0 ≤ to) (t1 : to < 8) (hP : PR b to (B1 69) (B2 56) (B2 57) s t) (hn : B1 70 (x * 3) = B2 54 x) (hy : B1 70 (x * 3 + 1) = B2 55 x) (n0 : 0 ≤ B1 70 (x * 3)) (y0 : 0 ≤ B1 70 (x * 3 + 1)) (z0 : 0 ≤ B1 70 (x * 3 + 2)) (hT : t + 3 * (B1 70 (x * 3) + B1 70 (x * 3 + 1) + B1 70 (x * 3 + 2)) ≤ 2000000000) : ∃ B1' B2', fC_fly_L (F1 + 3) 33 [to, b, n, i, x * 3] B1 = fC_fly_L F1 33 [to, b, n, i, (x + 1) * 3] B1' ∧ fM_flies2_L (F2 + 5) 19 [x] B2 = fM_flies2_L F2 19 [x + 1] B2' ∧ PR b to (B1' 69) (B2' 56) (B2' 57) (s + 3 * B1 70 (x * 3 + 2)) (t + 3 * (B1 70 (x * 3) + B1 70 (x * 3 + 1) + B1 70 (x * 3 + 2))) ∧ (B1' 70 = B1 70 ∧ B1' 68 = B1 68) ∧ (B2' 54 = B2 54 ∧ B2' 55 = B2 55 ∧ B2' 1 = B2 1 ∧ B2' 7 = B2 7) := by
  have hsN := sm_le (f := B2 56) 8 (fun j j0 j1 => (hP.2.2.2.2.2.1 j j0 (by omega)).1)
  have hsY := sm_le (f := B2 57) 8 (fun j j0 j1 => (hP.2.2.2.2.2.1 j j0 (by omega)).2)
  have hst := hP.2.2.2.2.2.2
  obtain ⟨C2, e2, a2, c2, d2⟩ := flies_x (F := F2) x0 x1 (hn ▸ n0) (hy ▸ y0) (fun y u0 u1 => ⟨⟨(hP.2.2.2.2.2.1 y u0 u1).1, by
    have := hsN.2 y u0 (by omega)
    rw [← hn]; omega⟩, (hP.2.2.2.2.2.1 y u0 u1).2, by
    have := hsY.2 y u0 (by omega)
    rw [← hy]; omega⟩)
  rw [← hn] at a2
  rw [← hy] at c2
  have m0 : 0 ≤ max 0 (x - 1) := by omega
  have m1 : max 0 (x - 1) < 8 := by omega
  have m2 : 0 ≤ min 7 (x + 1) := by omega
  have m3 : min 7 (x + 1) < 8 := by omega
  have P0 := PR_0 (PR_0 (PR_0 hP m0 m1 t0 t1 n0) x0 x1 t0 t1 n0) m2 m3 t0 t1 n0
  have hl := fun (W : Int → Int) (u : Int) (h0 : ∀ j, 0 ≤ j → j < 24 → 0 ≤ W j) (h1 : sm W 24 = u) => (fun j j0 j1 => (⟨h0 j j0 j1, h1 ▸ (sm_le 24 (fun k k0 k1 => h0 k k0 (by omega))).2 j j0 (by omega)⟩ : 0 ≤ W j ∧ W j ≤ u) : ∀ j, 0 ≤ j → j < 24 → 0 ≤ W j ∧ W j ≤ u)
  obtain ⟨D1, f1, w1, r1, s1⟩ := fly_k (F := F1 + 2) (to := to) (b := b) (n := n) (i := i) (t := 0) (B := B1) x0 x1 (by decide) (by decide) (by rw [Int.add_zero]) n0 (fun j j0 j1 => by
    have := hl _ _ hP.2.2.2.1 hP.2.2.2.2.1 j j0 j1
    exact ⟨this.1, by omega⟩)
  rw [← w1] at P0
  simp only [Int.add_zero] at f1
  rw [← r1] at y0 z0
  have P1 := PR_1 (PR_1 (PR_1 P0 m0 m1 t0 t1 y0) x0 x1 t0 t1 y0) m2 m3 t0 t1 y0
  obtain ⟨D2, f2, w2, r2, s2⟩ := fly_k (F := F1 + 1) (to := to) (b := b) (n := n) (i := i) (t := 1) (B := D1) x0 x1 (by decide) (by decide) rfl y0 (fun j j0 j1 => by
    have := hl _ _ P0.2.2.2.1 P0.2.2.2.2.1 j j0 j1
    rw [r1] at y0 z0 ⊢
    exact ⟨this.1, by omega⟩)
  rw [← w2] at P1
  rw [← r2] at z0
  have P2 := PR_2 (PR_2 (PR_2 P1 m0 m1 z0) x0 x1 z0) m2 m3 z0
  obtain ⟨D3, f3, w3, r3, s3⟩ := fly_k (F := F1) (to := to) (b := b) (n := n) (i := i) (t := 2) (B := D2) x0 x1 (by decide) (by decide) rfl z0 (fun j j0 j1 => by
    have := hl _ _ P1.2.2.2.1 P1.2.2.2.2.1 j j0 j1
    rw [r2, r1] at z0 ⊢
    rw [r1] at this
    exact ⟨this.1, by omega⟩)
  rw [← w3] at P2
  refine ⟨D3, C2, ?_, e2, ?_, ⟨by rw [r3, r2, r1], by rw [s3, s2, s1]⟩, d2⟩
  · rw [show F1 + 3 = (F1 + 2) + 1 by omega, f1, show F1 + 2 = (F1 + 1) + 1 by omega, f2, show x * 3 + 1 + 1 = x * 3 + 2 by omega, f3, show x * 3 + 2 + 1 = (x + 1) * 3 by omega]
  · rw [r2, r1] at P2
    rw [a2, c2]
    have e : s + 3 * B1 70 (x * 3 + 2) = s + B1 70 (x * 3 + 2) + B1 70 (x * 3 + 2) + B1 70 (x * 3 + 2) := by omega
    rw [e]
    have e : t + 3 * (B1 70 (x * 3) + B1 70 (x * 3 + 1) + B1 70 (x * 3 + 2)) = t + B1 70 (x * 3) + B1 70 (x * 3) + B1 70 (x * 3) + B1 70 (x * 3 + 1) + B1 70 (x * 3 + 1) + B1 70 (x * 3 + 1) + B1 70 (x * 3 + 2) + B1 70 (x * 3 + 2) + B1 70 (x * 3 + 2) := by omega
    rw [e]
    exact P2
theorem cols_x {to b n i : Int} (t0 : 0 ≤ to) (t1 : to < 8) (O : Int → Int) (hO : ∀ j, 0 ≤ j → j < 24 → 0 ≤ O j) (hT : 3 * sm O 24 ≤ 2000000000) : ∀ (m x F1 F2 : Nat) (B1 B2 : qA), x + m = 8 → PR b to (B1 69) (B2 56) (B2 57) (3 * sb O x) (3 * sm O (3 * x)) → B1 70 = O → (∀ y, 0 ≤ y → y < 8 → O (y * 3) = B2 54 y ∧ O (y * 3 + 1) = B2 55 y) → ∃ B1' B2', fC_fly_L (F1 + 3 * m) 33 [to, b, n, i, (x : Int) * 3] B1 = fC_fly_L F1 33 [to, b, n, i, 24] B1' ∧ fM_flies2_L (F2 + 5 * m) 19 [(x : Int)] B2 = fM_flies2_L F2 19 [8] B2' ∧ PR b to (B1' 69) (B2' 56) (B2' 57) (3 * sb O 8) (3 * sm O 24) ∧ (B1' 70 = O ∧ B1' 68 = B1 68) ∧ (B2' 54 = B2 54 ∧ B2' 55 = B2 55 ∧ B2' 1 = B2 1 ∧ B2' 7 = B2 7) := by
  intro m
  induction m with
  | zero =>
    intro x F1 F2 B1 B2 hx hP h70 hr
    have e : x = 8 := by omega
    subst e
    exact ⟨B1, B2, rfl, rfl, hP, ⟨h70, rfl⟩, rfl, rfl, rfl, rfl⟩
  | succ m ih =>
    intro x F1 F2 B1 B2 hx hP h70 hr
    have hx8 : (x : Int) < 8 := by omega
    have hh := hr x (by omega) hx8
    have u0 := hO ((x : Int) * 3) (by omega) (by omega)
    have u1 := hO ((x : Int) * 3 + 1) (by omega) (by omega)
    have u2 := hO ((x : Int) * 3 + 2) (by omega) (by omega)
    have es : sm O (3 * (x + 1)) = sm O (3 * x) + O ((x : Int) * 3) + O ((x : Int) * 3 + 1) + O ((x : Int) * 3 + 2) := by
      show sm O (3 * x) + O ((3 * x : Nat) : Int) + O ((3 * x + 1 : Nat) : Int) + O ((3 * x + 2 : Nat) : Int) = _
      rw [show ((3 * x : Nat) : Int) = (x : Int) * 3 by omega, show ((3 * x + 1 : Nat) : Int) = (x : Int) * 3 + 1 by omega, show ((3 * x + 2 : Nat) : Int) = (x : Int) * 3 + 2 by omega]
    have em := sm_mono (m := 24) (fun j j0 j1 => hO j j0 (by omega)) (3 * (x + 1)) (by omega)
    have eb : sb O (x + 1) = sb O x + O ((x : Int) * 3 + 2) := rfl
    rw [← h70] at hh u0 u1 u2 es
    obtain ⟨C1, C2, e1, e2, hP2, c1, c2⟩ := col_x (F1 := F1 + 3 * m) (F2 := F2 + 5 * m) (n := n) (i := i) (by omega) hx8 t0 t1 hP hh.1 hh.2 u0 u1 u2 (by rw [h70] at es ⊢; omega)
    rw [show F1 + 3 * (m + 1) = F1 + 3 * m + 3 by omega, show F2 + 5 * (m + 1) = F2 + 5 * m + 5 by omega, e1, e2]
    rw [h70] at hP2 es
    rw [show 3 * sb O x + 3 * O ((x : Int) * 3 + 2) = 3 * sb O (x + 1) by omega, show 3 * sm O (3 * x) + 3 * (O ((x : Int) * 3) + O ((x : Int) * 3 + 1) + O ((x : Int) * 3 + 2)) = 3 * sm O (3 * (x + 1)) by omega] at hP2
    obtain ⟨D1, D2, g1, g2, g3, g4, g5⟩ := ih (x + 1) F1 F2 C1 C2 (by omega) hP2 (c1.1.trans h70) (fun y y0 y1 => by rw [c2.1, c2.2.1]; exact hr y y0 y1)
    rw [show (((x + 1 : Nat) : Int)) = (x : Int) + 1 by omega] at g1 g2
    refine ⟨D1, D2, g1, g2, g3, ⟨g4.1, g4.2.trans c1.2⟩, g5.1.trans c2.1, g5.2.1.trans c2.2.1, g5.2.2.1.trans c2.2.2.1, g5.2.2.2.trans c2.2.2.2⟩
