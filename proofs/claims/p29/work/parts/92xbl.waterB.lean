/-! WATER, in a drought -/
/-- one cell, in the class -/
theorem pstepB {l c : Int} (F : Nat) (B : qA) (c0 : 0 ≤ c) (c1 : c < 8) (l0 : 0 ≤ l) (l1 : l < 6) (v0 : 0 ≤ B 46 c) : ∃ C, fC_pourB_L (F + 1) 26 [l, c] B = fC_pourB_L F 26 [l, c + 1] C ∧ frm [45, 50] [] B C ∧ (∀ i, C 45 i = B 45 i + shr (B 46 c - (if B 46 c = 0 then 0 else min (B 46 c) (fC_needOf (6 * c + l) B))) c (if 0 ≤ 6 * c + l ∧ 6 * c + l ≤ 47 ∧ HG B (6 * c + l) then B 5 (6 * c + l) else 0) i) ∧ ∀ i, C 50 i = if i = 6 * c + l then (if B 46 c = 0 then 0 else min (B 46 c) (fC_needOf (6 * c + l) B)) else B 50 i := by
  rw [fC_pourB_L26]
  unfold fC_pourB_c26
  simp only [qlet_e]
  rw [if_pos c1, show c * 6 + l = 6 * c + l by omega]
  have e9 : ∀ k i, (qu B 50 (6 * c + l) k) 50 i = if i = 6 * c + l then k else B 50 i := fun k i => by
    by_cases q : i = 6 * c + l
    · rw [if_pos q, q, qu_at]
    · rw [if_neg q, qu_nj q]
  by_cases hv : B 46 c = 0
  · rw [if_pos hv, if_pos hv]
    refine ⟨_, rfl, frm_q (frm_0 _ _ _) rfl, fun i => ?_, fun i => e9 0 i⟩
    rw [hv, Int.sub_zero, shr_0, Int.add_zero, qu_ne (by decide)]
  · rw [if_neg hv, if_neg hv]
    have hkm : min (B 46 c) (fC_needOf (6 * c + l) B) ≤ B 46 c := Int.min_le_left _ _
    generalize min (B 46 c) (fC_needOf (6 * c + l) B) = k at hkm ⊢
    have f0 : frm [45, 50] [] B (qu B 50 (6 * c + l) k) := frm_q (frm_0 _ _ _) rfl
    have e1 : (qu B 50 (6 * c + l) k) 1 (fd 0) = B 1 (fd 0) := frm_f f0 rfl
    have e45 : (qu B 50 (6 * c + l) k) 45 = B 45 := qu_ne (by decide)
    have e5 : (qu B 50 (6 * c + l) k) 5 = B 5 := frm_a f0 rfl
    have hg := HG_k e1 (6 * c + l)
    by_cases hk : k < B 46 c
    · rw [if_pos hk, e5]
      by_cases hh : 0 ≤ 6 * c + l ∧ 6 * c + l ≤ 47 ∧ HG B (6 * c + l)
      · rw [if_pos hh, if_pos ⟨hh.1, hh.2.1, hg.mpr hh.2.2⟩]
        obtain ⟨p1, p2⟩ := passOn_is (d := B 46 c - k) (c := c) (w := B 5 (6 * c + l)) (by omega) (qu B 50 (6 * c + l) k)
        refine ⟨_, rfl, frm_c f0 p1 rfl, fun i => by rw [p2 i, e45], fun i => ?_⟩
        rw [frm_a p1 (r := 50) rfl]
        exact e9 k i
      · rw [if_neg hh, if_neg (fun z => hh ⟨z.1, z.2.1, hg.mp z.2.2⟩)]
        obtain ⟨p1, p2⟩ := passOn_is (d := B 46 c - k) (c := c) (w := 0) (by omega) (qu B 50 (6 * c + l) k)
        refine ⟨_, rfl, frm_c f0 p1 rfl, fun i => by rw [p2 i, e45], fun i => ?_⟩
        rw [frm_a p1 (r := 50) rfl]
        exact e9 k i
    · rw [if_neg hk]
      refine ⟨_, rfl, f0, fun i => ?_, fun i => e9 k i⟩
      have hz : shr (B 46 c - k) c (if 0 ≤ 6 * c + l ∧ 6 * c + l ≤ 47 ∧ HG B (6 * c + l) then B 5 (6 * c + l) else 0) i = 0 := by
        rw [show B 46 c - k = 0 by omega]
        exact shr_0 _ _ _
      rw [hz, Int.add_zero, e45]
def WIB (A1 A2 B1 B2 : qA) (l c : Int) : Prop := (frm [45, 46, 50] [] A1 B1 ∧ frm [36, 37, 10] [] A2 B2) ∧ (∀ i, 0 ≤ i → i < 8 → B1 46 i = B2 36 i ∧ 0 ≤ B2 36 i ∧ B2 36 i ≤ pw l) ∧ (∀ i, 0 ≤ i → i < 8 → B1 45 i = B2 37 i ∧ 0 ≤ B2 37 i ∧ B2 37 i ≤ c * pw l) ∧ ∀ d, 0 ≤ d → d < 48 → A2 1 d ≠ 0 → (d % 6 < l ∨ (d % 6 = l ∧ d / 6 < c)) → B1 50 d = B2 10 d
theorem keepB {A1 A2 B1 B2 : qA} {c l : Int} (hH : WH A1 A2) (f1 : frm [45, 46, 50] [] A1 B1) (f2 : frm [36, 37, 10] [] A2 B2) (c0 : 0 ≤ c) (c1 : c < 8) (l0 : 0 ≤ l) (l1 : l < 6) {v : Int} (v0 : 0 ≤ v) : (if v = 0 then 0 else min v (fC_needOf (6 * c + l) B1)) = (if B2 1 (6 * c + l) = 0 then 0 else kpM B2 (6 * c + l) v) := by
  have h := hH.1 (6 * c + l) (by omega) (by omega)
  have e1 : B1 1 (fd 0) = A1 1 (fd 0) := frm_f f1 rfl
  have hg := HG_k e1 (6 * c + l)
  unfold fC_needOf kpM
  simp only [qlet_e]
  rw [frm_a f1 (r := 6) rfl, frm_a f1 (r := 11) rfl, frm_a f2 (r := 1) rfl, frm_a f2 (r := 7) rfl, frm_a f2 (r := 11) rfl]
  by_cases hh : A2 1 (6 * c + l) = 0
  · rw [if_pos hh, if_neg (show ¬ (0 ≤ 6 * c + l ∧ 6 * c + l ≤ 47 ∧ HG B1 (6 * c + l) ∧ 0 ≤ A1 6 (6 * c + l) ∧ A1 6 (6 * c + l) ≤ 5) from fun z => h.1.mp (hg.mp z.2.2.1) hh)]
    split <;> omega
  · obtain ⟨_, h6, h7, _⟩ := h.2 hh
    rw [if_neg hh, h6]
    by_cases q : A2 7 (6 * c + l) = -1
    · rw [if_pos q, if_neg (show ¬ (0 ≤ 6 * c + l ∧ 6 * c + l ≤ 47 ∧ HG B1 (6 * c + l) ∧ 0 ≤ A2 7 (6 * c + l) ∧ A2 7 (6 * c + l) ≤ 5) from fun z => by omega)]
      split <;> omega
    · obtain ⟨k1, k2, _⟩ := hH.2 (A2 7 (6 * c + l)) (by omega) (by omega)
      rw [if_neg q, if_pos (show 0 ≤ 6 * c + l ∧ 6 * c + l ≤ 47 ∧ HG B1 (6 * c + l) ∧ 0 ≤ A2 7 (6 * c + l) ∧ A2 7 (6 * c + l) ≤ 5 from ⟨by omega, by omega, hg.mpr (h.1.mpr hh), by omega, by omega⟩), k1]
      split <;> omega
theorem rowB {A1 A2 : qA} (hH : WH A1 A2) {l : Int} (l0 : 0 ≤ l) (l1 : l < 6) : ∀ (m F1 F2 : Nat) (c : Int) (B1 B2 : qA), c + m = 8 → 0 ≤ c → WIB A1 A2 B1 B2 l c → ∃ C1 C2, WIB A1 A2 C1 C2 l 8 ∧ fC_pourB_L (F1 + m + 1) 26 [l, c] B1 = fC_pourB_L F1 9 [l + 1] C1 ∧ fM_flows_L (F2 + m + 1) 19 [l, c] B2 = fM_flows_L F2 35 [l, 0] C2
  | 0, F1, F2, c, B1, B2, hm, c0, h => by
    rw [fC_pourB_L26, fM_flows_L19]
    unfold fC_pourB_c26 fM_flows_c19
    simp only [qlet_e]
    rw [if_neg (show ¬ c < 8 by omega), if_neg (show ¬ c < 8 by omega)]
    rw [show c = 8 by omega] at h
    exact ⟨B1, B2, h, rfl, rfl⟩
  | m + 1, F1, F2, c, B1, B2, hm, c0, h => by
    obtain ⟨⟨f1, f2⟩, h46, h45, h9⟩ := h
    have c1 : c < 8 := by omega
    obtain ⟨v1, v2, v3⟩ := h46 c c0 c1
    obtain ⟨C1, p1, p2, p3, p4⟩ := pstepB (F1 + m + 1) B1 c0 c1 l0 l1 (by omega)
    have hpw := pw_bd (l := l) l0 (by omega)
    have hcp : c * pw l ≤ 8 * pw l := Int.mul_le_mul_of_nonneg_right (by omega) (by omega)
    have hc2 : (c + 1) * pw l = c * pw l + pw l := by rw [Int.add_mul, Int.one_mul]
    have hH1 := hH.1 (6 * c + l) (by omega) (by omega)
    have b1 : B2 1 = A2 1 := frm_a f2 rfl
    have b6 : B2 6 = A2 6 := frm_a f2 rfl
    have b7 : B2 7 = A2 7 := frm_a f2 rfl
    have b11 : B2 11 = A2 11 := frm_a f2 rfl
    have hwn : A2 1 (6 * c + l) ≠ 0 → A2 7 (6 * c + l) ≠ -1 → 0 ≤ A2 11 (A2 7 (6 * c + l)) := fun z w => by
      obtain ⟨_, _, u, _⟩ := hH1.2 z
      exact (hH.2 (A2 7 (6 * c + l)) (by omega) (by omega)).2.1
    obtain ⟨d1, d2, d3⟩ := drips_is (x := c) (l := l) (d := B2 36 c) (M := c * pw l) (A := B2) c0 c1 l0 l1 v2 (fun i i0 i1 => (h45 i i0 i1).2) (by omega) (by rw [b1, b6]; exact fun z => (hH1.2 z).2.2.2) (by rw [b1, b7, b11]; exact hwn)
    have hkeep := keepB hH f1 f2 c0 c1 l0 l1 (v := B2 36 c) v2
    rw [v1, hkeep] at p3 p4
    have hkb : 0 ≤ B2 36 c - (if B2 1 (6 * c + l) = 0 then 0 else kpM B2 (6 * c + l) (B2 36 c)) ∧ B2 36 c - (if B2 1 (6 * c + l) = 0 then 0 else kpM B2 (6 * c + l) (B2 36 c)) ≤ B2 36 c := by
      unfold kpM
      rw [b1, b7, b11]
      by_cases hz : A2 1 (6 * c + l) = 0
      · rw [if_pos hz]; omega
      · rw [if_neg hz]
        obtain ⟨_, _, u, _⟩ := hH1.2 hz
        by_cases hq : A2 7 (6 * c + l) = -1
        · rw [if_pos hq]; omega
        · rw [if_neg hq]
          have := (hH.2 (A2 7 (6 * c + l)) (by omega) (by omega)).2
          omega
    have hway : (if 0 ≤ 6 * c + l ∧ 6 * c + l ≤ 47 ∧ HG B1 (6 * c + l) then B1 5 (6 * c + l) else 0) = (if B2 1 (6 * c + l) = 0 then 0 else B2 6 (6 * c + l)) := by
      have e1 : B1 1 (fd 0) = A1 1 (fd 0) := frm_f f1 rfl
      have hg := HG_k e1 (6 * c + l)
      rw [b1, b6, frm_a f1 (r := 5) rfl]
      by_cases hz : A2 1 (6 * c + l) = 0
      · rw [if_pos hz, if_neg (fun z => hH1.1.mp (hg.mp z.2.2) hz)]
      · rw [if_neg hz, if_pos ⟨by omega, by omega, hg.mpr (hH1.1.mpr hz)⟩]
        exact (hH1.2 hz).1
    rw [hway] at p3
    have hkk : A2 1 (6 * c + l) ≠ 0 → kpM B2 (6 * c + l) (B2 36 c) = (if B2 1 (6 * c + l) = 0 then 0 else kpM B2 (6 * c + l) (B2 36 c)) := fun z => by rw [b1, if_neg z]
    generalize (if B2 1 (6 * c + l) = 0 then 0 else kpM B2 (6 * c + l) (B2 36 c)) = k at p3 p4 d2 hkb hkk
    generalize (if B2 1 (6 * c + l) = 0 then 0 else B2 6 (6 * c + l)) = w at p3 d2
    have hn : WIB A1 A2 C1 (fM_drips (6 * c + l) (B2 36 c) B2) l (c + 1) := by
      refine ⟨⟨frm_c f1 p2 rfl, frm_c f2 d1 rfl⟩, fun i i0 i1 => ?_, fun i i0 i1 => ?_, fun d e0 e1 e2 e3 => ?_⟩
      · rw [frm_a p2 (r := 46) rfl, frm_a d1 (r := 36) rfl]
        exact h46 i i0 i1
      · obtain ⟨u1, u2, u3⟩ := h45 i i0 i1
        have hs := shr_bd (d := B2 36 c - k) (c := c) (w := w) (i := i) hkb.1
        rw [p3 i, d2 i, u1, hc2]
        omega
      · rw [p4 d, d3 d, b1]
        by_cases q : d = 6 * c + l
        · rw [if_pos q]
          rw [q] at e2 ⊢
          rw [if_pos ⟨e2, rfl⟩]
          exact (hkk e2).symm
        · rw [if_neg q, if_neg (fun z => q z.2)]
          exact h9 d e0 e1 e2 (by omega)
    obtain ⟨D1, D2, r1, r2, r3⟩ := rowB hH l0 l1 m F1 F2 (c + 1) C1 (fM_drips (6 * c + l) (B2 36 c) B2) (by omega) (by omega) hn
    refine ⟨D1, D2, r1, ?_, ?_⟩
    · rw [show F1 + (m + 1) + 1 = (F1 + m + 1) + 1 by omega, p1]
      exact r2
    · rw [show F2 + (m + 1) + 1 = (F2 + m + 1) + 1 by omega, fM_flows_L19]
      unfold fM_flows_c19
      simp only [qlet_e]
      rw [if_pos c1, show wI (c + 1) = c + 1 from wI_id ⟨by omega, by omega⟩]
      exact r3
def WOB (A1 A2 B1 B2 : qA) (l : Int) : Prop := (frm [45, 46, 50] [] A1 B1 ∧ frm [36, 37, 10] [] A2 B2) ∧ (∀ i, 0 ≤ i → i < 8 → B1 45 i = B2 36 i ∧ 0 ≤ B2 36 i ∧ B2 36 i ≤ pw l) ∧ ∀ d, 0 ≤ d → d < 48 → A2 1 d ≠ 0 → (d % 6 < l) → B1 50 d = B2 10 d
theorem levelB {A1 A2 : qA} (hH : WH A1 A2) : ∀ (m F1 F2 : Nat) (l : Int) (B1 B2 : qA), l + m = 6 → 0 ≤ l → WOB A1 A2 B1 B2 l → WOB A1 A2 (fC_pourB_L (F1 + 10 * m + 1) 9 [l] B1) (fM_flows_L (F2 + 28 * m + 1) 2 [l] B2) 6
  | 0, F1, F2, l, B1, B2, hm, l0, h => by
    rw [fC_pourB_L9, fM_flows_L2]
    unfold fC_pourB_c9 fM_flows_c2
    simp only [qlet_e]
    rw [if_neg (show ¬ l < 6 by omega), if_neg (show ¬ l < 6 by omega)]
    rw [show l = 6 by omega] at h
    exact h
  | m + 1, F1, F2, l, B1, B2, hm, l0, h => by
    obtain ⟨⟨f1, f2⟩, h45, h9⟩ := h
    have l1 : l < 6 := by omega
    have hpw := pw_bd (l := l) l0 (by omega)
    rw [show F1 + 10 * (m + 1) + 1 = (F1 + 10 * m + 1 + 8 + 1) + 1 by omega, show F2 + 28 * (m + 1) + 1 = ((((F2 + 28 * m + 1) + 8 + 1) + 8 + 1) + 8 + 1) + 1 by omega, fC_pourB_L9, fM_flows_L2]
    unfold fC_pourB_c9 fM_flows_c2
    simp only [qlet_e]
    rw [if_pos l1, if_pos l1]
    obtain ⟨z1, z2⟩ := fill45_is (qcpy B1 45 0 46 0 8)
    have q46 : ∀ i, 0 ≤ i → i < 8 → (qcpy B1 45 0 46 0 8) 46 i = B1 45 i := fun i i0 i1 => by
      unfold qcpy
      rw [if_pos ⟨rfl, i0, by omega⟩]
      congr 1
      omega
    have fq : frm [45, 46, 50] [] B1 (qcpy B1 45 0 46 0 8) := frm_cp (frm_0 _ _ _) rfl rfl
    obtain ⟨U, u1, u2, u3⟩ := flow7 l 8 (((F2 + 28 * m + 1) + 8 + 1) + 8 + 1) 0 B2 (by decide) (by decide) (fun j j0 j1 => by omega)
    rw [u3]
    have hW : WIB A1 A2 (fC_fill45z 0 (qcpy B1 45 0 46 0 8)) U l 0 := by
      refine ⟨⟨frm_c (frm_c f1 fq rfl) z1 rfl, frm_c f2 u1 rfl⟩, fun i i0 i1 => ?_, fun i i0 i1 => ?_, fun d d0 d1 d2 d3 => ?_⟩
      · rw [frm_a z1 (r := 46) rfl, q46 i i0 i1, frm_a u1 (r := 36) rfl]
        exact h45 i i0 i1
      · rw [z2 i i0 i1, u2 i i0 i1]
        omega
      · rw [frm_a z1 (r := 50) rfl, frm_a u1 (r := 10) rfl, cp_a (r' := 50) (A := B1) (r0 := 45) (sp := 0) (r := 46) (dp := 0) (n := 8) rfl rfl]
        exact h9 d d0 d1 d2 (by omega)
    obtain ⟨D1, D2, ⟨⟨r1, r2⟩, r3, r4, r5⟩, r6, r7⟩ := rowB hH l0 l1 8 (F1 + 10 * m + 1) (((F2 + 28 * m + 1) + 8 + 1)) 0 _ _ (by decide) (by decide) hW
    rw [r6, r7]
    obtain ⟨G, g1, g2, g3⟩ := flow35 l0 l1 8 (F2 + 28 * m + 1) 0 D2 (by decide) (by decide) (fun j j0 j1 => by omega)
    rw [g3]
    refine levelB hH m F1 F2 (l + 1) D1 G (by omega) (by omega) ⟨⟨r1, frm_c r2 g1 rfl⟩, fun i i0 i1 => ?_, fun d d0 d1 d2 d3 => ?_⟩
    · rw [g2 i i0 i1, pw_s l0]
      exact r4 i i0 i1
    · rw [frm_a g1 (r := 10) rfl]
      exact r5 d d0 d1 d2 (by omega)
theorem pourB_e (A1 : qA) : fC_pourB A1 = fC_pourB_L 100000 9 [0] (qcpy A1 49 0 45 0 8) := (fC_pourB.eq_1 A1).trans (qlet.eq_1 _ _)
theorem pourB_F {A1 A2 : qA} (hH : WH A1 A2) (hv : ∀ i, 0 ≤ i → i < 8 → A1 49 i = A2 36 i ∧ 0 ≤ A2 36 i ∧ A2 36 i ≤ 99) (F1 F2 : Nat) : WOB A1 A2 (fC_pourB_L (F1 + 10 * 6 + 1) 9 [0] (qcpy A1 49 0 45 0 8)) (fM_flows_L (F2 + 28 * 6 + 1) 2 [0] A2) 6 := by
  have q45 : ∀ i, 0 ≤ i → i < 8 → (qcpy A1 49 0 45 0 8) 45 i = A1 49 i := fun i i0 i1 => by
    unfold qcpy
    rw [if_pos ⟨rfl, i0, by omega⟩]
    congr 1
    omega
  have fq : frm [45, 46, 50] [] A1 (qcpy A1 49 0 45 0 8) := frm_cp (frm_0 _ _ _) rfl rfl
  refine levelB hH 6 F1 F2 0 (qcpy A1 49 0 45 0 8) A2 (by decide) (by decide) ⟨⟨fq, frm_0 _ _ _⟩, fun i i0 i1 => ?_, fun d d0 d1 d2 d3 => ?_⟩
  · rw [q45 i i0 i1, pw_0]; exact hv i i0 i1
  · omega
theorem pourB_is {A1 A2 : qA} (hH : WH A1 A2) (hv : ∀ i, 0 ≤ i → i < 8 → A1 49 i = A2 36 i ∧ 0 ≤ A2 36 i ∧ A2 36 i ≤ 99) : WOB A1 A2 (fC_pourB A1) (fM_flows A2) 6 := by
  obtain ⟨F1, g1⟩ : ∃ F1 : Nat, F1 + 10 * 6 + 1 = 100000 := ⟨99939, by decide⟩
  obtain ⟨F2, g2⟩ : ∃ F2 : Nat, F2 + 28 * 6 + 1 = 100000 := ⟨99831, by decide⟩
  have key := pourB_F hH hv F1 F2
  rw [g1, g2] at key
  rw [pourB_e, flows_e]
  exact key
