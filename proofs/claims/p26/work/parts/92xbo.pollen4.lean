/-! THE POLLEN: from step to step -/
theorem flies_63 {F : Nat} : ∀ (m : Nat) (x : Int) (B : qA), x + m = 8 → 0 ≤ x → ∃ C, fM_flies2_L (F + m + 1) 63 [x] B = C ∧ (∀ y, 0 ≤ y → y < 8 → C 54 y = (if x ≤ y then B 56 y else B 54 y) ∧ C 55 y = (if x ≤ y then B 57 y else B 55 y)) ∧ (C 1 = B 1 ∧ C 7 = B 7) := by
  intro m
  induction m with
  | zero =>
    intro x B hx x0
    rw [show F + 0 + 1 = F + 1 by omega, fM_flies2_L63]
    unfold fM_flies2_c63
    rw [if_neg (by omega)]
    exact ⟨B, rfl, fun y y0 y1 => ⟨by rw [if_neg (by omega)], by rw [if_neg (by omega)]⟩, rfl, rfl⟩
  | succ m ih =>
    intro x B hx x0
    rw [show F + (m + 1) + 1 = (F + m + 1) + 1 by omega, fM_flies2_L63]
    unfold fM_flies2_c63
    simp only [qlet_e]
    rw [if_pos (by omega)]
    obtain ⟨C, e, h1, h2, h3⟩ := ih (x + 1) (qu (qu B 54 x (B 56 x)) 55 x ((qu B 54 x (B 56 x)) 57 x)) (by omega) (by omega)
    refine ⟨C, e, fun y y0 y1 => ?_, ?_, ?_⟩
    · rw [(h1 y y0 y1).1, (h1 y y0 y1).2]
      simp only [qu_is]
      by_cases hy : x + 1 ≤ y
      · rw [if_pos hy, if_pos hy, if_pos (show x ≤ y by omega), if_pos (show x ≤ y by omega)]
        simp
      · rw [if_neg hy, if_neg hy]
        by_cases hy2 : y = x
        · subst hy2
          simp
        · rw [if_neg (show ¬ x ≤ y by omega), if_neg (show ¬ x ≤ y by omega)]
          simp [hy2]
    · rw [h2, qu_ne (by decide), qu_ne (by decide)]
    · rw [h3, qu_ne (by decide), qu_ne (by decide)]
theorem flies_2 {F : Nat} : ∀ (m : Nat) (x : Int) (B : qA), x + m = 8 → 0 ≤ x → ∃ C, fM_flies2_L (F + m + 1) 2 [x] B = fM_flies2_L F 19 [0] C ∧ (∀ y, x ≤ y → y < 8 → C 56 y = 0 ∧ C 57 y = 0) ∧ (∀ y, y < x → C 56 y = B 56 y ∧ C 57 y = B 57 y) ∧ (C 54 = B 54 ∧ C 55 = B 55 ∧ C 1 = B 1 ∧ C 7 = B 7) := by
  intro m
  induction m with
  | zero =>
    intro x B hx x0
    rw [show F + 0 + 1 = F + 1 by omega, fM_flies2_L2]
    unfold fM_flies2_c2
    rw [if_neg (by omega)]
    exact ⟨B, rfl, fun y y0 y1 => by omega, fun y y0 => ⟨rfl, rfl⟩, rfl, rfl, rfl, rfl⟩
  | succ m ih =>
    intro x B hx x0
    rw [show F + (m + 1) + 1 = (F + m + 1) + 1 by omega, fM_flies2_L2]
    unfold fM_flies2_c2
    simp only [qlet_e]
    rw [if_pos (by omega)]
    obtain ⟨C, e, h1, h2, h3, h4, h5, h6⟩ := ih (x + 1) (qu (qu B 56 x 0) 57 x 0) (by omega) (by omega)
    refine ⟨C, e, fun y y0 y1 => ?_, fun y y0 => ?_, ?_, ?_, ?_, ?_⟩
    · by_cases hy : y = x
      · rw [(h2 y (by omega)).1, (h2 y (by omega)).2, hy]
        simp [qu_is]
      · exact h1 y (by omega) y1
    · rw [(h2 y (by omega)).1, (h2 y (by omega)).2]
      have : ¬ y = x := by omega
      simp [qu_is, this]
    · rw [h3, qu_ne (by decide), qu_ne (by decide)]
    · rw [h4, qu_ne (by decide), qu_ne (by decide)]
    · rw [h5, qu_ne (by decide), qu_ne (by decide)]
    · rw [h6, qu_ne (by decide), qu_ne (by decide)]
/-- who flies with pollen -/
def hz (k : Int) (A : qA) (y : Int) : Prop := fM_hasKind y k A = 0
theorem take_L {to k : Int} {A : qA} (t0 : 0 ≤ to) (t1 : to < 8) : ∀ (m F : Nat) (x : Int) (B : qA), x + m = 8 → 0 ≤ x → B 1 = A 1 → B 7 = A 7 → (∀ y, 0 ≤ y → y < 8 → 0 ≤ B 54 y ∧ 0 ≤ B 55 y ∧ B 54 y + B 55 y ≤ 2000000000) → ∃ r C, fM_takesUp2_L (F + m + 1) 2 [to, k, x] B = (r, C) ∧ r = B 55 to + (if x ≤ to ∧ fM_hasKind to k A ≠ 0 then B 54 to else 0) ∧ (∀ y, 0 ≤ y → y < 8 → C 54 y = (if x ≤ y ∧ fM_hasKind y k A ≠ 0 then 0 else B 54 y) ∧ C 55 y = (if y = to then 0 else B 55 y + if x ≤ y ∧ fM_hasKind y k A ≠ 0 then B 54 y else 0)) ∧ (C 1 = A 1 ∧ C 7 = A 7) := by
  intro m
  induction m with
  | zero =>
    intro F x B hx x0 b1 b7 hb
    rw [show F + 0 + 1 = F + 1 by omega, fM_takesUp2_L2]
    unfold fM_takesUp2_c2
    simp only [qlet_e]
    rw [if_neg (by omega)]
    refine ⟨_, _, rfl, ?_, fun y y0 y1 => ⟨?_, ?_⟩, ?_, ?_⟩
    · rw [if_neg (fun q => by omega)]; omega
    · rw [if_neg (fun q => by omega), qu_ne (by decide)]
    · rw [if_neg (show ¬ (x ≤ y ∧ _) from fun q => by omega), qu_is]
      by_cases h : y = to
      · rw [if_pos ⟨rfl, h⟩, if_pos h]
      · rw [if_neg (fun q => h q.2), if_neg h]; omega
    · rw [qu_ne (by decide)]; exact b1
    · rw [qu_ne (by decide)]; exact b7
  | succ m ih =>
    intro F x B hx x0 b1 b7 hb
    rw [show F + (m + 1) + 1 = (F + m + 1) + 1 by omega, fM_takesUp2_L2]
    unfold fM_takesUp2_c2
    simp only [qlet_e]
    rw [if_pos (by omega)]
    have hk : fM_hasKind x k B = 0 ↔ fM_hasKind x k A = 0 := by rw [haskind_is, haskind_is, b1, b7]
    by_cases h0 : fM_hasKind x k A = 0
    · rw [if_pos (hk.mpr h0)]
      obtain ⟨r, C, e, e1, e2, e3⟩ := ih F (x + 1) B (by omega) (by omega) b1 b7 hb
      refine ⟨r, C, e, ?_, fun y y0 y1 => ?_, e3⟩
      · rw [e1]
        by_cases hx2 : to = x
        · rw [if_neg (fun q => by omega), if_neg (fun q => q.2 (hx2 ▸ h0))]
        · by_cases q : x + 1 ≤ to ∧ fM_hasKind to k A ≠ 0
          · rw [if_pos q, if_pos ⟨by omega, q.2⟩]
          · rw [if_neg q, if_neg (fun z => q ⟨by omega, z.2⟩)]
      · rw [(e2 y y0 y1).1, (e2 y y0 y1).2]
        by_cases hx2 : y = x
        · have n1 : ¬ (x + 1 ≤ y ∧ fM_hasKind y k A ≠ 0) := fun q => by omega
          have n2 : ¬ (x ≤ y ∧ fM_hasKind y k A ≠ 0) := fun q => q.2 (hx2 ▸ h0)
          rw [if_neg n1, if_neg n1, if_neg n2, if_neg n2]
          exact ⟨rfl, rfl⟩
        · by_cases q : x + 1 ≤ y ∧ fM_hasKind y k A ≠ 0
          · have q2 : x ≤ y ∧ fM_hasKind y k A ≠ 0 := ⟨by omega, q.2⟩
            rw [if_pos q, if_pos q, if_pos q2, if_pos q2]
            exact ⟨rfl, rfl⟩
          · have q2 : ¬ (x ≤ y ∧ fM_hasKind y k A ≠ 0) := fun z => q ⟨by omega, z.2⟩
            rw [if_neg q, if_neg q, if_neg q2, if_neg q2]
            exact ⟨rfl, rfl⟩
    · rw [if_neg (fun z => h0 (hk.mp z))]
      have hbx := hb x x0 (by omega)
      unfold jadd
      rw [show wL (B 55 x + B 54 x) = B 55 x + B 54 x from wL_id ⟨by omega, by omega⟩]
      have ha : ∀ y, (qu (qu B 55 x (B 55 x + B 54 x)) 54 x 0) 54 y = if y = x then 0 else B 54 y := fun y => by
        by_cases q : y = x
        · simp [qu_is, q]
        · simp [qu_is, q]
      have hc : ∀ y, (qu (qu B 55 x (B 55 x + B 54 x)) 54 x 0) 55 y = if y = x then B 55 x + B 54 x else B 55 y := fun y => by
        by_cases q : y = x
        · simp [qu_is, q]
        · simp [qu_is, q]
      obtain ⟨r, C, e, e1, e2, e3⟩ := ih F (x + 1) (qu (qu B 55 x (B 55 x + B 54 x)) 54 x 0) (by omega) (by omega) (by rw [qu_ne (by decide), qu_ne (by decide)]; exact b1) (by rw [qu_ne (by decide), qu_ne (by decide)]; exact b7) (fun y y0 y1 => by
        have := hb y y0 y1
        rw [ha, hc]
        by_cases q : y = x
        · rw [if_pos q, if_pos q]; exact ⟨by omega, by omega, by omega⟩
        · rw [if_neg q, if_neg q]; exact this)
      refine ⟨r, C, e, ?_, fun y y0 y1 => ?_, e3⟩
      · rw [e1, ha, hc]
        by_cases hx2 : to = x
        · rw [if_pos hx2, if_pos hx2, if_neg (show ¬ (x + 1 ≤ to ∧ _) from fun q => by omega), if_pos ⟨by omega, hx2 ▸ h0⟩, hx2]; omega
        · rw [if_neg hx2, if_neg hx2]
          by_cases q : x + 1 ≤ to ∧ fM_hasKind to k A ≠ 0
          · rw [if_pos q, if_pos ⟨by omega, q.2⟩]
          · rw [if_neg q, if_neg (fun z => q ⟨by omega, z.2⟩)]
      · rw [(e2 y y0 y1).1, (e2 y y0 y1).2, ha, hc]
        by_cases hx2 : y = x
        · have n1 : ¬ (x + 1 ≤ y ∧ fM_hasKind y k A ≠ 0) := fun q => by omega
          have n2 : x ≤ y ∧ fM_hasKind y k A ≠ 0 := ⟨by omega, hx2 ▸ h0⟩
          rw [if_neg n1, if_neg n1, if_pos n2, if_pos n2, if_pos hx2, if_pos hx2, hx2]
          refine ⟨rfl, ?_⟩
          rw [Int.add_zero]
        · rw [if_neg hx2, if_neg hx2]
          by_cases q : x + 1 ≤ y ∧ fM_hasKind y k A ≠ 0
          · have q2 : x ≤ y ∧ fM_hasKind y k A ≠ 0 := ⟨by omega, q.2⟩
            rw [if_pos q, if_pos q, if_pos q2, if_pos q2]
            exact ⟨rfl, rfl⟩
          · have q2 : ¬ (x ≤ y ∧ fM_hasKind y k A ≠ 0) := fun z => q ⟨by omega, z.2⟩
            rw [if_neg q, if_neg q, if_neg q2, if_neg q2]
            exact ⟨rfl, rfl⟩
/-- after each step both ways are alike -/
def PBq (B1 B2 : qA) (u t : Int) : Prop := (∀ y, 0 ≤ y → y < 8 → B1 69 (y * 3) = B2 54 y ∧ B1 69 (y * 3 + 1) = B2 55 y) ∧ sb (B1 69) 8 = u ∧ (∀ j, 0 ≤ j → j < 24 → 0 ≤ B1 69 j) ∧ sm (B1 69) 24 = t
theorem take_is {b to k s t : Int} {A B1 B2 : qA} (t0 : 0 ≤ to) (t1 : to < 8) (hb : ∀ y, 0 ≤ y → y < 8 → (ia (sr b y) 1 = 0 ↔ fM_hasKind y k A = 0)) (hP : PR b to (B1 69) (B2 54) (B2 55) s t) (hT : t ≤ 2000000000) (b1 : B2 1 = A 1) (b7 : B2 7 = A 7) : ∃ r C, fM_takesUp2 to k B2 = (r, C) ∧ PBq B1 C (s + r) t ∧ 0 ≤ r ∧ (C 1 = A 1 ∧ C 7 = A 7) := by
  obtain ⟨a1, a2, a3, a4, a5, a6, a7⟩ := hP
  have hsN := sm_le (f := B2 54) 8 (fun j j0 j1 => (a6 j j0 (by omega)).1)
  have hsY := sm_le (f := B2 55) 8 (fun j j0 j1 => (a6 j j0 (by omega)).2)
  obtain ⟨r, C, e, e1, e2, e3⟩ := take_L (k := k) (A := A) t0 t1 8 99991 0 B2 (by omega) (by omega) b1 b7 (fun y y0 y1 => ⟨(a6 y y0 y1).1, (a6 y y0 y1).2, by
    have := hsN.2 y y0 (by omega)
    have := hsY.2 y y0 (by omega)
    omega⟩)
  have er : r = B2 55 to + if ia (sr b to) 1 = 0 then 0 else B2 54 to := by
    rw [e1]
    by_cases q : ia (sr b to) 1 = 0
    · rw [if_pos q, if_neg (fun z => z.2 ((hb to t0 t1).mp q))]
    · rw [if_neg q, if_pos ⟨t0, fun z => q ((hb to t0 t1).mpr z)⟩]
  refine ⟨r, C, e, ⟨fun y y0 y1 => ?_, ?_, a4, a5⟩, ?_, e3⟩
  · rw [a1 y y0 y1, a2 y y0 y1, (e2 y y0 y1).1, (e2 y y0 y1).2]
    by_cases q : ia (sr b y) 1 = 0
    · have n : ¬ (0 ≤ y ∧ fM_hasKind y k A ≠ 0) := fun z => z.2 ((hb y y0 y1).mp q)
      rw [if_pos q, if_pos q, if_neg n, if_neg n]
      exact ⟨rfl, rfl⟩
    · have n : 0 ≤ y ∧ fM_hasKind y k A ≠ 0 := ⟨y0, fun z => q ((hb y y0 y1).mpr z)⟩
      rw [if_neg q, if_neg q, if_pos n, if_pos n]
      exact ⟨rfl, rfl⟩
  · rw [a3, er]
  · rw [er]
    have := (a6 to t0 t1)
    by_cases q : ia (sr b to) 1 = 0
    · rw [if_pos q]; omega
    · rw [if_neg q]; omega
theorem PR_z {b to : Int} {W N Y : Int → Int} (t0 : 0 ≤ to) (t1 : to < 8) (hW : ∀ j, 0 ≤ j → j < 24 → W j = 0) (hN : ∀ y, 0 ≤ y → y < 8 → N y = 0) (hY : ∀ y, 0 ≤ y → y < 8 → Y y = 0) : PR b to W N Y 0 0 := by
  refine PR_c (W := fun _ => 0) (N := fun _ => 0) (Y := fun _ => 0) ?_ t0 t1 hW hN hY
  refine ⟨fun y _ _ => by split <;> rfl, fun y _ _ => by (repeat' split) <;> rfl, by split <;> rfl, fun _ _ _ => Int.le_refl 0, rfl, fun _ _ _ => ⟨Int.le_refl 0, Int.le_refl 0⟩, Int.le_refl 0⟩
theorem pstep {F : Nat} {b to k n i u t : Int} {A B1 B2 : qA} (t0 : 0 ≤ to) (t1 : to < 8) (hb : ∀ y, 0 ≤ y → y < 8 → (ia (sr b y) 1 = 0 ↔ fM_hasKind y k A = 0)) (i0 : 0 ≤ i) (hi : i < n) (hn : n ≤ 12) (hP : PBq B1 B2 u t) (hT : t ≤ 600000) (b1 : B2 1 = A 1) (b7 : B2 7 = A 7) : ∃ B1' r C, fC_fly_L (F + 26) 16 [to, b, n, i] B1 = fC_fly_L F 16 [to, b, n, i + 1] B1' ∧ fM_takesUp2 to k (fM_flies2 B2) = (r, C) ∧ PBq B1' C (3 * u + r) (3 * t) ∧ 0 ≤ r ∧ B1' 68 = (qu B1 68 (fd 3) (wI (B1 68 (fd 3) * 3))) 68 ∧ (C 1 = A 1 ∧ C 7 = A 7) := by
  obtain ⟨p1, p2, p3, p4⟩ := hP
  have hf := fill69_is (qcpy B1 69 0 70 0 24)
  have h70 : ∀ j, 0 ≤ j → j < 24 → (fC_fill69 0 (qcpy B1 69 0 70 0 24)) 70 j = B1 69 j := fun j j0 j1 => by
    rw [hf]
    show (if (70 : Nat) = 69 ∧ 0 ≤ j ∧ j < 24 then 0 else qcpy B1 69 0 70 0 24 70 j) = _
    rw [if_neg (fun q => absurd q.1 (by decide))]
    unfold qcpy
    rw [if_pos ⟨rfl, by omega, by omega⟩, show (0 : Int) + (j - 0) = j by omega]
  have h69 : ∀ j, 0 ≤ j → j < 24 → (fC_fill69 0 (qcpy B1 69 0 70 0 24)) 69 j = 0 := fun j j0 j1 => by
    rw [hf]
    show (if (69 : Nat) = 69 ∧ 0 ≤ j ∧ j < 24 then 0 else qcpy B1 69 0 70 0 24 69 j) = _
    rw [if_pos ⟨rfl, j0, j1⟩]
  have h68 : (fC_fill69 0 (qcpy B1 69 0 70 0 24)) 68 = B1 68 := by
    funext j
    rw [hf]
    show (if (68 : Nat) = 69 ∧ 0 ≤ j ∧ j < 24 then 0 else qcpy B1 69 0 70 0 24 68 j) = _
    rw [if_neg (fun q => absurd q.1 (by decide))]
    unfold qcpy
    rw [if_neg (fun q => absurd q.1 (by decide))]
  generalize hC1 : fC_fill69 0 (qcpy B1 69 0 70 0 24) = C1 at h70 h69 h68
  obtain ⟨C2, e2, z1, _, c54, c55, c1, c7⟩ := flies_2 (F := 99991) 8 0 B2 (by omega) (by omega)
  have es : sm (C1 70) 24 = t := by rw [← p4]; exact sm_c 24 (fun j j0 j1 => h70 j j0 (by omega))
  have eb : sb (C1 70) 8 = u := by rw [← p2]; exact sb_c 8 (fun j j0 j1 => h70 j j0 (by omega))
  obtain ⟨D1, D2, g1, g2, g3, g4, g5⟩ := cols_x (to := to) (b := b) (n := n) (i := i) t0 t1 (C1 70) (fun j j0 j1 => by rw [h70 j j0 j1]; exact p3 j j0 j1) (by rw [es]; omega) 8 0 (F + 1) 99951 C1 C2 rfl (PR_z t0 t1 h69 (fun y y0 y1 => (z1 y y0 y1).1) (fun y y0 y1 => (z1 y y0 y1).2)) rfl (fun y y0 y1 => by
    rw [h70 _ (by omega) (by omega), h70 _ (by omega) (by omega), c54, c55]
    exact p1 y y0 y1)
  rw [es, eb] at g3
  obtain ⟨E2, k1, k2, k3, k4⟩ := flies_63 (F := 99941) 8 0 D2 (by omega) (by omega)
  have hfl : fM_flies2 B2 = E2 := by
    show fM_flies2_L 100000 2 [0] B2 = E2
    rw [show (100000 : Nat) = 99991 + 8 + 1 from rfl, e2, show (99991 : Nat) = 99951 + 5 * 8 from rfl]
    rw [show fM_flies2_L (99951 + 5 * 8) 19 [0] C2 = fM_flies2_L 99951 19 [8] D2 from g2]
    rw [show (99951 : Nat) = 99950 + 1 from rfl, fM_flies2_L19]
    unfold fM_flies2_c19
    rw [if_neg (by decide)]
    exact k1
  have hPE : PR b to (D1 69) (E2 54) (E2 55) (3 * u) (3 * t) := PR_c g3 t0 t1 (fun j _ _ => rfl) (fun y y0 y1 => by
    rw [(k2 y y0 y1).1, if_pos y0]) (fun y y0 y1 => by
    rw [(k2 y y0 y1).2, if_pos y0])
  obtain ⟨r, C, q1, q2, q3, q4⟩ := take_is (k := k) (A := A) t0 t1 hb hPE (by omega) (by rw [k3, g5.2.2.1, c1]; exact b1) (by rw [k4, g5.2.2.2, c7]; exact b7)
  refine ⟨qu D1 68 (fd 3) (wI (D1 68 (fd 3) * 3)), r, C, ?_, by rw [hfl]; exact q1, ?_, q3, ?_, q4⟩
  · rw [show F + 26 = (F + 25) + 1 by omega, fC_fly_L16]
    unfold fC_fly_c16
    simp only [qlet_e]
    rw [if_pos hi, hC1, show F + 25 = F + 1 + 3 * 8 by omega]
    rw [show fC_fly_L (F + 1 + 3 * 8) 33 [to, b, n, i, 0] C1 = fC_fly_L (F + 1) 33 [to, b, n, i, 24] D1 from g1, fC_fly_L33]
    unfold fC_fly_c33
    simp only [qlet_e]
    rw [if_neg (by decide), show wI (i + 1) = i + 1 from wI_id ⟨by omega, by omega⟩]
  · have e69 : (qu D1 68 (fd 3) (wI (D1 68 (fd 3) * 3))) 69 = D1 69 := qu_ne (by decide)
    unfold PBq at q2 ⊢
    rw [e69]
    exact q2
  · have ed : D1 68 = B1 68 := g4.2.trans h68
    funext j
    rw [qu_is, qu_is, ed]
