/-! THE POLLEN: the fraction -/
theorem gcd_L {A : qA} : ∀ (n F q p : Nat), q ≤ n → fM_gcd_L (F + n + 1) 4 [(p : Int), (q : Int)] A = ((Nat.gcd q p : Nat) : Int) := by
  intro n
  induction n with
  | zero =>
    intro F q p hq
    have e : q = 0 := by omega
    subst e
    rw [show F + 0 + 1 = F + 1 by omega, fM_gcd_L4]
    unfold fM_gcd_c4 jc
    simp only [qlet_e]
    rw [if_pos (show ((0 : Nat) : Int) = 0 from rfl), if_pos rfl, Nat.gcd_zero_left]
  | succ n ih =>
    intro F q p hq
    rw [show F + (n + 1) + 1 = (F + n + 1) + 1 by omega, fM_gcd_L4]
    unfold fM_gcd_c4 jc
    simp only [qlet_e]
    by_cases e : q = 0
    · subst e
      rw [if_pos (show ((0 : Nat) : Int) = 0 from rfl), if_pos rfl, Nat.gcd_zero_left]
    · have hm : Int.tmod (p : Int) (q : Int) = ((p % q : Nat) : Int) := rfl
      have hl := Nat.mod_lt p (show 0 < q by omega)
      rw [if_neg (show ¬ (q : Int) = 0 by omega), if_pos (show (0 : Int) < (q : Int) by omega), if_neg (show ¬ (1 : Int) = 0 by decide), hm, ih F (p % q) q (by omega), ← Nat.gcd_rec]
theorem pow3 {m : Nat} (h : m ≤ 12) : 0 < 3 ^ m ∧ 3 ^ m ≤ 531441 := ⟨Nat.pow_pos (by decide), Nat.le_trans (Nat.pow_le_pow_right (by decide) h) (by decide)⟩
theorem gcd3 {m u : Nat} (h : u % 3 ≠ 0) : Nat.gcd (3 ^ m) u = 1 := by
  have h1 : Nat.gcd 3 u = 1 := by
    rw [Nat.gcd_rec]
    have : u % 3 = 1 ∨ u % 3 = 2 := by omega
    rcases this with q | q
    · rw [q]; decide
    · rw [q]; decide
  exact Nat.Coprime.pow_left m h1
theorem cancel_L {n : Int} (hn : n ≤ 12) : ∀ (m F : Nat) (i : Int) (u : Nat) (B : qA), i + m = n → 0 ≤ i → m ≤ 12 → u ≤ 2000000000 → B 68 (fd 2) = (u : Int) → B 68 (fd 3) = ((3 ^ m : Nat) : Int) → ∃ C, fC_cancel_L (F + m + 1) 2 [n, i] B = C ∧ C 68 (fd 2) = ((u / Nat.gcd (3 ^ m) u : Nat) : Int) ∧ C 68 (fd 3) = ((3 ^ m / Nat.gcd (3 ^ m) u : Nat) : Int) := by
  intro m
  induction m with
  | zero =>
    intro F i u B hi i0 hm hu h2 h3
    rw [show F + 0 + 1 = F + 1 by omega, fC_cancel_L2]
    unfold fC_cancel_c2
    rw [if_neg (by omega)]
    refine ⟨B, rfl, ?_, ?_⟩
    · rw [h2, Nat.pow_zero, Nat.gcd_one_left, Nat.div_one]
    · rw [h3, Nat.pow_zero, Nat.gcd_one_left, Nat.div_one]
  | succ m ih =>
    intro F i u B hi i0 hm hu h2 h3
    have hp := pow3 (m := m) (by omega)
    rw [show F + (m + 1) + 1 = (F + m + 1) + 1 by omega, fC_cancel_L2]
    unfold fC_cancel_c2
    simp only [qlet_e]
    have hq : qm (u : Int) 3 = ((u % 3 : Nat) : Int) := rfl
    have hd : qd (u : Int) 3 = ((u / 3 : Nat) : Int) := rfl
    rw [if_pos (by omega), h2, hq]
    by_cases h : u % 3 = 0
    · have e3 : (qu B 68 (fd 2) (wI (qd (u : Int) 3))) 68 (fd 3) = ((3 ^ (m + 1) : Nat) : Int) := by
        rw [qu_is, if_neg (fun q => absurd q.2 (by decide)), h3]
      have hd3 : qd ((3 ^ (m + 1) : Nat) : Int) 3 = ((3 ^ (m + 1) / 3 : Nat) : Int) := rfl
      have hs : 3 ^ (m + 1) = 3 * 3 ^ m := by rw [Nat.pow_succ, Nat.mul_comm]
      have hs2 : 3 ^ (m + 1) / 3 = 3 ^ m := by rw [hs]; omega
      rw [if_pos (by omega), e3, hd3, hs2, hd, show wI ((u / 3 : Nat) : Int) = ((u / 3 : Nat) : Int) from wI_id ⟨by omega, by omega⟩, show wI ((3 ^ m : Nat) : Int) = ((3 ^ m : Nat) : Int) from wI_id ⟨by omega, by omega⟩, show wI (i + 1) = i + 1 from wI_id ⟨by omega, by omega⟩]
      obtain ⟨C, e, c2, c3⟩ := ih F (i + 1) (u / 3) (qu (qu B 68 (fd 2) ((u / 3 : Nat) : Int)) 68 (fd 3) ((3 ^ m : Nat) : Int)) (by omega) (by omega) (by omega) (by omega) (by rw [qu_is, if_neg (fun q => absurd q.2 (by decide)), qu_at]) (qu_at _ _ _ _)
      refine ⟨C, e, ?_, ?_⟩
      · rw [c2]
        have hu3 : u = 3 * (u / 3) := by omega
        rw [hs]
        conv => rhs; rw [hu3, Nat.gcd_mul_left, Nat.mul_div_mul_left _ _ (show 0 < 3 by decide)]
      · rw [c3]
        have hu3 : u = 3 * (u / 3) := by omega
        rw [hs]
        conv => rhs; rw [hu3, Nat.gcd_mul_left, Nat.mul_div_mul_left _ _ (show 0 < 3 by decide)]
    · rw [if_neg (by omega)]
      refine ⟨B, rfl, ?_, ?_⟩
      · rw [gcd3 h, Nat.div_one, h2]
      · rw [gcd3 h, Nat.div_one, h3]
theorem sb_le {f : Int → Int} (n : Nat) (h : ∀ j, 0 ≤ j → j < (n : Int) * 3 → 0 ≤ f j) : 0 ≤ sb f n ∧ sb f n ≤ sm f (3 * n) := by
  induction n with
  | zero => exact ⟨Int.le_refl 0, Int.le_refl 0⟩
  | succ n ih =>
    have h1 := ih (fun j j0 j1 => h j j0 (by omega))
    have u0 := h ((n : Int) * 3) (by omega) (by omega)
    have u1 := h ((n : Int) * 3 + 1) (by omega) (by omega)
    have u2 := h ((n : Int) * 3 + 2) (by omega) (by omega)
    have es : sm f (3 * (n + 1)) = sm f (3 * n) + f ((n : Int) * 3) + f ((n : Int) * 3 + 1) + f ((n : Int) * 3 + 2) := by
      show sm f (3 * n) + f ((3 * n : Nat) : Int) + f ((3 * n + 1 : Nat) : Int) + f ((3 * n + 2 : Nat) : Int) = _
      rw [show ((3 * n : Nat) : Int) = (n : Int) * 3 by omega, show ((3 * n + 1 : Nat) : Int) = (n : Int) * 3 + 1 by omega, show ((3 * n + 2 : Nat) : Int) = (n : Int) * 3 + 2 by omega]
    rw [es]
    show 0 ≤ sb f n + f ((n : Int) * 3 + 2) ∧ sb f n + f ((n : Int) * 3 + 2) ≤ _
    exact ⟨by omega, by omega⟩
theorem above_L {n : Int} {W : Int → Int} (h : ∀ j, 0 ≤ j → j < 24 → 0 ≤ W j) (hT : sm W 24 ≤ 2000000000) : ∀ (m k F : Nat) (B : qA), k + m = 8 → B 69 = W → B 68 (fd 2) = sb W k → ∃ C, fC_fly_L (F + m + 1) 99 [n, (k : Int)] B = fC_cancel n C ∧ C 68 (fd 2) = sb W 8 ∧ C 68 (fd 3) = B 68 (fd 3) := by
  intro m
  induction m with
  | zero =>
    intro k F B hk hW hs
    have e : k = 8 := by omega
    subst e
    rw [show F + 0 + 1 = F + 1 by omega, fC_fly_L99]
    unfold fC_fly_c99
    simp only [qlet_e]
    rw [if_neg (by omega)]
    exact ⟨B, rfl, hs, rfl⟩
  | succ m ih =>
    intro k F B hk hW hs
    rw [show F + (m + 1) + 1 = (F + m + 1) + 1 by omega, fC_fly_L99]
    unfold fC_fly_c99
    simp only [qlet_e]
    have h1 := sb_le (f := W) (k + 1) (fun j j0 j1 => h j j0 (by omega))
    have h2 := sm_mono (m := 24) (fun j j0 j1 => h j j0 (by omega)) (3 * (k + 1)) (by omega)
    have es : sb W k + W ((k : Int) * 3 + 2) = sb W (k + 1) := rfl
    rw [if_pos (by omega), hs, hW, es, show wI (sb W (k + 1)) = sb W (k + 1) from wI_id ⟨by omega, by omega⟩, show wI ((k : Int) + 1) = ((k + 1 : Nat) : Int) from (wI_id ⟨by omega, by omega⟩).trans (by omega)]
    obtain ⟨C, e, c1, c2⟩ := ih (k + 1) F (qu B 68 (fd 2) (sb W (k + 1))) (by omega) ((qu_ne (by decide)).trans hW) (qu_at _ _ _ _)
    refine ⟨C, e, c1, c2.trans ?_⟩
    rw [qu_is, if_neg (fun q => absurd q.2 (by decide))]
theorem wL_nat {X : Nat} (h : X ≤ 1000000000) : wL (X : Int) = (X : Int) := wL_id ⟨by omega, by omega⟩
theorem psteps {to b k n w : Int} {A : qA} {N : Nat} (hN : n = (N : Int)) (t0 : 0 ≤ to) (t1 : to < 8) (hb : ∀ y, 0 ≤ y → y < 8 → (ia (sr b y) 1 = 0 ↔ fM_hasKind y k A = 0)) (hn : n ≤ 12) : ∀ (m i F1 F2 : Nat) (u : Int) (B1 B2 : qA), i + m = N → PBq B1 B2 u ((3 ^ i : Nat) : Int) → B1 68 (fd 3) = ((3 ^ i : Nat) : Int) → B2 1 = A 1 → B2 7 = A 7 → ∃ B1' C u', fC_fly_L (F1 + 26 * m) 16 [to, b, n, (i : Int)] B1 = fC_fly_L F1 16 [to, b, n, n] B1' ∧ fM_pollen_L (F2 + m) 58 [to, k, n, w, u, ((3 ^ i : Nat) : Int), (i : Int)] B2 = fM_pollen_L F2 58 [to, k, n, w, u', ((3 ^ N : Nat) : Int), n] C ∧ PBq B1' C u' ((3 ^ N : Nat) : Int) ∧ B1' 68 (fd 3) = ((3 ^ N : Nat) : Int) := by
  intro m
  induction m with
  | zero =>
    intro i F1 F2 u B1 B2 hi hP h3 b1 b7
    have e : i = N := by omega
    subst e
    exact ⟨B1, B2, u, by rw [hN, Nat.mul_zero, Nat.add_zero], by rw [hN, Nat.add_zero], hP, h3⟩
  | succ m ih =>
    intro i F1 F2 u B1 B2 hi hP h3 b1 b7
    have hp := pow3 (m := i) (by omega)
    have hp1 := pow3 (m := i + 1) (by omega)
    have hs : 3 ^ (i + 1) = 3 * 3 ^ i := by rw [Nat.pow_succ, Nat.mul_comm]
    obtain ⟨C1, r, C2, e1, e2, e3, e4, e5, e6, e7⟩ := pstep (F := F1 + 26 * m) (k := k) (n := n) (i := (i : Int)) (A := A) t0 t1 hb (by omega) (by omega) hn hP (by omega) b1 b7
    rw [show (3 : Int) * ((3 ^ i : Nat) : Int) = ((3 ^ (i + 1) : Nat) : Int) by omega] at e3
    have hu := sb_le (f := B1 69) 8 (fun j j0 j1 => hP.2.2.1 j j0 (by omega))
    have hu2 := hP.2.2.2
    have hu3 := hP.2.1
    have hv := sb_le (f := C1 69) 8 (fun j j0 j1 => e3.2.2.1 j j0 (by omega))
    have hv2 := e3.2.2.2
    have hv3 := e3.2.1
    have hu' : sb (B1 69) 8 ≤ sm (B1 69) 24 := hu.2
    have hv' : sb (C1 69) 8 ≤ sm (C1 69) 24 := hv.2
    rw [h3] at e5
    have h3' : C1 68 (fd 3) = ((3 ^ (i + 1) : Nat) : Int) := by
      rw [e5, qu_at, show wI (((3 ^ i : Nat) : Int) * 3) = ((3 ^ i : Nat) : Int) * 3 from wI_id ⟨by omega, by omega⟩]
      omega
    obtain ⟨D1, D2, u', g1, g2, g3, g4⟩ := ih (i + 1) F1 F2 (3 * u + r) C1 C2 (by omega) e3 h3' e6 e7
    refine ⟨D1, D2, u', ?_, ?_, g3, g4⟩
    · rw [show F1 + 26 * (m + 1) = F1 + 26 * m + 26 by omega, e1, ← g1]
      rw [show ((i + 1 : Nat) : Int) = (i : Int) + 1 by omega]
    · rw [show F2 + (m + 1) = (F2 + m) + 1 by omega, fM_pollen_L58]
      unfold fM_pollen_c58
      simp only [qlet_e]
      rw [if_pos (by omega), e2]
      unfold jmul jadd
      simp only [qlp]
      rw [show qnL 3 = 3 from rfl, show wL (3 * ((3 ^ i : Nat) : Int)) = ((3 ^ (i + 1) : Nat) : Int) from (wL_id ⟨by omega, by omega⟩).trans (by omega), show wL (3 * u) = 3 * u from wL_id ⟨by omega, by omega⟩, show wL (3 * u + r) = 3 * u + r from wL_id ⟨by omega, by omega⟩, show (i : Int) + 1 = ((i + 1 : Nat) : Int) by omega]
      exact g2
theorem pol29 {f to k s w : Int} : ∀ (m F : Nat) (x : Int) (B : qA), x + m = 8 → 0 ≤ x → ∃ C, fM_pollen_L (F + m) 29 [f, to, k, s, w, x] B = fM_pollen_L F 29 [f, to, k, s, w, 8] C ∧ (∀ y, 0 ≤ y → y < 8 → C 54 y = (if x ≤ y then (if y = f then 1 else 0) else B 54 y) ∧ C 55 y = (if x ≤ y then 0 else B 55 y)) ∧ (C 1 = B 1 ∧ C 7 = B 7) := by
  intro m
  induction m with
  | zero =>
    intro F x B hx x0
    have e : x = 8 := by omega
    subst e
    exact ⟨B, rfl, fun y y0 y1 => ⟨by rw [if_neg (by omega)], by rw [if_neg (by omega)]⟩, rfl, rfl⟩
  | succ m ih =>
    intro F x B hx x0
    rw [show F + (m + 1) = (F + m) + 1 by omega, fM_pollen_L29]
    unfold fM_pollen_c29
    simp only [qlet_e]
    rw [if_pos (by omega)]
    have hgo : ∀ v, v = (if x = f then (1 : Int) else 0) → ∃ C, fM_pollen_L (F + m) 29 [f, to, k, s, w, x + 1] (qu (qu B 54 x v) 55 x 0) = fM_pollen_L F 29 [f, to, k, s, w, 8] C ∧ (∀ y, 0 ≤ y → y < 8 → C 54 y = (if x ≤ y then (if y = f then 1 else 0) else B 54 y) ∧ C 55 y = (if x ≤ y then 0 else B 55 y)) ∧ (C 1 = B 1 ∧ C 7 = B 7) := by
      intro v hv
      obtain ⟨C, e, h1, h2, h3⟩ := ih F (x + 1) (qu (qu B 54 x v) 55 x 0) (by omega) (by omega)
      refine ⟨C, e, fun y y0 y1 => ?_, ?_, ?_⟩
      · rw [(h1 y y0 y1).1, (h1 y y0 y1).2]
        simp only [qu_is]
        by_cases hy : x + 1 ≤ y
        · rw [if_pos hy, if_pos hy, if_pos (show x ≤ y by omega), if_pos (show x ≤ y by omega)]
          exact ⟨rfl, rfl⟩
        · rw [if_neg hy, if_neg hy]
          by_cases hy2 : y = x
          · subst hy2
            rw [hv]
            simp
          · rw [if_neg (show ¬ x ≤ y by omega), if_neg (show ¬ x ≤ y by omega)]
            simp [hy2]
      · rw [h2, qu_ne (by decide), qu_ne (by decide)]
      · rw [h3, qu_ne (by decide), qu_ne (by decide)]
    by_cases h : x = f
    · rw [if_pos h]
      exact hgo 1 (by rw [if_pos h])
    · rw [if_neg h]
      exact hgo 0 (by rw [if_neg h])
theorem pollen_R (f to k s w : Int) {A1 A2 : qA} (h : GR A1 A2) : (fC_pollen f to k s w A1).1 = (fM_pollen f to k s w A2).1 := by
  unfold fC_pollen fM_pollen
  by_cases hf : 0 ≤ f ∧ f ≤ 7
  · rw [if_pos hf, if_pos hf]
    by_cases ht : 0 ≤ to ∧ to ≤ 7
    · rw [if_pos ht, if_pos ht]
      by_cases hk : 0 ≤ k ∧ k ≤ 5
      · rw [if_pos hk, if_pos hk]
        by_cases hs1 : s < 1
        · rw [if_pos hs1, if_neg (show ¬ (1 ≤ s ∧ s ≤ 12) by omega)]
        rw [if_neg hs1]
        by_cases hs2 : 12 < s
        · rw [if_pos hs2, if_neg (show ¬ (1 ≤ s ∧ s ≤ 12) by omega)]
        rw [if_neg hs2, if_pos (show 1 ≤ s ∧ s ≤ 12 by omega)]
        by_cases hw : 0 ≤ w ∧ w ≤ 1
        · rw [if_pos hw, if_pos hw]
          have hc := has_is hk.1 hk.2 h
          generalize hbb : fC_columnsOf k A1 = b at hc
          obtain ⟨N, hN⟩ : ∃ N : Nat, s = (N : Int) := ⟨s.toNat, by omega⟩
          obtain ⟨C2, e2, z1, z2, z3⟩ := pol29 (f := f) (to := to) (k := k) (s := s) (w := w) 8 (99991 + 1) 0 A2 (by omega) (by omega)
          have hf0 := fill69_is A1
          have h69 : ∀ j, 0 ≤ j → j < 24 → (fC_fill69 0 A1) 69 j = 0 := fun j j0 j1 => by
            rw [hf0]
            show (if (69 : Nat) = 69 ∧ 0 ≤ j ∧ j < 24 then 0 else A1 69 j) = _
            rw [if_pos ⟨rfl, j0, j1⟩]
          generalize hE1 : fC_fill69 0 A1 = E1 at h69
          have hd := dst_r (b := b) (to := to) hf.1 (show f < 8 by omega) (show 0 ≤ (0 : Int) by decide) (by decide)
          have hz0 := h69 _ hd.1 hd.2
          obtain ⟨D1, g1, g2, g3, g4⟩ := arr_ex (c := f) (t := 0) (v := 1) (to := to) (b := b) (B := E1) (by omega) (by decide) (by omega)
          have hP0 : PR b to (E1 69) (fun _ => 0) (fun _ => 0) 0 0 := PR_z ht.1 (by omega) h69 (fun _ _ _ => rfl) (fun _ _ _ => rfl)
          have hP1 := PR_0 hP0 hf.1 (show f < 8 by omega) ht.1 (show to < 8 by omega) (show 0 ≤ (1 : Int) by decide)
          rw [← g2] at hP1
          have hP2 : PR b to (D1 69) (C2 54) (C2 55) 0 (0 + 1) := PR_c hP1 ht.1 (by omega) (fun _ _ _ => rfl) (fun y y0 y1 => by
            rw [(z1 y y0 y1).1, if_pos y0]
            unfold ad
            split <;> rfl) (fun y y0 y1 => by
            rw [(z1 y y0 y1).2, if_pos y0])
          obtain ⟨r, D2, q1, q2, q3, q4, q5⟩ := take_is (k := k) (A := A2) ht.1 (show to < 8 by omega) (fun y y0 y1 => hc.2 y y0 y1 A2 rfl rfl) hP2 (by decide) z2 z3
          have hP3 : PBq (qu D1 68 (fd 3) 1) D2 r ((3 ^ 0 : Nat) : Int) := by
            have e69 : (qu D1 68 (fd 3) 1) 69 = D1 69 := qu_ne (by decide)
            unfold PBq at q2 ⊢
            rw [e69]
            rw [Int.zero_add] at q2
            exact q2
          obtain ⟨F1, F2, u, k1, k2, k3, k4⟩ := psteps (w := w) hN ht.1 (show to < 8 by omega) (fun y y0 y1 => hc.2 y y0 y1 A2 rfl rfl) (show s ≤ 12 by omega) N 0 (100000 - 26 * N) (99991 - N) r (qu D1 68 (fd 3) 1) D2 (by omega) hP3 (qu_at _ _ _ _) q4 q5
          have hp := pow3 (m := N) (by omega)
          have hu := sb_le (f := F1 69) 8 (fun j j0 j1 => k3.2.2.1 j j0 (by omega))
          have hu' : sb (F1 69) 8 ≤ sm (F1 69) 24 := hu.2
          have hu2 := k3.2.2.2
          have hu3 := k3.2.1
          obtain ⟨U, hU⟩ : ∃ U : Nat, u = (U : Int) := ⟨u.toNat, by omega⟩
          have hg := gcd_L (A := F2) (3 ^ N) (10000000000000000000 - 3 ^ N - 1) (3 ^ N) U (Nat.le_refl _)
          rw [show 10000000000000000000 - 3 ^ N - 1 + 3 ^ N + 1 = 10000000000000000000 by omega] at hg
          have hgp : Nat.gcd (3 ^ N) U ≠ 0 := fun q => by have := Nat.eq_zero_of_gcd_eq_zero_left q; omega
          have hdU := Nat.div_le_self U (Nat.gcd (3 ^ N) U)
          have hdN := Nat.div_le_self (3 ^ N) (Nat.gcd (3 ^ N) U)
          have hUb : U ≤ 1000000000 := by omega
          have hb1 : U / Nat.gcd (3 ^ N) U ≤ 1000000000 := Nat.le_trans hdU hUb
          have hb2 : 3 ^ N / Nat.gcd (3 ^ N) U ≤ 1000000000 := Nat.le_trans hdN (by omega)
          obtain ⟨G1, l1, l2, l3⟩ := above_L (n := s) (W := F1 69) k3.2.2.1 (by omega) 8 0 (100000 - 26 * N - 10) (qu F1 68 (fd 2) 0) (by omega) (qu_ne (by decide)) (qu_at _ _ _ _)
          obtain ⟨H1, m1, m2, m3⟩ := cancel_L (n := s) (by omega) N (100000 - N - 1) 0 U G1 (by omega) (by omega) (by omega) (by omega) (by rw [l2, hu3, hU]) (by rw [l3, qu_is, if_neg (fun q => absurd q.2 (by decide)), k4])
          have hM : fM_pollen_L 100000 29 [f, to, k, s, w, 0] A2 = (if w = 0 then ((U / Nat.gcd (3 ^ N) U : Nat) : Int) else ((3 ^ N / Nat.gcd (3 ^ N) U : Nat) : Int), F2) := by
            rw [show (100000 : Nat) = 99991 + 1 + 8 from rfl, e2, fM_pollen_L29]
            unfold fM_pollen_c29
            simp only [qlet_e]
            rw [if_neg (by decide), q1]
            simp only [qlp]
            rw [show (99991 : Nat) = (99991 - N) + N by omega]
            rw [show fM_pollen_L (99991 - N + N) 58 [to, k, s, w, r, 1, 0] D2 = _ from k2]
            rw [show 99991 - N = (99990 - N) + 1 by omega, fM_pollen_L58]
            unfold fM_pollen_c58
            simp only [qlet_e]
            rw [if_neg (by omega)]
            unfold fM_gcd
            rw [hU, hg]
            have t1 : Int.tdiv (U : Int) ((Nat.gcd (3 ^ N) U : Nat) : Int) = ((U / Nat.gcd (3 ^ N) U : Nat) : Int) := rfl
            have t2 : Int.tdiv ((3 ^ N : Nat) : Int) ((Nat.gcd (3 ^ N) U : Nat) : Int) = ((3 ^ N / Nat.gcd (3 ^ N) U : Nat) : Int) := rfl
            rw [t1, t2, wL_nat hb1, wL_nat hb2]
            by_cases w0 : w = 0
            · rw [if_pos w0, if_pos w0]
            · rw [if_neg w0, if_neg w0]
          have hC : fC_fly f to b s A1 = H1 := by
            unfold fC_fly
            simp only [qlet_e]
            rw [hE1, g1, show (100000 : Nat) = (100000 - 26 * N) + 26 * N by omega]
            rw [show fC_fly_L (100000 - 26 * N + 26 * N) 16 [to, b, s, 0] (qu D1 68 (fd 3) 1) = _ from k1]
            rw [show 100000 - 26 * N = (100000 - 26 * N - 1) + 1 by omega, fC_fly_L16]
            unfold fC_fly_c16
            simp only [qlet_e]
            rw [if_neg (by omega), show 100000 - 26 * N - 1 = (100000 - 26 * N - 10) + 8 + 1 by omega]
            rw [show fC_fly_L (100000 - 26 * N - 10 + 8 + 1) 99 [s, 0] (qu F1 68 (fd 2) 0) = _ from l1]
            unfold fC_cancel
            rw [show (100000 : Nat) = (100000 - N - 1) + N + 1 by omega]
            exact m1
          rw [hM]
          simp only [qlet_e]
          rw [hC]
          by_cases w0 : w = 0
          · rw [if_pos w0, if_pos w0]; exact m2
          · rw [if_neg w0, if_neg w0]; exact m3
        · rw [if_neg hw, if_neg hw]
      · rw [if_neg hk, if_neg hk]
    · rw [if_neg ht, if_neg ht]
  · rw [if_neg hf, if_neg hf]
