/-! A DAY: both gardens -/
theorem GA_ev {S : Int → Prop} {A1 A2 B1 B2 : qA} (h : GA S A1 A2) (e : EV A1 A2 B1 B2) : GA S B1 B2 := by
  obtain ⟨f1, f2⟩ := e
  have e1 : B1 1 (fd 0) = A1 1 (fd 0) := frm_f f1 rfl
  have e2 : B2 1 = A2 1 := frm_a f2 rfl
  exact ⟨⟨RHG_e h.1.1 e1 e2, fun d a b s => ⟨RN_e (h.1.2 d a b s).1 e1 (by rw [e2]) (at_f f1 rfl) (at_f f2 rfl), RK_e (h.1.2 d a b s).2 (by rw [e2]) (at_f f1 rfl) (at_f f2 rfl)⟩⟩, RB_f h.2.1 f1 f2 rfl rfl, RF_f h.2.2.1 f1 f2 rfl rfl, RL_f h.2.2.2 f1 f2 rfl rfl⟩
theorem GR_7 {A1 A2 : qA} {k v : Int} (h : GR A1 A2) (v0 : 0 ≤ v) (v1 : v ≤ 200) (hk : A2 7 k ≠ -1) : GR (qu A1 7 k v) (qu A2 8 k v) := by
  have f1 : frm [7] [] A1 (qu A1 7 k v) := frm_q (frm_0 _ _ _) rfl
  have f2 : frm [8] [] A2 (qu A2 8 k v) := frm_q (frm_0 _ _ _) rfl
  have e1 : (qu A1 7 k v) 1 (fd 0) = A1 1 (fd 0) := frm_f f1 rfl
  have e2 : (qu A2 8 k v) 1 = A2 1 := frm_a f2 rfl
  refine ⟨⟨RHG_e h.1.1 e1 e2, fun d a b s => ⟨RN_e (h.1.2 d a b s).1 e1 (by rw [e2]) (at_f f1 rfl) (at_f f2 rfl), fun z => ?_⟩⟩, RB_f h.2.1 f1 f2 rfl rfl, RF_f h.2.2.1 f1 f2 rfl rfl, RL_f h.2.2.2 f1 f2 rfl rfl⟩
  rw [e2] at z
  obtain ⟨⟨u1, u2, u3⟩, u4, u5, u6, u7⟩ := (h.1.2 d a b s).2 z
  rw [frm_a f1 (r := 6) rfl, frm_a f1 (r := 10) rfl, frm_a f2 (r := 7) rfl, frm_a f2 (r := 2) rfl]
  by_cases q : d = k
  · rw [q, qu_at, qu_at]
    rw [q] at u1 u3 u5 u6
    exact ⟨⟨u1, rfl, u3⟩, fun w => absurd w hk, u5, u6, ⟨v0, v1⟩⟩
  · rw [qu_nj q, qu_nj q]
    exact ⟨⟨u1, u2, u3⟩, u4, u5, u6, u7⟩
theorem grow_L : ∀ (m F1 F2 : Nat) (k : Int) (B1 B2 : qA), k + m = 48 → 0 ≤ k → GR B1 B2 → ∃ C2, fM_day_L (F2 + m + 1) 8 [k] B2 = fM_day_L F2 42 [0] C2 ∧ GR (fC_letCropsGrow_L (F1 + m + 1) 2 [k] B1) C2 ∧ frm [7, 35, 43, 78] [(36, 9), (71, 9)] B1 (fC_letCropsGrow_L (F1 + m + 1) 2 [k] B1) ∧ frm [8, 34, 35] [] B2 C2
  | 0, F1, F2, k, B1, B2, hm, k0, h => by
    rw [fC_letCropsGrow_L2, fM_day_L8]
    unfold fC_letCropsGrow_c2 fM_day_c8
    simp only [qlet]
    rw [if_neg (show ¬ k < 48 by omega), if_neg (show ¬ k < 48 by omega)]
    exact ⟨B2, rfl, h, frm_0 _ _ _, frm_0 _ _ _⟩
  | m + 1, F1, F2, k, B1, B2, hm, k0, h => by
    rw [show F1 + (m + 1) + 1 = (F1 + m + 1) + 1 by omega, show F2 + (m + 1) + 1 = (F2 + m + 1) + 1 by omega, fC_letCropsGrow_L2, fM_day_L8]
    unfold fC_letCropsGrow_c2 fM_day_c8
    simp only [qlet, qlp]
    have k1 : k < 48 := by omega
    have hr := h.1.2 k k0 k1 trivial
    have hc := crop_is hr k0 k1
    rw [if_pos k1, if_pos k1, show wI (k + 1) = k + 1 from wI_id ⟨by omega, by omega⟩]
    by_cases q : B2 1 k = 0
    · rw [if_neg (fun z => (hc.mp z).1 q), if_pos q]
      exact grow_L m F1 F2 (k + 1) B1 B2 (by omega) (by omega) h
    · rw [if_neg q]
      by_cases p : B2 7 k = -1
      · rw [if_neg (fun z => (hc.mp z).2 p), if_pos p]
        exact grow_L m F1 F2 (k + 1) B1 B2 (by omega) (by omega) h
      · rw [if_pos (hc.mpr ⟨q, p⟩), if_neg p]
        obtain ⟨g1, g2, g3⟩ := growth_is hr h.2.1 h.2.2.2 k0 k1 q
        obtain ⟨⟨_, w2, _⟩, _, _, _, w5⟩ := hr.2 q
        rw [g1]
        generalize fC_growth k (B1 9 k) B1 = y1 at g1 g3 ⊢
        generalize fM_asked k 103 50 B2 = y2 at g1 g2 g3 ⊢
        have hE : GR y1.2 y2.2 := GA_ev h g3
        have e1 : fM_less 200 (wI (B2 8 k + y2.1)) y2.2 = min 200 (B2 8 k + y2.1) := by
          rw [show wI (B2 8 k + y2.1) = B2 8 k + y2.1 from wI_id ⟨by omega, by omega⟩]
          unfold fM_less
          split <;> omega
        rw [e1, w2]
        have hG := GR_7 (k := k) (v := min 200 (B2 8 k + y2.1)) hE (by omega) (by omega) (by rw [frm_a g3.2 (r := 7) rfl]; exact p)
        obtain ⟨C2, r1, r2, r3, r4⟩ := grow_L m F1 F2 (k + 1) _ _ (by omega) (by omega) hG
        exact ⟨C2, r1, r2, frm_c (frm_q (frm_c (frm_0 _ _ _) g3.1 rfl) rfl) r3 rfl, frm_c (frm_q (frm_c (frm_0 _ _ _) g3.2 rfl) rfl) r4 rfl⟩
theorem ia_16 {z : Int} (h0 : 0 ≤ z) (h1 : z < 2147483648) : ia z 65535 = z % 65536 := by
  rw [ia_nat ⟨by omega, h1⟩ ⟨by decide, by decide⟩ h0 (by decide), show (65535 : Int).toNat = 2 ^ 16 - 1 from rfl, Nat.and_two_pow_sub_one_eq_mod, show (2 ^ 16 : Nat) = 65536 from rfl]
  omega
theorem qn16 : qn 65535 = 65535 := rfl
theorem qn17 : qn 65536 = 65536 := rfl
theorem GR_seed {A1 A2 : qA} {v : Int} (h : GR A1 A2) (v0 : 0 ≤ v) (v1 : v ≤ 65535) : GR (qu A1 0 (fd 11) v) (qu A2 0 (fd 1) v) := by
  have f1 : frm [] [(0, 11)] A1 (qu A1 0 (fd 11) v) := frm_qf (frm_0 _ _ _) rfl
  have f2 : frm [] [(0, 1)] A2 (qu A2 0 (fd 1) v) := frm_qf (frm_0 _ _ _) rfl
  have e1 : (qu A1 0 (fd 11) v) 1 (fd 0) = A1 1 (fd 0) := frm_f f1 rfl
  have e2 : (qu A2 0 (fd 1) v) 1 = A2 1 := frm_a f2 rfl
  refine ⟨⟨RHG_e h.1.1 e1 e2, fun d a b s => ⟨RN_e (h.1.2 d a b s).1 e1 (by rw [e2]) (at_f f1 rfl) (at_f f2 rfl), RK_e (h.1.2 d a b s).2 (by rw [e2]) (at_f f1 rfl) (at_f f2 rfl)⟩⟩, ?_, RF_f h.2.2.1 f1 f2 rfl rfl, RL_f h.2.2.2 f1 f2 rfl rfl⟩
  obtain ⟨b1, b2, b3, b4, b5⟩ := h.2.1
  have hne : ∀ r : Nat, r ≠ 0 → (qu A1 0 (fd 11) v) r = A1 r ∧ (qu A2 0 (fd 1) v) r = A2 r := fun r hr => ⟨qu_ne hr, qu_ne hr⟩
  refine ⟨fun k k0 k1 => ?_, fun x x0 x1 => ?_, ?_, ?_, ?_⟩
  · rw [(hne 11 (by decide)).1, (hne 12 (by decide)).1, (hne 13 (by decide)).1, (hne 11 (by decide)).2, (hne 12 (by decide)).2, (hne 13 (by decide)).2]
    exact b1 k k0 k1
  · rw [(hne 16 (by decide)).1, (hne 17 (by decide)).1, (hne 18 (by decide)).1, (hne 19 (by decide)).1, (hne 20 (by decide)).1, (hne 21 (by decide)).1, (hne 22 (by decide)).1, (hne 14 (by decide)).2, (hne 15 (by decide)).2, (hne 16 (by decide)).2, (hne 17 (by decide)).2, (hne 18 (by decide)).2, (hne 20 (by decide)).2, (hne 21 (by decide)).2]
    exact b2 x x0 x1
  · rw [(hne 15 (by decide)).1, frm_f f2 (r := 0) (j := 0) rfl]; exact b3
  · rw [qu_at, qu_at]
  · rw [qu_at]; exact ⟨v0, v1⟩
def DAY1 : List Nat := [6, 7, 10, 8, 20, 23, 25, 26, 27, 28, 29, 30, 31, 32, 33, 35, 43, 78]
theorem CA_w {M N : Int} {A : qA} (h : CA M A) (e : M ≤ N) : CA N A := fun d d0 d1 => by
  have := h d d0 d1
  omega
theorem falls_L (h0 : Int) : ∀ (m F1 F2 : Nat) (k : Int) (B1 B2 : qA), k + m = 48 → 0 ≤ k → GR B1 B2 → CN h0 B1 B2 → ∃ C2, fM_day_L (F2 + m + 1) 42 [k] B2 = fM_day_L F2 86 [0] C2 ∧ GR (fC_letCropsFall_L (F1 + m + 1) 2 [k] B1) C2 ∧ CN h0 (fC_letCropsFall_L (F1 + m + 1) 2 [k] B1) C2 ∧ frm FCW ((0, 11) :: FCV) B1 (fC_letCropsFall_L (F1 + m + 1) 2 [k] B1) ∧ frm FMW ((0, 1) :: FMV) B2 C2 ∧ ∀ M : Int, M + 200 * m ≤ 2000000000 → CA M B2 → CA (M + 200 * m) C2
  | 0, F1, F2, k, B1, B2, hm, k0, h, hn => by
    rw [fC_letCropsFall_L2, fM_day_L42]
    unfold fC_letCropsFall_c2 fM_day_c42
    simp only [qlet]
    rw [if_neg (show ¬ k < 48 by omega), if_neg (show ¬ k < 48 by omega)]
    exact ⟨B2, rfl, h, hn, frm_0 _ _ _, frm_0 _ _ _, fun M _ hM => by rw [show M + 200 * ((0 : Nat) : Int) = M by omega]; exact hM⟩
  | m + 1, F1, F2, k, B1, B2, hm, k0, h, hn => by
    rw [show F1 + (m + 1) + 1 = (F1 + m + 1) + 1 by omega, show F2 + (m + 1) + 1 = (F2 + m + 1) + 1 by omega, fC_letCropsFall_L2, fM_day_L42]
    unfold fC_letCropsFall_c2 fM_day_c42
    simp only [qlet, qlp]
    have k1 : k < 48 := by omega
    have hr := h.1.2 k k0 k1 trivial
    have hc := crop_is hr k0 k1
    rw [if_pos k1, if_pos k1, show wI (k + 1) = k + 1 from wI_id ⟨by omega, by omega⟩]
    by_cases q : B2 1 k = 0
    · rw [if_neg (fun z => (hc.mp z).1 q), if_pos q]
      obtain ⟨C2, r1, r2, r3, r4, r5, r6⟩ := falls_L h0 m F1 F2 (k + 1) B1 B2 (by omega) (by omega) h hn
      exact ⟨C2, r1, r2, r3, r4, r5, fun M m0 hM => CA_w (r6 M (by omega) hM) (by omega)⟩
    · rw [if_neg q]
      by_cases p : B2 7 k = -1
      · rw [if_neg (fun z => (hc.mp z).2 p), if_pos p]
        obtain ⟨C2, r1, r2, r3, r4, r5, r6⟩ := falls_L h0 m F1 F2 (k + 1) B1 B2 (by omega) (by omega) h hn
        exact ⟨C2, r1, r2, r3, r4, r5, fun M m0 hM => CA_w (r6 M (by omega) hM) (by omega)⟩
      · rw [if_pos (hc.mpr ⟨q, p⟩), if_neg p]
        obtain ⟨_, _, _, s1, s2, s3⟩ := h.2.1
        have hx : ia (25173 * B1 0 (fd 11) + 13849) (qn 65535) = qm (wI (25173 * B2 0 (fd 1) + 13849)) (qn 65536) ∧ 0 ≤ qm (wI (25173 * B2 0 (fd 1) + 13849)) (qn 65536) ∧ qm (wI (25173 * B2 0 (fd 1) + 13849)) (qn 65536) ≤ 65535 := by
          rw [s1, qn16, qn17, ia_16 (by omega) (by omega), show wI (25173 * B2 0 (fd 1) + 13849) = 25173 * B2 0 (fd 1) + 13849 from wI_id ⟨by omega, by omega⟩, qm_nn (by omega)]
          omega
        rw [hx.1]
        generalize qm (wI (25173 * B2 0 (fd 1) + 13849)) (qn 65536) = v at hx ⊢
        have hG := GR_seed h hx.2.1 hx.2.2
        have f1 : frm [] [(0, 11)] B1 (qu B1 0 (fd 11) v) := frm_qf (frm_0 _ _ _) rfl
        have f2 : frm [] [(0, 1)] B2 (qu B2 0 (fd 1) v) := frm_qf (frm_0 _ _ _) rfl
        have hn2 : CN h0 (qu B1 0 (fd 11) v) (qu B2 0 (fd 1) v) := CN_k hn (frm_f f1 rfl) (frm_f f2 rfl)
        have q2 : (qu B2 0 (fd 1) v) 1 k ≠ 0 := by rw [frm_a f2 (r := 1) rfl]; exact q
        have p2 : (qu B2 0 (fd 1) v) 7 k ≠ -1 := by rw [frm_a f2 (r := 7) rfl]; exact p
        generalize qu B1 0 (fd 11) v = D1 at hG f1 hn2 ⊢
        generalize qu B2 0 (fd 1) v = D2 at hG f2 hn2 q2 p2 ⊢
        obtain ⟨g1, g2, g3⟩ := odds_is (hG.1.2 k k0 k1 trivial) hG.2.1 hG.2.2.2 k0 k1 q2
        rw [g1]
        generalize fC_odds k D1 = y1 at g1 g3 ⊢
        generalize fM_asked k 102 1000 D2 = y2 at g1 g2 g3 ⊢
        have hE : GR y1.2 y2.2 := GA_ev hG g3
        have hn3 : CN h0 y1.2 y2.2 := CN_k hn2 (frm_f g3.1 rfl) (frm_f g3.2 rfl)
        have fa : frm FCW ((0, 11) :: FCV) B1 y1.2 := frm_c (frm_c (frm_0 _ _ _) f1 rfl) g3.1 rfl
        have fb : frm FMW ((0, 1) :: FMV) B2 y2.2 := frm_c (frm_c (frm_0 _ _ _) f2 rfl) g3.2 rfl
        have hc9 : ∀ {M}, CA M B2 → CA M y2.2 := fun hM => CA_k hM (by rw [frm_a g3.2 (r := 9) rfl, frm_a f2 (r := 9) rfl])
        by_cases w : qm v 1000 < y2.1
        · rw [if_pos w, if_pos w]
          obtain ⟨_, d2, d3, d4, d5, d6, d7⟩ := drop1 hE k0 k1 (by rw [frm_a g3.2 (r := 1) rfl]; exact q2) (by rw [frm_a g3.2 (r := 7) rfl]; exact p2)
          generalize fC_dropCrop k 1 y1.2 = z1 at d2 d3 d5 ⊢
          generalize fM_falls k 1 y2.2 = z2 at d2 d4 d6 d7 ⊢
          obtain ⟨C2, r1, r2, r3, r4, r5, r6⟩ := falls_L h0 m F1 F2 (k + 1) z1.2 z2.2 (by omega) (by omega) d2 (CN_s hn3 d5 d6)
          exact ⟨C2, r1, r2, r3, frm_c (frm_c fa d3 rfl) r4 rfl, frm_c (frm_c fb d4 rfl) r5 rfl, fun M m0 hM => CA_w (r6 (M + 200) (by omega) (d7 M (by omega) (hc9 hM))) (by omega)⟩
        · rw [if_neg w, if_neg w]
          obtain ⟨C2, r1, r2, r3, r4, r5, r6⟩ := falls_L h0 m F1 F2 (k + 1) y1.2 y2.2 (by omega) (by omega) hE hn3
          exact ⟨C2, r1, r2, r3, frm_c fa r4 rfl, frm_c fb r5 rfl, fun M m0 hM => CA_w (r6 M (by omega) (hc9 hM)) (by omega)⟩
/-- cells whose knots have aged in the class, not yet in the reference -/
def AG (k : Int) (B1 B2 : qA) : Prop := ∀ d, 0 ≤ d → d < k → RK B1 B2 d ∧ (B2 1 d ≠ 0 → (B1 2 d = max 0 (wI (B2 3 d - B2 49 d)) ∧ B1 3 d = B2 4 d ∧ B1 4 d = B2 5 d ∧ B1 5 d = B2 6 d) ∧ (B1 8 d = B2 9 d ∧ B1 9 d = B2 10 d))
theorem AG_e {k : Int} {A1 A2 B1 B2 : qA} (h : AG k A1 A2) (e2 : B2 1 = A2 1) (f : ∀ d, d < k → at_ [2, 3, 4, 5, 8, 9, 6, 7, 10] d A1 B1) (g : ∀ d, d < k → at_ [3, 4, 5, 6, 9, 10, 49, 7, 8, 2] d A2 B2) : AG k B1 B2 := by
  intro d d0 d1
  have f := f d d1
  have g := g d d1
  obtain ⟨a, b⟩ := h d d0 d1
  refine ⟨RK_e a (by rw [e2]) (fun r hr => f r (by
    have hm : ∀ r ∈ aRK, r ∈ [2, 3, 4, 5, 8, 9, 6, 7, 10] := by decide
    exact hm r hr)) (fun r hr => g r (by
    have hm : ∀ r ∈ aRKm, r ∈ [3, 4, 5, 6, 9, 10, 49, 7, 8, 2] := by decide
    exact hm r hr)), ?_⟩
  rw [e2, f 2 (by decide), f 3 (by decide), f 4 (by decide), f 5 (by decide), f 8 (by decide), f 9 (by decide), g 3 (by decide), g 4 (by decide), g 5 (by decide), g 6 (by decide), g 9 (by decide), g 10 (by decide), g 49 (by decide)]
  exact b
def frA (k : Int) : Int → Prop := fun d => k ≤ d
theorem age_L : ∀ (m F1 F2 : Nat) (k : Int) (B1 B2 : qA), k + m = 48 → 0 ≤ k → GA (frA k) B1 B2 → AG k B1 B2 → ∃ C2, fM_day_L (F2 + m + 1) 86 [k] B2 = fM_day_L F2 109 [0] C2 ∧ GA (frA 48) (fC_letKnotsAge_L (F1 + m + 1) 2 [k] B1) C2 ∧ AG 48 (fC_letKnotsAge_L (F1 + m + 1) 2 [k] B1) C2 ∧ frm [2, 35, 43, 78] [(36, 9), (71, 9)] B1 (fC_letKnotsAge_L (F1 + m + 1) 2 [k] B1) ∧ frm [49, 34, 35] [] B2 C2
  | 0, F1, F2, k, B1, B2, hm, k0, h, ha => by
    rw [fC_letKnotsAge_L2, fM_day_L86]
    unfold fC_letKnotsAge_c2 fM_day_c86
    simp only [qlet]
    rw [if_neg (show ¬ k < 48 by omega), if_neg (show ¬ k < 48 by omega)]
    rw [show k = 48 by omega] at h ha
    exact ⟨B2, rfl, h, ha, frm_0 _ _ _, frm_0 _ _ _⟩
  | m + 1, F1, F2, k, B1, B2, hm, k0, h, ha => by
    rw [show F1 + (m + 1) + 1 = (F1 + m + 1) + 1 by omega, show F2 + (m + 1) + 1 = (F2 + m + 1) + 1 by omega, fC_letKnotsAge_L2, fM_day_L86]
    unfold fC_letKnotsAge_c2 fM_day_c86
    simp only [qlet, qlp]
    have k1 : k < 48 := by omega
    have hr := h.1.2 k k0 k1 (Int.le_refl _)
    have hg := hang_is hr k0 k1
    rw [if_pos k1, if_pos k1, show wI (k + 1) = k + 1 from wI_id ⟨by omega, by omega⟩]
    by_cases q : B2 1 k = 0
    · rw [if_neg (fun z => hg.mp z q), if_pos q]
      have f2 : frm [49, 34, 35] [] B2 (qu B2 49 k 0) := frm_q (frm_0 _ _ _) rfl
      have e2 : (qu B2 49 k 0) 1 = B2 1 := frm_a f2 rfl
      have hG : GA (frA (k + 1)) B1 (qu B2 49 k 0) := ⟨⟨RHG_e h.1.1 rfl e2, fun d a b s => ⟨RN_e (h.1.2 d a b (show k ≤ d from by have : k + 1 ≤ d := s; omega)).1 rfl (by rw [e2]) (at_0 _ _ _) (at_f f2 rfl), RK_e (h.1.2 d a b (show k ≤ d from by have : k + 1 ≤ d := s; omega)).2 (by rw [e2]) (at_0 _ _ _) (at_f f2 rfl)⟩⟩, RB_f h.2.1 (frm_0 [] [] B1) f2 rfl rfl, RF_f h.2.2.1 (frm_0 [] [] B1) f2 rfl rfl, RL_f h.2.2.2 (frm_0 [] [] B1) f2 rfl rfl⟩
      have hA : AG (k + 1) B1 (qu B2 49 k 0) := by
        intro d d0 d1
        by_cases e : d = k
        · have z : (qu B2 49 k 0) 1 d = 0 := by rw [e2, e]; exact q
          exact ⟨fun w => absurd z w, fun w => absurd z w⟩
        · exact AG_e ha e2 (fun d _ => at_0 _ _ _) (fun d u => at_j (at_0 _ _ _) (by omega)) d d0 (by omega)
      obtain ⟨C2, r1, r2, r3, r4, r5⟩ := age_L m F1 F2 (k + 1) B1 (qu B2 49 k 0) (by omega) (by omega) hG hA
      exact ⟨C2, r1, r2, r3, r4, frm_c f2 r5 rfl⟩
    · rw [if_pos (hg.mpr q), if_neg q]
      obtain ⟨g1, g2, g3⟩ := ageing_is hr h.2.1 h.2.2.2 k0 k1 q
      have hE : GA (frA k) (fC_ageing k B1).2 (fM_asked k 97 999 B2).2 := GA_ev h g3
      generalize fC_ageing k B1 = y1 at g1 g3 hE ⊢
      generalize fM_asked k 97 999 B2 = y2 at g1 g2 g3 hE ⊢
      have f1 : frm [2, 35, 43, 78] [(36, 9), (71, 9)] B1 (qu y1.2 2 k (max 0 (wI (B1 2 k - y1.1)))) := frm_q (frm_c (frm_0 _ _ _) g3.1 rfl) rfl
      have f2 : frm [49, 34, 35] [] B2 (qu y2.2 49 k y2.1) := frm_q (frm_c (frm_0 _ _ _) g3.2 rfl) rfl
      have e1 : (qu y1.2 2 k (max 0 (wI (B1 2 k - y1.1)))) 1 (fd 0) = B1 1 (fd 0) := frm_f f1 rfl
      have e2 : (qu y2.2 49 k y2.1) 1 = B2 1 := frm_a f2 rfl
      have hG : GA (frA (k + 1)) (qu y1.2 2 k (max 0 (wI (B1 2 k - y1.1)))) (qu y2.2 49 k y2.1) := by
        refine ⟨⟨RHG_e h.1.1 e1 e2, fun d a b s => ?_⟩, RB_f h.2.1 f1 f2 rfl rfl, RF_f h.2.2.1 f1 f2 rfl rfl, RL_f h.2.2.2 f1 f2 rfl rfl⟩
        have hd : k + 1 ≤ d := s
        have hr2 := h.1.2 d a b (show k ≤ d by omega)
        exact ⟨RN_e hr2.1 e1 (by rw [e2]) (at_j (at_f g3.1 rfl) (by omega)) (at_f f2 rfl), RK_e hr2.2 (by rw [e2]) (at_f f1 rfl) (at_f f2 rfl)⟩
      have hA : AG (k + 1) (qu y1.2 2 k (max 0 (wI (B1 2 k - y1.1)))) (qu y2.2 49 k y2.1) := by
        intro d d0 d1
        by_cases e : d = k
        · refine ⟨by rw [e]; exact RK_e hr.2 (by rw [e2]) (at_f f1 rfl) (at_f f2 rfl), fun _ => ?_⟩
          obtain ⟨⟨u1, u2, u3, u4⟩, u5, u6⟩ := hr.1.2 q
          rw [e, qu_at, qu_at, frm_a f1 (r := 3) rfl, frm_a f1 (r := 4) rfl, frm_a f1 (r := 5) rfl, frm_a f1 (r := 8) rfl, frm_a f1 (r := 9) rfl, frm_a f2 (r := 3) rfl, frm_a f2 (r := 4) rfl, frm_a f2 (r := 5) rfl, frm_a f2 (r := 6) rfl, frm_a f2 (r := 9) rfl, frm_a f2 (r := 10) rfl, u1, g1]
          exact ⟨⟨rfl, u2, u3, u4⟩, u5, u6⟩
        · exact AG_e ha e2 (fun d u => at_j (at_f g3.1 rfl) (by omega)) (fun d u => at_j (at_f g3.2 rfl) (by omega)) d d0 (by omega)
      obtain ⟨C2, r1, r2, r3, r4, r5⟩ := age_L m F1 F2 (k + 1) _ _ (by omega) (by omega) hG hA
      exact ⟨C2, r1, r2, r3, frm_c f1 r4 rfl, frm_c f2 r5 rfl⟩
theorem ageM_L : ∀ (m F : Nat) (k : Int) (B : qA), k + m = 48 → 0 ≤ k → ∃ C, frm [3] [] B C ∧ (∀ d, C 3 d = if k ≤ d ∧ d < 48 then max 0 (wI (B 3 d - B 49 d)) else B 3 d) ∧ fM_day_L (F + m + 1) 109 [k] B = ((qu (fM_go C).2 0 (fd 0) (wI ((fM_go C).2 0 (fd 0) + 1))) 0 (fd 3), qu (fM_go C).2 0 (fd 0) (wI ((fM_go C).2 0 (fd 0) + 1)))
  | 0, F, k, B, hm, k0 => by
    rw [fM_day_L109]
    unfold fM_day_c109
    simp only [qlet, qlp]
    rw [if_neg (show ¬ k < 48 by omega)]
    exact ⟨B, frm_0 _ _ _, fun d => by rw [if_neg (fun z => by omega)], rfl⟩
  | m + 1, F, k, B, hm, k0 => by
    rw [show F + (m + 1) + 1 = (F + m + 1) + 1 by omega, fM_day_L109]
    unfold fM_day_c109
    simp only [qlet, qlp]
    rw [if_pos (show k < 48 by omega), show wI (k + 1) = k + 1 from wI_id ⟨by omega, by omega⟩, more_is]
    have e49 : (qu B 3 k (max 0 (wI (B 3 k - B 49 k)))) 49 = B 49 := qu_ne (by decide)
    obtain ⟨C, c1, c2, c3⟩ := ageM_L m F (k + 1) (qu B 3 k (max 0 (wI (B 3 k - B 49 k)))) (by omega) (by omega)
    refine ⟨C, frm_c (frm_q (frm_0 _ _ _) rfl) c1 rfl, fun d => ?_, c3⟩
    rw [c2 d, e49]
    by_cases q : d = k
    · rw [q, if_neg (fun z => by omega), qu_at, if_pos ⟨Int.le_refl _, by omega⟩]
    · rw [qu_nj q]
      by_cases w : k + 1 ≤ d ∧ d < 48
      · rw [if_pos w, if_pos ⟨by omega, w.2⟩]
      · rw [if_neg w, if_neg (fun z => w ⟨by omega, z.2⟩)]
theorem aged {B1 B2 C : qA} (h : GA (frA 48) B1 B2) (ha : AG 48 B1 B2) (f : frm [3] [] B2 C) (hc : ∀ d, C 3 d = if 0 ≤ d ∧ d < 48 then max 0 (wI (B2 3 d - B2 49 d)) else B2 3 d) : GR B1 C := by
  have e2 : C 1 = B2 1 := frm_a f rfl
  refine ⟨⟨RHG_e h.1.1 rfl e2, fun d a b _ => ?_⟩, RB_f h.2.1 (frm_0 [] [] B1) f rfl rfl, RF_f h.2.2.1 (frm_0 [] [] B1) f rfl rfl, RL_f h.2.2.2 (frm_0 [] [] B1) f rfl rfl⟩
  obtain ⟨u, v⟩ := ha d a b
  refine ⟨⟨by rw [e2]; exact h.1.1.1 d a b, fun z => ?_⟩, RK_e u (by rw [e2]) (at_0 _ _ _) (at_f f rfl)⟩
  rw [e2] at z
  rw [hc d, if_pos ⟨a, b⟩, frm_a f (r := 4) rfl, frm_a f (r := 5) rfl, frm_a f (r := 6) rfl, frm_a f (r := 9) rfl, frm_a f (r := 10) rfl]
  exact v z
theorem GR_day {A1 A2 : qA} {v : Int} (h : GR A1 A2) : GR (qu A1 15 (fd 8) v) (qu A2 0 (fd 0) v) := by
  have f1 : frm [] [(15, 8)] A1 (qu A1 15 (fd 8) v) := frm_qf (frm_0 _ _ _) rfl
  have f2 : frm [] [(0, 0)] A2 (qu A2 0 (fd 0) v) := frm_qf (frm_0 _ _ _) rfl
  have e1 : (qu A1 15 (fd 8) v) 1 (fd 0) = A1 1 (fd 0) := frm_f f1 rfl
  have e2 : (qu A2 0 (fd 0) v) 1 = A2 1 := frm_a f2 rfl
  refine ⟨⟨RHG_e h.1.1 e1 e2, fun d a b s => ⟨RN_e (h.1.2 d a b s).1 e1 (by rw [e2]) (at_f f1 rfl) (at_f f2 rfl), RK_e (h.1.2 d a b s).2 (by rw [e2]) (at_f f1 rfl) (at_f f2 rfl)⟩⟩, ?_, RF_f h.2.2.1 f1 f2 rfl rfl, RL_f h.2.2.2 f1 f2 rfl rfl⟩
  obtain ⟨b1, b2, b3, b4, b5⟩ := h.2.1
  refine ⟨fun k k0 k1 => ?_, fun x x0 x1 => ?_, ?_, ?_, ?_⟩
  · rw [frm_a f1 (r := 11) rfl, frm_a f1 (r := 12) rfl, frm_a f1 (r := 13) rfl, frm_a f2 (r := 11) rfl, frm_a f2 (r := 12) rfl, frm_a f2 (r := 13) rfl]
    exact b1 k k0 k1
  · rw [frm_a f1 (r := 16) rfl, frm_a f1 (r := 17) rfl, frm_a f1 (r := 18) rfl, frm_a f1 (r := 19) rfl, frm_a f1 (r := 20) rfl, frm_a f1 (r := 21) rfl, frm_a f1 (r := 22) rfl, frm_a f2 (r := 14) rfl, frm_a f2 (r := 15) rfl, frm_a f2 (r := 16) rfl, frm_a f2 (r := 17) rfl, frm_a f2 (r := 18) rfl, frm_a f2 (r := 20) rfl, frm_a f2 (r := 21) rfl]
    exact b2 x x0 x1
  · rw [qu_at, qu_at]
  · rw [frm_f f1 (r := 0) (j := 11) rfl, frm_f f2 (r := 0) (j := 1) rfl]; exact b4
  · rw [frm_f f2 (r := 0) (j := 1) rfl]; exact b5
theorem GR_f {A1 A2 B1 B2 : qA} {W1 W2 : List Nat} {V1 V2 : List (Nat × Nat)} (h : GR A1 A2) (f1 : frm W1 V1 A1 B1) (f2 : frm W2 V2 A2 B2) (c1 : (okFr aC1 [(1, 0)] W1 V1 && (okFr aC2 [(15, 8), (0, 11)] W1 V1 && (okFr aC3 [(24, 9)] W1 V1 && okFr aC4 [(34, 4), (36, 7), (71, 7)] W1 V1))) = true) (c2 : (okFr aM1 [] W2 V2 && (okFr aM2 [(0, 0), (0, 1)] W2 V2 && (okFr aM3 [(0, 2)] W2 V2 && okFr aM4 [(0, 35)] W2 V2))) = true) : GR B1 B2 := by
  simp only [Bool.and_eq_true] at c1 c2
  exact ⟨RCS_of (RC_f (GR_C h) f1 f2 c1.1 c2.1) _, RB_f h.2.1 f1 f2 c1.2.1 c2.2.1, RF_f h.2.2.1 f1 f2 c1.2.2.1 c2.2.2.1, RL_f h.2.2.2 f1 f2 c1.2.2.2 c2.2.2.2⟩
def DC1 : List Nat := [2, 3, 9, 19, 45, 46, 6, 7, 10, 8, 20, 23, 25, 26, 27, 28, 29, 30, 31, 32, 33, 35, 43, 78]
def DC2 : List (Nat × Nat) := [(1, 0), (0, 11), (15, 8), (24, 9), (24, 10), (36, 9), (71, 9)]
def DM1 : List Nat := [1, 3, 10, 17, 36, 37, 49, 19, 18, 34, 35, 38, 39, 40, 41, 42, 43, 44, 45, 46, 7, 8, 2, 9]
def DM2 : List (Nat × Nat) := [(0, 0), (0, 1), (0, 2), (0, 3)]
theorem day_is {A1 A2 : qA} (h : GR A1 A2) (hy : WY A1) : (fC_day A1).1 = (fM_day A2).1 ∧ GR (fC_day A1).2 (fM_day A2).2 ∧ frm DC1 DC2 A1 (fC_day A1).2 ∧ frm DM1 DM2 A2 (fM_day A2).2 ∧ ∀ M : Int, M ≤ 1000000000 → CA M A2 → CA (M + 9600) (fM_day A2).2 := by
  unfold fC_day fM_day
  simp only [qlet, qlp]
  have f3 : frm [] [(0, 3)] A2 (qu A2 0 (fd 3) 0) := frm_qf (frm_0 _ _ _) rfl
  have h3 : GR A1 (qu A2 0 (fd 3) 0) := GR_f h (frm_0 [] [] A1) f3 rfl rfl
  have n3 : CN (A1 24 (fd 10)) A1 (qu A2 0 (fd 3) 0) := by
    unfold CN
    rw [qu_at, Int.sub_self]
    exact wI_id ⟨by decide, by decide⟩
  generalize qu A2 0 (fd 3) 0 = D2 at f3 h3 n3 ⊢
  obtain ⟨_, w2, w3, w4⟩ := flow_is h3 hy
  generalize fC_letWaterFlow A1 = y1 at w2 w3 ⊢
  generalize fM_water D2 = y2 at w2 w4 ⊢
  have n4 : CN (A1 24 (fd 10)) y1.2 y2.2 := CN_k n3 (frm_f w3 rfl) (frm_f w4 rfl)
  obtain ⟨C2, r1, r2, r3, r4⟩ := grow_L 48 99951 99951 0 y1.2 y2.2 (by decide) (by decide) w2
  rw [show 99951 + 48 + 1 = 100000 from rfl] at r1 r2 r3
  have eg : fC_letCropsGrow y1.2 = fC_letCropsGrow_L 100000 2 [0] y1.2 := rfl
  rw [r1, eg]
  generalize fC_letCropsGrow_L 100000 2 [0] y1.2 = C1 at r2 r3 ⊢
  have n5 : CN (A1 24 (fd 10)) C1 C2 := CN_k n4 (frm_f r3 rfl) (frm_f r4 rfl)
  obtain ⟨E2, s1, s2, s3, s4, s5, s6⟩ := falls_L (A1 24 (fd 10)) 48 99951 99902 0 C1 C2 (by decide) (by decide) r2 n5
  rw [show 99951 + 48 + 1 = 100000 from rfl] at s2 s3 s4
  rw [show 99902 + 48 + 1 = 99951 from rfl] at s1
  have ef : fC_letCropsFall C1 = fC_letCropsFall_L 100000 2 [0] C1 := rfl
  rw [s1, ef]
  generalize fC_letCropsFall_L 100000 2 [0] C1 = E1 at s2 s3 s4 ⊢
  obtain ⟨G2, t1, t2, t3, t4, t5⟩ := age_L 48 99951 99853 0 E1 E2 (by decide) (by decide) (GA_w s2 (fun _ _ => trivial)) (fun d d0 d1 => by omega)
  rw [show 99951 + 48 + 1 = 100000 from rfl] at t2 t3 t4
  rw [show 99853 + 48 + 1 = 99902 from rfl] at t1
  have ea : fC_letKnotsAge E1 = fC_letKnotsAge_L 100000 2 [0] E1 := rfl
  rw [t1, ea]
  generalize fC_letKnotsAge_L 100000 2 [0] E1 = G1 at t2 t3 t4 ⊢
  obtain ⟨H2, u1, u2, u3⟩ := ageM_L 48 99804 0 G2 (by decide) (by decide)
  rw [show 99804 + 48 + 1 = 99853 from rfl] at u3
  rw [u3]
  have hH := aged t2 t3 u1 u2
  have n6 : CN (A1 24 (fd 10)) G1 H2 := CN_k s3 (frm_f t4 rfl) (by rw [frm_f u1 (r := 0) (j := 3) rfl, frm_f t5 (r := 0) (j := 3) rfl])
  obtain ⟨_, g2, g3, g4, g5, g6⟩ := go_is hH
  have n7 := g5 _ n6
  generalize fC_letKnotsGo G1 = z1 at g2 g3 n7 ⊢
  generalize fM_go H2 = z2 at g2 g4 g6 n7 ⊢
  have e15 : z1.2 15 (fd 8) = z2.2 0 (fd 0) := g2.2.1.2.2.1
  rw [e15]
  have fa : frm [] [(15, 8)] z1.2 (qu z1.2 15 (fd 8) (wI (z2.2 0 (fd 0) + 1))) := frm_qf (frm_0 _ _ _) rfl
  have fb : frm [] [(0, 0)] z2.2 (qu z2.2 0 (fd 0) (wI (z2.2 0 (fd 0) + 1))) := frm_qf (frm_0 _ _ _) rfl
  refine ⟨?_, GR_day g2, ?_, ?_, fun M m0 hM => ?_⟩
  · show wI ((qu z1.2 15 (fd 8) (wI (z2.2 0 (fd 0) + 1))) 24 (fd 10) - A1 24 (fd 10)) = (qu z2.2 0 (fd 0) (wI (z2.2 0 (fd 0) + 1))) 0 (fd 3)
    rw [frm_f fa (r := 24) (j := 10) rfl, frm_f fb (r := 0) (j := 3) rfl]
    exact n7
  · exact frm_c (frm_c (frm_c (frm_c (frm_c (frm_c (frm_0 _ _ _) w3 rfl) r3 rfl) s4 rfl) t4 rfl) g3 rfl) fa rfl
  · exact frm_c (frm_c (frm_c (frm_c (frm_c (frm_c (frm_c (frm_c (frm_0 _ _ _) f3 rfl) w4 rfl) r4 rfl) s5 rfl) t5 rfl) u1 rfl) g4 rfl) fb rfl
  · have q1 : CA M C2 := CA_k hM (by rw [frm_a r4 (r := 9) rfl, frm_a w4 (r := 9) rfl, frm_a f3 (r := 9) rfl])
    have q2 : CA (M + 9600) E2 := CA_w (s6 M (by omega) q1) (by omega)
    have q3 : CA (M + 9600) H2 := CA_k q2 (by rw [frm_a u1 (r := 9) rfl, frm_a t5 (r := 9) rfl])
    dsimp only
    exact CA_k (g6 (M + 9600) (by omega) q3) (frm_a fb rfl)
