/-! CELLS THAT GO: both gardens -/
/-- what hangs no more: one step of the loops -/
theorem more_is (x : Int) (A : qA) : fM_more 0 x A = max 0 x := by
  unfold fM_more
  split <;> omega
def UW1 : List Nat := [2]
theorem loosen_is {S : Int → Prop} {A1 A2 : qA} {c t l : Int} (h : GA S A1 A2) (hl : 0 ≤ c → c ≤ 47 → c % 6 = l) (hS : 0 ≤ c → c ≤ 47 → S c) : GA S (fC_loosen c t A1) (fM_tears c l t A2) ∧ frm [2] [] A1 (fC_loosen c t A1) ∧ frm [3] [] A2 (fM_tears c l t A2) := by
  unfold fC_loosen fM_tears
  simp only [qlet]
  by_cases hc : 0 ≤ c ∧ c ≤ 47
  · have hh := h.1.1.1 c hc.1 (by omega)
    rw [if_pos hc, qm_nn hc.1, if_pos (hl hc.1 hc.2)]
    by_cases q : A2 1 c = 0
    · rw [if_neg (fun z => (hh.mp z.2.2) q), if_pos q]
      exact ⟨h, frm_0 _ _ _, frm_0 _ _ _⟩
    · rw [if_pos ⟨hc.1, hc.2, hh.mpr q⟩, if_neg q, more_is]
      have k2 := ((h.1.2 c hc.1 (by omega) (hS hc.1 hc.2)).1.2 q).1.1
      rw [k2]
      have f1 : frm [2] [] A1 (qu A1 2 c (max 0 (wI (A2 3 c - t)))) := frm_q (frm_0 _ _ _) rfl
      have f2 : frm [3] [] A2 (qu A2 3 c (max 0 (wI (A2 3 c - t)))) := frm_q (frm_0 _ _ _) rfl
      have e1 : (qu A1 2 c (max 0 (wI (A2 3 c - t)))) 1 (fd 0) = A1 1 (fd 0) := frm_f f1 rfl
      refine ⟨⟨⟨RHG_e h.1.1 e1 (frm_a f2 rfl), fun d a b s => ⟨?_, RK_e (h.1.2 d a b s).2 (by rw [frm_a f2 (r := 1) rfl]) (at_f f1 rfl) (at_f f2 rfl)⟩⟩, RB_f h.2.1 f1 f2 rfl rfl, RF_f h.2.2.1 f1 f2 rfl rfl, RL_f h.2.2.2 f1 f2 rfl rfl⟩, f1, f2⟩
      obtain ⟨u1, u2⟩ := (h.1.2 d a b s).1
      refine ⟨by rw [HG_k e1 d, frm_a f2 (r := 1) rfl]; exact u1, fun z => ?_⟩
      rw [frm_a f2 (r := 1) rfl] at z
      obtain ⟨⟨u3, u4, u5, u6⟩, u7⟩ := u2 z
      rw [frm_a f1 (r := 3) rfl, frm_a f1 (r := 4) rfl, frm_a f1 (r := 5) rfl, frm_a f1 (r := 8) rfl, frm_a f1 (r := 9) rfl, frm_a f2 (r := 4) rfl, frm_a f2 (r := 5) rfl, frm_a f2 (r := 6) rfl, frm_a f2 (r := 9) rfl, frm_a f2 (r := 10) rfl]
      refine ⟨⟨?_, u4, u5, u6⟩, u7⟩
      by_cases e : d = c
      · rw [e, qu_at, qu_at]
      · rw [qu_nj e, qu_nj e]; exact u3
  · rw [if_neg (fun z => hc ⟨z.1, z.2.1⟩), if_neg hc]
    exact ⟨h, frm_0 _ _ _, frm_0 _ _ _⟩
/-- the class's bits go, one after another -/
theorem unhangC_L (c t e : Int) (e48 : e ≤ 48) : ∀ (m F : Nat) (k : Int) (B : qA), m < F → e - k ≤ m → 0 ≤ k → k ≤ e → ∃ U, frm [] [(1, 0)] B U ∧ (∀ d, 0 ≤ d → d < 64 → (HG U d ↔ (HG B d ∧ ¬ (k ≤ d ∧ d < e)))) ∧ fC_unhang_L F 5 [c, t, e, k] B = fC_loosen (wI (c + 6)) (wI (qd t 10)) (fC_loosen (wI (c - 6)) (wI (qd t 10)) U)
  | _, 0, _, _, h, _, _, _ => absurd h (Nat.not_lt_zero _)
  | m, F + 1, k, B, hF, hm, k0, ke => by
    rw [fC_unhang_L5]
    unfold fC_unhang_c5
    simp only [qlet]
    by_cases hk : k < e
    · rw [if_pos hk, show wI (k + 1) = k + 1 from wI_id ⟨by omega, by omega⟩]
      cases m with
      | zero => exfalso; omega
      | succ m =>
        obtain ⟨U, u1, u2, u3⟩ := unhangC_L c t e e48 m F (k + 1) (qu B 1 (fd 0) (ja (B 1 (fd 0)) (jx (jsl 1 k) (qnL 18446744073709551615)))) (by omega) (by omega) (by omega) (by omega)
        refine ⟨U, frm_c (frm_qf (frm_0 _ _ _) rfl) u1 rfl, fun d d0 d1 => ?_, u3⟩
        rw [u2 d d0 d1, HG_cut (A := B) (c := k) (qu_at _ _ _ _) k0 (by omega) d0 d1]
        constructor
        · rintro ⟨⟨a, b⟩, z⟩
          exact ⟨b, fun w => z ⟨by omega, w.2⟩⟩
        · rintro ⟨b, z⟩
          exact ⟨⟨fun w => z ⟨by omega, by omega⟩, b⟩, fun w => z ⟨by omega, w.2⟩⟩
    · rw [if_neg hk]
      exact ⟨B, frm_0 _ _ _, fun d _ _ => ⟨fun z => ⟨z, fun w => by omega⟩, fun z => z.1⟩, rfl⟩
/-- the reference's cells go, one after another -/
theorem unhangM_L {c t s : Int} (c0 : 0 ≤ c) (c1 : c < 48) : ∀ (m F : Nat) (k : Int) (B : qA), m < F → 6 * (c / 6 + 1) - k ≤ m → c ≤ k → k ≤ 6 * (c / 6 + 1) → ∃ U, frm [1] [] B U ∧ (∀ d, U 1 d = if k ≤ d ∧ d < 6 * (c / 6 + 1) then 0 else B 1 d) ∧ fM_goesOff_L F 48 [c, t, s, k] B = (s, fM_tears (wI (c + 6)) (c % 6) t (fM_tears (wI (c - 6)) (c % 6) t U))
  | _, 0, _, _, h, _, _, _ => absurd h (Nat.not_lt_zero _)
  | m, F + 1, k, B, hF, hm, k0, ke => by
    rw [fM_goesOff_L48]
    unfold fM_goesOff_c48
    simp only [qlet]
    rw [qd_nn c0, qm_nn c0, show wI (6 * (c / 6 + 1)) = 6 * (c / 6 + 1) from wI_id ⟨by omega, by omega⟩]
    by_cases hk : k < 6 * (c / 6 + 1)
    · rw [if_pos hk, show wI (k + 1) = k + 1 from wI_id ⟨by omega, by omega⟩]
      cases m with
      | zero => exfalso; omega
      | succ m =>
        obtain ⟨U, u1, u2, u3⟩ := unhangM_L (t := t) (s := s) c0 c1 m F (k + 1) (qu B 1 k 0) (by omega) (by omega) (by omega) (by omega)
        refine ⟨U, frm_c (frm_q (frm_0 _ _ _) rfl) u1 rfl, fun d => ?_, u3⟩
        rw [u2 d]
        by_cases z : k + 1 ≤ d ∧ d < 6 * (c / 6 + 1)
        · rw [if_pos z, if_pos ⟨by omega, z.2⟩]
        · rw [if_neg z]
          by_cases w : d = k
          · rw [w, qu_at, if_pos ⟨Int.le_refl _, hk⟩]
          · rw [qu_nj w, if_neg (fun v => z ⟨by omega, v.2⟩)]
    · rw [if_neg hk]
      exact ⟨B, frm_0 _ _ _, fun d => by rw [if_neg (fun w => by omega)], rfl⟩
/-- the set of cells that a tear leaves untouched -/
def out (c k d : Int) : Prop := ¬ (k < d ∧ d < 6 * (c / 6 + 1))
def GW1 : List Nat := [2, 3, 6, 7, 10, 8, 20, 23, 25, 26, 27, 28, 29, 30, 31, 32, 33, 35, 43, 78]
def GV1 : List (Nat × Nat) := [(1, 0), (24, 9), (24, 10), (36, 9), (71, 9)]
def GW2 : List Nat := [1, 3, 19, 18, 34, 35, 38, 39, 40, 41, 42, 43, 44, 45, 46, 7, 8, 2, 9]
def GV2 : List (Nat × Nat) := [(0, 2), (0, 3)]
/-- the count of falls, beside each other -/
def CN (h0 : Int) (A1 A2 : qA) : Prop := wI (A1 24 (fd 10) - h0) = A2 0 (fd 3)
theorem wI_sub1 (a h : Int) : wI (wI (a + 1) - h) = wI (wI (a - h) + 1) := by
  have e1 := wI_add (-h) (a + 1)
  have e2 := wI_add 1 (a - h)
  rw [show wI (a + 1) - h = -h + wI (a + 1) by omega, e1, show wI (a - h) + 1 = 1 + wI (a - h) by omega, e2]
  congr 1
  omega
theorem CN_s {h0 : Int} {A1 A2 B1 B2 : qA} (h : CN h0 A1 A2) (e1 : B1 24 (fd 10) = wI (A1 24 (fd 10) + 1)) (e2 : B2 0 (fd 3) = wI (A2 0 (fd 3) + 1)) : CN h0 B1 B2 := by
  unfold CN at h ⊢
  rw [e1, e2, ← h, wI_sub1]
theorem CN_k {h0 : Int} {A1 A2 B1 B2 : qA} (h : CN h0 A1 A2) (e1 : B1 24 (fd 10) = A1 24 (fd 10)) (e2 : B2 0 (fd 3) = A2 0 (fd 3)) : CN h0 B1 B2 := by
  unfold CN at h ⊢
  rw [e1, e2]
  exact h
/-- soil and what is caught are lost -/
theorem lose_is {c k : Int} {A1 A2 : qA} (h : GA (out c k) A1 A2) (hk : k < 6 * (c / 6 + 1)) : GA (out c (k - 1)) (qu (qu A1 3 k 0) 8 k 0) A2 := by
  obtain ⟨h1, hb, hf, hL⟩ := h
  have f1 : frm [3, 8] [] A1 (qu (qu A1 3 k 0) 8 k 0) := frm_q (frm_q (frm_0 _ _ _) rfl) rfl
  have f2 : frm [] [] A2 A2 := frm_0 _ _ _
  have e1 : (qu (qu A1 3 k 0) 8 k 0) 1 (fd 0) = A1 1 (fd 0) := frm_f f1 rfl
  refine ⟨⟨RHG_e h1.1 e1 rfl, fun d a b s => ?_⟩, RB_f hb f1 f2 rfl rfl, RF_f hf f1 f2 rfl rfl, RL_f hL f1 f2 rfl rfl⟩
  have hd : d ≠ k := fun q => s ⟨by omega, by omega⟩
  have hr := h1.2 d a b (fun q => s ⟨by omega, q.2⟩)
  exact ⟨RN_e hr.1 e1 rfl (at_j (at_j (at_0 _ _ _) hd) hd) (at_0 _ _ _), RK_e hr.2 rfl (at_j (at_j (at_0 _ _ _) hd) hd) (at_0 _ _ _)⟩
theorem GA_w {S T : Int → Prop} {A1 A2 : qA} (h : GA S A1 A2) (hs : ∀ d, T d → S d) : GA T A1 A2 := ⟨⟨h.1.1, fun d a b s => h.1.2 d a b (hs d s)⟩, h.2⟩
theorem off_is {c t s k : Int} {B1 B2 : qA} (c0 : 0 ≤ c) (c1 : c < 48) (hk : k = c - 1) (F2 : Nat) (hF : 9 < F2) (h : GA (out c k) B1 B2) : (fM_goesOff_L F2 48 [c, wI (qd t 10), s, c] B2).1 = s ∧ GA (fun _ => True) (fC_unhang c t B1) (fM_goesOff_L F2 48 [c, wI (qd t 10), s, c] B2).2 ∧ frm [2] [(1, 0)] B1 (fC_unhang c t B1) ∧ frm [1, 3] [] B2 (fM_goesOff_L F2 48 [c, wI (qd t 10), s, c] B2).2 ∧ (∀ d, (fM_goesOff_L F2 48 [c, wI (qd t 10), s, c] B2).2 1 d = if c ≤ d ∧ d < 6 * (c / 6 + 1) then 0 else B2 1 d) ∧ ∀ d, 0 ≤ d → d < 64 → (HG (fC_unhang c t B1) d ↔ (HG B1 d ∧ ¬ (c ≤ d ∧ d < 6 * (c / 6 + 1)))) := by
  obtain ⟨U1, a1, a2, a3⟩ := unhangC_L c t (6 * (c / 6 + 1)) (by omega) 10 100000 c B1 (by decide) (by omega) c0 (by omega)
  obtain ⟨U2, b1, b2, b3⟩ := unhangM_L (t := wI (qd t 10)) (s := s) c0 c1 9 F2 c B2 hF (by omega) (Int.le_refl _) (by omega)
  have e1 : fC_unhang c t B1 = fC_unhang_L 100000 5 [c, t, 6 * (c / 6 + 1), c] B1 := by
    unfold fC_unhang
    rw [show c - c % 6 + 6 = 6 * (c / 6 + 1) by omega]
  rw [e1, a3, b3]
  have hU : GA (fun _ => True) U1 U2 := by
    obtain ⟨h1, hb, hf, hL⟩ := h
    refine ⟨⟨⟨fun d d0 d1 => ?_, fun d d0 d1 d2 d3 => ?_⟩, fun d d0 d1 _ => ?_⟩, RB_f hb a1 b1 rfl rfl, RF_f hf a1 b1 rfl rfl, RL_f hL a1 b1 rfl rfl⟩
    · rw [a2 d d0 (by omega), b2 d, h1.1.1 d d0 d1]
      by_cases q : c ≤ d ∧ d < 6 * (c / 6 + 1)
      · rw [if_pos q]
        exact ⟨fun z => absurd q z.2, fun z => absurd rfl z⟩
      · rw [if_neg q]
        exact ⟨fun z => z.1, fun z => ⟨z, q⟩⟩
    · rw [b2 d] at d3
      have q : ¬ (c ≤ d ∧ d < 6 * (c / 6 + 1)) := fun q => d3 (if_pos q)
      rw [if_neg q] at d3
      rw [b2 (d - 1), if_neg (fun w => by omega)]
      exact h1.1.2 d d0 d1 d2 d3
    · by_cases q : c ≤ d ∧ d < 6 * (c / 6 + 1)
      · have z : U2 1 d = 0 := by rw [b2 d, if_pos q]
        refine ⟨⟨?_, fun w => absurd z w⟩, fun w => absurd z w⟩
        rw [a2 d d0 (by omega)]
        exact ⟨fun w => absurd q w.2, fun w => absurd z w⟩
      · have z : U2 1 d = B2 1 d := by rw [b2 d, if_neg q]
        have hr := h1.2 d d0 d1 (fun w => q ⟨by omega, w.2⟩)
        refine ⟨⟨?_, fun w => ?_⟩, RK_e hr.2 z (at_f a1 rfl) (at_f b1 rfl)⟩
        · rw [a2 d d0 (by omega), z]
          exact ⟨fun w => hr.1.1.mp w.1, fun w => ⟨hr.1.1.mpr w, q⟩⟩
        · rw [z] at w
          rw [frm_a a1 (r := 2) rfl, frm_a a1 (r := 3) rfl, frm_a a1 (r := 4) rfl, frm_a a1 (r := 5) rfl, frm_a a1 (r := 8) rfl, frm_a a1 (r := 9) rfl, frm_a b1 (r := 3) rfl, frm_a b1 (r := 4) rfl, frm_a b1 (r := 5) rfl, frm_a b1 (r := 6) rfl, frm_a b1 (r := 9) rfl, frm_a b1 (r := 10) rfl]
          exact hr.1.2 w
  rw [show wI (c + 6) = c + 6 from wI_id ⟨by omega, by omega⟩, show wI (c - 6) = c - 6 from wI_id ⟨by omega, by omega⟩]
  obtain ⟨l1, l2, l3⟩ := loosen_is (c := c - 6) (t := wI (qd t 10)) (l := c % 6) hU (fun _ _ => by omega) (fun _ _ => trivial)
  obtain ⟨m1, m2, m3⟩ := loosen_is (c := c + 6) (t := wI (qd t 10)) (l := c % 6) l1 (fun _ _ => by omega) (fun _ _ => trivial)
  refine ⟨rfl, m1, frm_c (frm_c (frm_c (frm_0 _ _ _) a1 rfl) l2 rfl) m2 rfl, frm_c (frm_c (frm_c (frm_0 _ _ _) b1 rfl) l3 rfl) m3 rfl, fun d => ?_, fun d d0 d1 => ?_⟩
  · show (fM_tears (c + 6) (c % 6) (wI (qd t 10)) (fM_tears (c - 6) (c % 6) (wI (qd t 10)) U2)) 1 d = _
    rw [frm_a m3 (r := 1) rfl, frm_a l3 (r := 1) rfl]
    exact b2 d
  · have e9 : (fC_loosen (c + 6) (wI (qd t 10)) (fC_loosen (c - 6) (wI (qd t 10)) U1)) 1 (fd 0) = U1 1 (fd 0) := by rw [frm_f m2 (r := 1) (j := 0) rfl, frm_f l2 (r := 1) (j := 0) rfl]
    rw [HG_k e9 d]
    exact a2 d d0 d1
theorem tear_L {c t : Int} (c0 : 0 ≤ c) (c1 : c < 48) : ∀ (m F1 F2 : Nat) (s k : Int) (B1 B2 : qA), m + 10 < F1 → m + 10 < F2 → k + 1 - c ≤ m → c - 1 ≤ k → k < 6 * (c / 6 + 1) → rng s → GA (out c k) B1 B2 → (fC_tearDown_L F1 12 [c, t, s, k] B1).1 = (fM_goesOff_L F2 18 [c, 1, (wI (qd t 10)), s, k] B2).1 ∧ GA (fun _ => True) (fC_tearDown_L F1 12 [c, t, s, k] B1).2 (fM_goesOff_L F2 18 [c, 1, (wI (qd t 10)), s, k] B2).2 ∧ frm GW1 GV1 B1 (fC_tearDown_L F1 12 [c, t, s, k] B1).2 ∧ frm GW2 GV2 B2 (fM_goesOff_L F2 18 [c, 1, (wI (qd t 10)), s, k] B2).2 ∧ (∀ h0, CN h0 B1 B2 → CN h0 (fC_tearDown_L F1 12 [c, t, s, k] B1).2 (fM_goesOff_L F2 18 [c, 1, (wI (qd t 10)), s, k] B2).2) ∧ (∀ d, (fM_goesOff_L F2 18 [c, 1, (wI (qd t 10)), s, k] B2).2 1 d = if c ≤ d ∧ d < 6 * (c / 6 + 1) then 0 else B2 1 d) ∧ ∀ M, M ≤ 2000000000 → CA M B2 → CA M (fM_goesOff_L F2 18 [c, 1, (wI (qd t 10)), s, k] B2).2
  | _, 0, _, _, _, _, _, h, _, _, _, _, _, _ => absurd h (Nat.not_lt_zero _)
  | _, _, 0, _, _, _, _, _, h, _, _, _, _, _ => absurd h (Nat.not_lt_zero _)
  | m, F1 + 1, F2 + 1, s, k, B1, B2, hF1, hF2, hm, k0, k1, hs, h => by
    rw [fC_tearDown_L12, fM_goesOff_L18]
    unfold fC_tearDown_c12 fM_goesOff_c18
    simp only [qlet, qlp]
    by_cases hk : k < c
    · rw [if_pos hk, if_pos hk]
      obtain ⟨r1, r2, r3, r4, r5, _⟩ := off_is (t := t) (s := s) c0 c1 (show k = c - 1 by omega) F2 (by omega) h
      exact ⟨r1.symm, r2, frm_c (frm_0 _ _ _) r3 rfl, frm_c (frm_0 _ _ _) r4 rfl, fun h0 hc => CN_k hc (frm_f r3 rfl) (frm_f r4 rfl), r5, fun M _ hM => CA_k hM (frm_a r4 rfl)⟩
    · rw [if_neg hk, if_neg hk, show wI (k + -1) = k + -1 from wI_id ⟨by omega, by omega⟩, if_neg (show ¬ (1 : Int) = 0 by decide)]
      have hg := h.1.1.1 k (by omega) (by omega)
      cases m with
      | zero => exfalso; omega
      | succ m =>
        by_cases q : B2 1 k = 0
        · rw [if_neg (fun z => hg.mp z.2.2 q), if_pos q]
          exact tear_L c0 c1 m F1 F2 s (k + -1) B1 B2 (by omega) (by omega) (by omega) (by omega) (by omega) hs (GA_w h (fun d w z => w ⟨by omega, z.2⟩))
        · rw [if_pos ⟨by omega, by omega, hg.mpr q⟩, if_neg q]
          have hc := crop_is (h.1.2 k (by omega) (by omega) (fun z => by omega)) (by omega) (by omega)
          by_cases p : B2 7 k = -1
          · rw [if_neg (fun z => (hc.mp z).2 p), if_pos p]
            have h2 := lose_is h k1
            rw [show k - 1 = k + -1 by omega] at h2
            obtain ⟨r1, r2, r3, r4, r5, r6, r7⟩ := tear_L c0 c1 m F1 F2 (wI (s + 1)) (k + -1) (qu (qu B1 3 k 0) 8 k 0) B2 (by omega) (by omega) (by omega) (by omega) (by omega) (wI_rng _) h2
            exact ⟨r1, r2, frm_c (frm_q (frm_q (frm_0 _ _ _) rfl) rfl) r3 rfl, r4, fun h0 z => r5 h0 (CN_k z (by rw [qu_ne (by decide), qu_ne (by decide)]) rfl), r6, r7⟩
          · rw [if_pos (hc.mpr ⟨q, p⟩), if_neg p]
            obtain ⟨_, d2, d3, d4, d5, d6, d7⟩ := drop0 h (show 0 ≤ k by omega) (show k < 48 by omega) (fun z => by omega) q p
            generalize fC_dropCrop k 0 B1 = y1 at d2 d3 d5 ⊢
            generalize fM_falls k 0 B2 = y2 at d2 d4 d6 d7 ⊢
            have h2 := lose_is d2 k1
            rw [show k - 1 = k + -1 by omega] at h2
            obtain ⟨r1, r2, r3, r4, r5, r6, r7⟩ := tear_L c0 c1 m F1 F2 (wI (s + 1)) (k + -1) (qu (qu y1.2 3 k 0) 8 k 0) y2.2 (by omega) (by omega) (by omega) (by omega) (by omega) (wI_rng _) h2
            refine ⟨r1, r2, frm_c (frm_q (frm_q (frm_c (frm_0 _ _ _) d3 rfl) rfl) rfl) r3 rfl, frm_c (frm_c (frm_0 _ _ _) d4 rfl) r4 rfl, fun h0 z => r5 h0 (CN_k (CN_s z d5 d6) (by rw [qu_ne (by decide), qu_ne (by decide)]) rfl), fun d => ?_, fun M m0 hM => r7 M m0 (by have := d7 M m0 hM; rw [Int.add_zero] at this; exact this)⟩
            rw [r6 d, frm_a d4 (r := 1) rfl]
def GR (A1 A2 : qA) : Prop := GA (fun _ => True) A1 A2
theorem GR_C {A1 A2 : qA} (h : GR A1 A2) : RC A1 A2 := RC_of h.1 (fun _ _ _ => Or.inl trivial)
def tearE (A1 A2 : qA) (y1 y2 : Int × qA) : Prop := y1.1 = y2.1 ∧ GR y1.2 y2.2 ∧ frm GW1 GV1 A1 y1.2 ∧ frm GW2 GV2 A2 y2.2 ∧ (∀ h0, CN h0 A1 A2 → CN h0 y1.2 y2.2) ∧ ∀ M, M ≤ 2000000000 → CA M A2 → CA M y2.2
theorem tear_is {A1 A2 : qA} {c : Int} (h : GR A1 A2) (c0 : 0 ≤ c) (c1 : c < 48) : tearE A1 A2 (fC_tearDown c A1) (fM_goesOff c 1 A2) ∧ ∀ d, (fM_goesOff c 1 A2).2 1 d = if c ≤ d ∧ d < 6 * (c / 6 + 1) then 0 else A2 1 d := by
  have e := load_is (GR_C h) c0 c1
  unfold fC_tearDown fM_goesOff
  simp only [qlet]
  rw [← e, qd_nn c0, show c - c % 6 + 6 - 1 = 6 * (c / 6 + 1) - 1 by omega, show wI (6 * (c / 6 + 1) - 1) = 6 * (c / 6 + 1) - 1 from wI_id ⟨by omega, by omega⟩]
  obtain ⟨r1, r2, r3, r4, r5, r6, r7⟩ := tear_L (t := fC_loadOf c A1) c0 c1 10 100000 100000 0 (6 * (c / 6 + 1) - 1) A1 A2 (by decide) (by decide) (by omega) (by omega) (by omega) ⟨by decide, by decide⟩ (GA_w h (fun _ _ => trivial))
  exact ⟨⟨r1, r2, r3, r4, r5, r7⟩, r6⟩
/-- how many hang, of the first n -/
def cntM (A : qA) : Nat → Nat
  | 0 => 0
  | n + 1 => cntM A n + (if A 1 (n : Int) = 0 then 0 else 1)
theorem cnt_le {A B : qA} : ∀ n : Nat, (∀ d : Int, 0 ≤ d → d < n → A 1 d = 0 → B 1 d = 0) → cntM B n ≤ cntM A n
  | 0, _ => Nat.le_refl _
  | n + 1, h => by
    have ih := cnt_le n (fun d d0 d1 => h d d0 (by omega))
    have hn := h n (by omega) (by omega)
    unfold cntM
    by_cases q : A 1 (n : Int) = 0
    · rw [if_pos q, if_pos (hn q)]; exact ih
    · rw [if_neg q]
      split <;> omega
theorem cnt_lt {A B : qA} {c : Int} (c0 : 0 ≤ c) (ha : A 1 c ≠ 0) (hb : B 1 c = 0) : ∀ n : Nat, c < n → (∀ d : Int, 0 ≤ d → d < n → A 1 d = 0 → B 1 d = 0) → cntM B n < cntM A n
  | 0, h, _ => absurd h (by omega)
  | n + 1, h, hd => by
    have hn := hd n (by omega) (by omega)
    unfold cntM
    by_cases e : c = n
    · have ih := cnt_le (A := A) (B := B) n (fun d d0 d1 => hd d d0 (by omega))
      rw [← e, if_neg ha, if_pos hb]
      omega
    · have ih := cnt_lt c0 ha hb n (by omega) (fun d d0 d1 => hd d d0 (by omega))
      by_cases q : A 1 (n : Int) = 0
      · rw [if_pos q, if_pos (hn q)]; omega
      · rw [if_neg q]
        split <;> omega
theorem cnt_bd (A : qA) : ∀ n : Nat, cntM A n ≤ n
  | 0 => Nat.le_refl _
  | n + 1 => by
    have := cnt_bd A n
    unfold cntM
    split <;> omega
theorem cnt_0 {A : qA} : ∀ n : Nat, cntM A n = 0 → ∀ d : Int, 0 ≤ d → d < n → A 1 d = 0
  | 0, _, d, h0, h1 => absurd h1 (by omega)
  | n + 1, h, d, h0, h1 => by
    unfold cntM at h
    by_cases e : d = n
    · rw [e]
      by_cases q : A 1 (n : Int) = 0
      · exact q
      · rw [if_neg q] at h; omega
    · exact cnt_0 n (by omega) d h0 (by omega)
/-- who goes first hangs -/
theorem firstM_L {A : qA} : ∀ (m F : Nat) (k : Int), m < F → 48 - k ≤ m → 0 ≤ k → fM_firstGoing_L F 2 [k] A = -1 ∨ (0 ≤ fM_firstGoing_L F 2 [k] A ∧ fM_firstGoing_L F 2 [k] A < 48 ∧ A 1 (fM_firstGoing_L F 2 [k] A) ≠ 0)
  | _, 0, _, h, _, _ => absurd h (Nat.not_lt_zero _)
  | m, F + 1, k, hF, hm, hk => by
    rw [fM_firstGoing_L2]
    unfold fM_firstGoing_c2
    simp only [qlet]
    by_cases hk2 : k < 48
    · have hw : wI (k + 1) = k + 1 := wI_id ⟨by omega, by omega⟩
      rw [if_pos hk2, hw]
      cases m with
      | zero => exfalso; omega
      | succ m =>
        have ih := firstM_L (A := A) m F (k + 1) (by omega) (by omega) (by omega)
        by_cases q : A 1 k = 0
        · rw [if_pos q]; exact ih
        · rw [if_neg q]
          by_cases p : A 3 k < fM_loadOf k A
          · rw [if_pos p]; exact Or.inr ⟨hk, hk2, q⟩
          · rw [if_neg p]; exact ih
    · rw [if_neg hk2]; exact Or.inl rfl
theorem firstM (A : qA) : fM_firstGoing A = -1 ∨ (0 ≤ fM_firstGoing A ∧ fM_firstGoing A < 48 ∧ A 1 (fM_firstGoing A) ≠ 0) := firstM_L 48 100000 0 (by decide) (by decide) (by decide)
theorem go_L : ∀ (m F1 F2 : Nat) (s k : Int) (B1 B2 : qA), m + 1 < F1 → m + 1 < F2 → cntM B2 48 ≤ m → 0 ≤ k → m ≤ 48 - k → GR B1 B2 → tearE B1 B2 (fC_letKnotsGo_L F1 4 [s, k] B1) (fM_go_L F2 5 [s, (fM_firstGoing B2)] B2)
  | _, 0, _, _, _, _, _, h, _, _, _, _, _ => absurd h (Nat.not_lt_zero _)
  | _, _, 0, _, _, _, _, _, h, _, _, _, _ => absurd h (Nat.not_lt_zero _)
  | m, F1 + 1, F2 + 1, s, k, B1, B2, hF1, hF2, hm, k0, k1, h => by
    rw [fC_letKnotsGo_L4, fM_go_L5]
    unfold fC_letKnotsGo_c4 fM_go_c5
    simp only [qlet, qlp]
    rw [first_is (GR_C h)]
    have ref : tearE B1 B2 (s, B1) (s, B2) := ⟨rfl, h, frm_0 _ _ _, frm_0 _ _ _, fun _ z => z, fun _ _ z => z⟩
    rcases firstM B2 with q | ⟨q0, q1, q2⟩
    · rw [if_pos q, if_pos q]
      split
      · exact ref
      · exact ref
    · have q3 : ¬ fM_firstGoing B2 = -1 := by omega
      have hpos : 0 < cntM B2 48 := Nat.pos_of_ne_zero (fun z => q2 (cnt_0 48 z _ q0 (by omega)))
      rw [if_pos (show k < 48 by omega), if_neg q3, if_neg q3, show wI (k + 1) = k + 1 from wI_id ⟨by omega, by omega⟩]
      obtain ⟨⟨t1, t2, t3, t4, t5, t7⟩, t6⟩ := tear_is h q0 q1
      generalize fM_firstGoing B2 = c at q0 q1 q2 t1 t2 t3 t4 t5 t6 t7 ⊢
      generalize fC_tearDown c B1 = y1 at t1 t2 t3 t5 ⊢
      generalize fM_goesOff c 1 B2 = y2 at t1 t2 t4 t5 t6 t7 ⊢
      have hlt : cntM y2.2 48 < cntM B2 48 := cnt_lt q0 q2 (by rw [t6 c, if_pos ⟨Int.le_refl _, by omega⟩]) 48 (by omega) (fun d _ _ z => by rw [t6 d, z]; split <;> rfl)
      rw [t1]
      cases m with
      | zero => exfalso; omega
      | succ m =>
        obtain ⟨r1, r2, r3, r4, r5, r6⟩ := go_L m F1 F2 (wI (s + y2.1)) (k + 1) y1.2 y2.2 (by omega) (by omega) (by omega) (by omega) (by omega) t2
        exact ⟨r1, r2, frm_c t3 r3 rfl, frm_c t4 r4 rfl, fun h0 z => r5 h0 (t5 h0 z), fun M m0 z => r6 M m0 (t7 M m0 z)⟩
theorem go_is {A1 A2 : qA} (h : GR A1 A2) : tearE A1 A2 (fC_letKnotsGo A1) (fM_go A2) := by
  have hb := cnt_bd A2 48
  exact go_L 48 100000 100000 0 0 A1 A2 (by decide) (by decide) hb (by decide) (by decide) h
