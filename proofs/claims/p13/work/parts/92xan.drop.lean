/-! A CROP FALLS: both gardens -/
theorem catch_is {A1 A2 : qA} {row c : Int} (hr : rowOf A1 A2 row c) (hRC : ∀ k, c < k → k < c - c % 6 + 6 → RN A1 A2 k) (hb : RB A1 A2) (hL : RL A1 A2) (c0 : 0 ≤ c) (c1 : c < 48) : (fC_catching row A1).1 = (if (fM_catcher c A2).1 = -1 then 6 else (fM_catcher c A2).1 % 6) ∧ ((fM_catcher c A2).1 = -1 ∨ (c < (fM_catcher c A2).1 ∧ (fM_catcher c A2).1 < c - c % 6 + 6 ∧ A2 1 (fM_catcher c A2).1 ≠ 0)) ∧ EV A1 A2 (fC_catching row A1).2 (fM_catcher c A2).2 := by
  unfold fC_catching
  rcases hL with ⟨q, hL⟩ | ⟨q, hL⟩
  · rw [if_pos q]
    obtain ⟨a, b, d, e⟩ := catch36 hr hRC hb hL c0 c1
    exact ⟨a, b, d, e⟩
  · rw [if_neg (show ¬ A1 34 (fd 4) = 36 by omega)]
    obtain ⟨a, b, d, e⟩ := catch71 hr hRC hb hL c0 c1
    exact ⟨a, b, d, e⟩
theorem owner_is {A1 A2 : qA} {row c : Int} (hr : rowOf A1 A2 row c) (h : RN A1 A2 c) (hb : RB A1 A2) (hL : RL A1 A2) (c0 : 0 ≤ c) (c1 : c < 48) (hh : A2 1 c ≠ 0) (hk : A2 7 c ≠ -1) (h30 : A1 30 row = 6) : EV A1 A2 (fC_ownerOf row A1).2 (fM_told 111 7 (qu (fM_feels c A2) 35 12 (6 - c % 6))).2 := by
  unfold fC_ownerOf
  rcases hL with ⟨q, hL⟩ | ⟨q, hL⟩
  · rw [if_pos q]
    obtain ⟨_, _, d, e⟩ := owner36 hr h hb hL c0 c1 hh hk h30
    exact ⟨d, e⟩
  · rw [if_neg (show ¬ A1 34 (fd 4) = 36 by omega)]
    obtain ⟨_, _, d, e⟩ := owner71 hr h hb hL c0 c1 hh hk h30
    exact ⟨d, e⟩
theorem open_is (c t : Int) (A : qA) : (fC_open c t A).1 = A 24 (fd 9) ∧ frm [25, 26, 27, 28, 29, 33] [] A (fC_open c t A).2 ∧ ((fC_open c t A).2 25 (A 24 (fd 9)) = c ∧ (fC_open c t A).2 26 (A 24 (fd 9)) = A 6 c ∧ (fC_open c t A).2 27 (A 24 (fd 9)) = A 7 c ∧ (fC_open c t A).2 28 (A 24 (fd 9)) = fC_isRipe c A ∧ (fC_open c t A).2 29 (A 24 (fd 9)) = A 10 c ∧ (fC_open c t A).2 33 (A 24 (fd 9)) = t) ∧ ∀ i, i ≠ A 24 (fd 9) → at_ [25, 26, 27, 28, 29, 33] i A (fC_open c t A).2 := by
  unfold fC_open
  simp only [qlet]
  have er : ∀ v w x, fC_isRipe c (qu (qu (qu A 25 (A 24 (fd 9)) v) 26 (A 24 (fd 9)) w) 27 (A 24 (fd 9)) x) = fC_isRipe c A := fun v w x => ripeC_k c (by simp [qu_is]) (by funext j; simp [qu_is]) (by funext j; simp [qu_is]) (by funext j; simp [qu_is])
  rw [er]
  generalize A 24 (fd 9) = r
  refine ⟨trivial, ?_, ⟨?_, ?_, ?_, ?_, ?_, ?_⟩, fun i hi => ?_⟩
  · exact frm_q (frm_q (frm_q (frm_q (frm_q (frm_q (frm_0 _ _ _) rfl) rfl) rfl) rfl) rfl) rfl
  · simp [qu_is]
  · simp [qu_is]
  · simp [qu_is]
  · simp [qu_is]
  · simp [qu_is]
  · simp [qu_is]
  · exact at_j (at_j (at_j (at_j (at_j (at_j (at_0 _ _ _) hi) hi) hi) hi) hi) hi
theorem landIn_is {row c : Int} (c0 : 0 ≤ c) (A : qA) : frm [32, 23, 20] [] A (fC_landIn row c A) ∧ ∀ x, (fC_landIn row c A) 20 x = if x = c / 6 ∧ A 18 (c / 6) < wI (A 27 row * (6 - c % 6)) then wI (A 20 (c / 6) + 1) else A 20 x := by
  unfold fC_landIn
  simp only [qlet]
  rw [qd_nn c0, qm_nn c0]
  have e : ∀ v p w, (qu (qu A 32 row v) 23 p w) 18 (c / 6) = A 18 (c / 6) := fun v p w => by simp [qu_is]
  rw [e]
  by_cases hq : A 18 (c / 6) < wI (A 27 row * (6 - c % 6))
  · rw [if_pos hq]
    refine ⟨frm_q (frm_q (frm_q (frm_0 _ _ _) rfl) rfl) rfl, fun x => ?_⟩
    by_cases hx : x = c / 6
    · rw [if_pos ⟨hx, hq⟩, hx, qu_at]
      simp [qu_is]
    · rw [if_neg (fun z => hx z.1), qu_nj hx]
      simp [qu_is]
  · rw [if_neg hq]
    refine ⟨frm_q (frm_q (frm_0 _ _ _) rfl) rfl, fun x => ?_⟩
    rw [if_neg (fun z => hq z.2)]
    simp [qu_is]
theorem close_is {A : qA} (h0 : 0 ≤ A 24 (fd 9)) (h1 : A 24 (fd 9) ≤ 60) : frm [] [(24, 9), (24, 10)] A (fC_close A) ∧ (fC_close A) 24 (fd 10) = wI (A 24 (fd 10) + 1) ∧ (fC_close A) 24 (fd 9) = if A 24 (fd 9) < 60 then A 24 (fd 9) + 1 else A 24 (fd 9) := by
  unfold fC_close
  simp only [qlet]
  have e : ∀ v, (qu A 24 (fd 10) v) 24 (fd 9) = A 24 (fd 9) := fun v => by simp [qu_is, fd_eq]
  rw [e]
  by_cases hq : A 24 (fd 9) < 60
  · rw [if_pos hq, if_pos hq]
    refine ⟨frm_qf (frm_qf (frm_0 _ _ _) rfl) rfl, ?_, ?_⟩
    · simp [qu_is, fd_eq]
    · rw [qu_at]
      exact wI_id ⟨by omega, by omega⟩
  · rw [if_neg hq, if_neg hq]
    exact ⟨frm_qf (frm_0 _ _ _) rfl, qu_at _ _ _ _, e _⟩
/-- the reference's kitchen -/
def kitM (c : Int) (A14 : qA) : Int × qA := qlet (qm c 6) fun v23 => qlet (6 - v23) fun v26 => qlet (fM_feels c A14) fun A28 => qlet (qu A28 35 12 (wI v26)) fun A36 => qlp (fM_told 111 7 A36) fun r48 A44 => qlet (A44 8 c) fun v57 => qlet (A44 7 c) fun v59 => qlet (A44 13 v59) fun v63 => qlet (v57 * v63) fun v66 => qlet (A44 19 r48) fun v68 => qlet (v68 + v66) fun v70 => qlet (qu A44 19 r48 (wI v70)) fun A72 => qlet (A72 8 c) fun v79 => qlet (v57 * v26) fun v82 => qlet (qd c 6) fun v84 => qlet (A72 16 v84) fun v87 => (if v87 < (wI v82) then qlet (qd c 6) fun v109 => qlet (qd c 6) fun v112 => qlet (A72 18 v112) fun v115 => qlet (v115 + 1) fun v117 => qlet (qu A72 18 v109 (wI v117)) fun A119 => qlet (fM_writes c 6 r48 (wI v66) A119) fun A127 => qlet (fM_empties c A127) fun A135 => (6, A135) else qlet (fM_writes c 6 r48 (wI v66) A72) fun A93 => qlet (fM_empties c A93) fun A101 => (6, A101))
theorem falls_eq (c b : Int) (A : qA) : fM_falls c b A = if b = 0 then kitM c (qu A 0 (fd 3) (wI (A 0 (fd 3) + 1))) else (if (fM_catcher c (qu A 0 (fd 3) (wI (A 0 (fd 3) + 1)))).1 = -1 then kitM c (fM_catcher c (qu A 0 (fd 3) (wI (A 0 (fd 3) + 1)))).2 else (qm (fM_catcher c (qu A 0 (fd 3) (wI (A 0 (fd 3) + 1)))).1 6, fM_empties c (qu (fM_writes c (qm (fM_catcher c (qu A 0 (fd 3) (wI (A 0 (fd 3) + 1)))).1 6) (-1) 0 (fM_catcher c (qu A 0 (fd 3) (wI (A 0 (fd 3) + 1)))).2) 9 (fM_catcher c (qu A 0 (fd 3) (wI (A 0 (fd 3) + 1)))).1 (wI ((fM_writes c (qm (fM_catcher c (qu A 0 (fd 3) (wI (A 0 (fd 3) + 1)))).1 6) (-1) 0 (fM_catcher c (qu A 0 (fd 3) (wI (A 0 (fd 3) + 1)))).2) 9 (fM_catcher c (qu A 0 (fd 3) (wI (A 0 (fd 3) + 1)))).1 + (fM_writes c (qm (fM_catcher c (qu A 0 (fd 3) (wI (A 0 (fd 3) + 1)))).1 6) (-1) 0 (fM_catcher c (qu A 0 (fd 3) (wI (A 0 (fd 3) + 1)))).2) 8 c))))) := by
  unfold fM_falls kitM
  simp only [qlet, qlp]
theorem kitM_is {c : Int} (c0 : 0 ≤ c) (c1 : c < 48) (A : qA) {y : Int × qA} (hy : y = fM_told 111 7 (qu (fM_feels c A) 35 12 (6 - c % 6))) : ∃ K f, kitM c A = (6, fM_empties c (fM_writes c 6 y.1 f K)) ∧ frm [19, 18] [] y.2 K ∧ ∀ x, K 18 x = if x = c / 6 ∧ y.2 16 (c / 6) < wI (y.2 8 c * (6 - c % 6)) then wI (y.2 18 (c / 6) + 1) else y.2 18 x := by
  unfold kitM
  simp only [qlet, qlp]
  rw [qd_nn c0, qm_nn c0, show wI (6 - c % 6) = 6 - c % 6 from wI_id ⟨by omega, by omega⟩, ← hy]
  have e : ∀ p w, (qu y.2 19 p w) 16 (c / 6) = y.2 16 (c / 6) := fun p w => by simp [qu_is]
  rw [e]
  by_cases hq : y.2 16 (c / 6) < wI (y.2 8 c * (6 - c % 6))
  · rw [if_pos hq]
    refine ⟨_, _, rfl, frm_q (frm_q (frm_0 _ _ _) rfl) rfl, fun x => ?_⟩
    by_cases hx : x = c / 6
    · rw [if_pos ⟨hx, hq⟩, hx, qu_at]
      simp [qu_is]
    · rw [if_neg (fun z => hx z.1), qu_nj hx]
      simp [qu_is]
  · rw [if_neg hq]
    refine ⟨_, _, rfl, frm_q (frm_0 _ _ _) rfl, fun x => ?_⟩
    rw [if_neg (fun z => hq z.2)]
    simp [qu_is]
theorem writes_is (c l w f : Int) {A : qA} (h0 : 0 ≤ A 0 (fd 2)) (h1 : A 0 (fd 2) ≤ 60) : frm [38, 39, 40, 41, 42, 43, 44, 45, 46] [(0, 2)] A (fM_writes c l w f A) ∧ (fM_writes c l w f A) 0 (fd 2) = (if A 0 (fd 2) < 60 then A 0 (fd 2) + 1 else A 0 (fd 2)) ∧ (A 0 (fd 2) < 60 → ((fM_writes c l w f A) 38 (A 0 (fd 2)) = c ∧ (fM_writes c l w f A) 39 (A 0 (fd 2)) = A 7 c ∧ (fM_writes c l w f A) 40 (A 0 (fd 2)) = A 8 c ∧ (fM_writes c l w f A) 41 (A 0 (fd 2)) = l ∧ (fM_writes c l w f A) 43 (A 0 (fd 2)) = A 0 (fd 0)) ∧ (fM_writes c l w f A) 45 (A 0 (fd 2)) = fM_isRipe c A ∧ (fM_writes c l w f A) 46 (A 0 (fd 2)) = A 2 c) ∧ ∀ i, i ≠ A 0 (fd 2) → at_ [38, 39, 40, 41, 43, 45, 46] i A (fM_writes c l w f A) := by
  unfold fM_writes
  simp only [qlet]
  by_cases h60 : A 0 (fd 2) = 60
  · rw [if_pos h60, if_neg (show ¬ A 0 (fd 2) < 60 by omega)]
    exact ⟨frm_0 _ _ _, rfl, fun z => absurd h60 (by omega), fun i _ => at_0 _ _ _⟩
  · rw [if_neg h60, if_pos (show A 0 (fd 2) < 60 by omega)]
    have er : ∀ n v1 v2 v3 v4 v5 v6 v7, fM_isRipe c (qu (qu (qu (qu (qu (qu (qu A 38 n v1) 39 n v2) 40 n v3) 41 n v4) 42 n v5) 43 n v6) 44 n v7) = fM_isRipe c A := fun n v1 v2 v3 v4 v5 v6 v7 => ripeM_k c (by funext j; simp [qu_is]) (by funext j; simp [qu_is]) (by funext j; simp [qu_is])
    rw [er]
    generalize A 0 (fd 2) = n
    refine ⟨frm_qf (frm_q (frm_q (frm_q (frm_q (frm_q (frm_q (frm_q (frm_q (frm_q (frm_0 _ _ _) rfl) rfl) rfl) rfl) rfl) rfl) rfl) rfl) rfl) rfl, qu_at _ _ _ _, fun _ => ⟨⟨?_, ?_, ?_, ?_, ?_⟩, ?_, ?_⟩, fun i hi => ?_⟩
    · simp [qu_is]
    · simp [qu_is]
    · simp [qu_is]
    · simp [qu_is]
    · simp [qu_is]
    · simp [qu_is]
    · simp [qu_is]
    · exact at_n (at_j (at_j (at_j (at_j (at_j (at_j (at_j (at_j (at_j (at_0 _ _ _) hi) hi) hi) hi) hi) hi) hi) hi) hi) rfl
/-! cells of a set -/
def RHG (A1 A2 : qA) : Prop := (∀ d, 0 ≤ d → d < 48 → (HG A1 d ↔ A2 1 d ≠ 0)) ∧ ∀ c, 0 ≤ c → c < 48 → c % 6 ≠ 0 → A2 1 c ≠ 0 → A2 1 (c - 1) ≠ 0
def RCS (S : Int → Prop) (A1 A2 : qA) : Prop := RHG A1 A2 ∧ ∀ d, 0 ≤ d → d < 48 → S d → RC1 A1 A2 d
theorem RCS_of {A1 A2 : qA} (h : RC A1 A2) (S : Int → Prop) : RCS S A1 A2 := ⟨⟨fun d a b => (h.1 d a b).1.1, h.2⟩, fun d a b _ => h.1 d a b⟩
theorem RC_of {S : Int → Prop} {A1 A2 : qA} (h : RCS S A1 A2) (hd : ∀ d, 0 ≤ d → d < 48 → S d ∨ A2 1 d = 0) : RC A1 A2 := by
  refine ⟨fun d a b => ?_, h.1.2⟩
  rcases hd d a b with q | q
  · exact h.2 d a b q
  · exact ⟨⟨h.1.1 d a b, fun z => absurd q z⟩, fun z => absurd q z⟩
theorem RHG_e {A1 A2 B1 B2 : qA} (h : RHG A1 A2) (e1 : B1 1 (fd 0) = A1 1 (fd 0)) (e2 : B2 1 = A2 1) : RHG B1 B2 := by
  unfold RHG
  rw [e2]
  exact ⟨fun d a b => by rw [HG_k e1 d]; exact h.1 d a b, h.2⟩
/-- the brow, when holes and drops are told anew -/
theorem RB_20 {A1 A2 B1 B2 : qA} {W1 W2 : List Nat} {V1 V2 : List (Nat × Nat)} (h : RB A1 A2) (f1 : frm W1 V1 A1 B1) (f2 : frm W2 V2 A2 B2) (c1 : okFr [11, 12, 13, 16, 17, 18, 19, 21, 22] [(15, 8), (0, 11)] W1 V1 = true) (c2 : okFr [11, 12, 13, 14, 15, 16, 17, 20, 21] [(0, 0), (0, 1)] W2 V2 = true) (hx : ∀ x, 0 ≤ x → x < 8 → B1 20 x = B2 18 x) : RB B1 B2 := by
  obtain ⟨a, b⟩ := okFr_a f1 c1
  obtain ⟨c, d⟩ := okFr_a f2 c2
  have b1 := b (15, 8) (by decide)
  have b2 := b (0, 11) (by decide)
  have d1 := d (0, 0) (by decide)
  have d2 := d (0, 1) (by decide)
  obtain ⟨h1, h2, h3, h4, h5⟩ := h
  refine ⟨fun k k0 k1 => ?_, fun x x0 x1 => ?_, by rw [b1, d1]; exact h3, by rw [b2, d2]; exact h4, by rw [d2]; exact h5⟩
  · rw [a 11 (by decide), a 12 (by decide), a 13 (by decide), c 11 (by decide), c 12 (by decide), c 13 (by decide)]
    exact h1 k k0 k1
  · rw [a 16 (by decide), a 17 (by decide), a 18 (by decide), a 19 (by decide), a 21 (by decide), a 22 (by decide), c 14 (by decide), c 15 (by decide), c 16 (by decide), c 17 (by decide), c 20 (by decide), c 21 (by decide), hx x x0 x1]
    obtain ⟨u1, ⟨u2, _⟩, u3, u4⟩ := h2 x x0 x1
    exact ⟨u1, ⟨u2, rfl⟩, u3, u4⟩
/-! what a fall begins with, in the class -/
def RP (S : Int → Prop) (K1 K2 : qA) (row c : Int) : Prop := (rowOf K1 K2 row c ∧ K1 24 (fd 9) = row ∧ K1 33 row = K2 0 (fd 0)) ∧ (RHG K1 K2 ∧ (∀ d, 0 ≤ d → d < 48 → S d → RN K1 K2 d ∧ (d ≠ c → RK K1 K2 d)) ∧ (K1 6 c = -1 ∧ K1 7 c = 0 ∧ K1 10 c = 0)) ∧ RB K1 K2 ∧ RF K1 K2 ∧ RL K1 K2
theorem RP_ev {S : Int → Prop} {K1 K2 L1 L2 : qA} {row c : Int} (h : RP S K1 K2 row c) (e : EV K1 K2 L1 L2) : RP S L1 L2 row c := by
  obtain ⟨⟨⟨r1, r2, r3, r4, r5⟩, r6, r7⟩, ⟨h1, h2, h3⟩, hb, hf, hL⟩ := h
  obtain ⟨f1, f2⟩ := e
  have e1 : L1 1 (fd 0) = K1 1 (fd 0) := frm_f f1 rfl
  have e2 : L2 1 = K2 1 := frm_a f2 rfl
  refine ⟨⟨⟨?_, ?_, ?_, ?_, ?_⟩, ?_, ?_⟩, ⟨RHG_e h1 e1 e2, fun d a b s => ⟨RN_e (h2 d a b s).1 e1 (by rw [e2]) (at_f f1 rfl) (at_f f2 rfl), fun q => RK_e ((h2 d a b s).2 q) (by rw [e2]) (at_f f1 rfl) (at_f f2 rfl)⟩, ?_⟩, RB_f hb f1 f2 rfl rfl, RF_f hf f1 f2 rfl rfl, RL_f hL f1 f2 rfl rfl⟩
  · rw [frm_a f1 (r := 25) rfl]; exact r1
  · rw [frm_a f1 (r := 26) rfl, frm_a f2 (r := 7) rfl]; exact r2
  · rw [frm_a f1 (r := 27) rfl, frm_a f2 (r := 8) rfl]; exact r3
  · rw [frm_a f1 (r := 28) rfl, ripeM_k c (frm_a f2 rfl) (frm_a f2 rfl) (frm_a f2 rfl)]; exact r4
  · rw [frm_a f1 (r := 29) rfl, frm_a f2 (r := 2) rfl]; exact r5
  · rw [frm_f f1 (r := 24) (j := 9) rfl]; exact r6
  · rw [frm_a f1 (r := 33) rfl, frm_f f2 (r := 0) (j := 0) rfl]; exact r7
  · rw [frm_a f1 (r := 6) rfl, frm_a f1 (r := 7) rfl, frm_a f1 (r := 10) rfl]; exact h3
/-- where it lies is written -/
theorem RP_30 {S : Int → Prop} {K1 K2 : qA} {row c v : Int} (h : RP S K1 K2 row c) : RP S (qu K1 30 row v) K2 row c := by
  obtain ⟨⟨⟨r1, r2, r3, r4, r5⟩, r6, r7⟩, ⟨h1, h2, h3⟩, hb, ⟨k1, k2, k3⟩, hL⟩ := h
  have f1 : frm [30] [] K1 (qu K1 30 row v) := frm_q (frm_0 _ _ _) rfl
  have e1 : (qu K1 30 row v) 1 (fd 0) = K1 1 (fd 0) := frm_f f1 rfl
  have f2 : frm [] [] K2 K2 := frm_0 _ _ _
  refine ⟨⟨⟨?_, ?_, ?_, ?_, ?_⟩, ?_, ?_⟩, ⟨RHG_e h1 e1 rfl, fun d a b s => ⟨RN_e (h2 d a b s).1 e1 rfl (at_f f1 rfl) (at_0 _ _ _), fun q => RK_e ((h2 d a b s).2 q) rfl (at_f f1 rfl) (at_0 _ _ _)⟩, ?_⟩, RB_f hb f1 f2 rfl rfl, ⟨?_, k2, fun i i0 i1 => ?_⟩, RL_f hL f1 f2 rfl rfl⟩
  · rw [frm_a f1 (r := 25) rfl]; exact r1
  · rw [frm_a f1 (r := 26) rfl]; exact r2
  · rw [frm_a f1 (r := 27) rfl]; exact r3
  · rw [frm_a f1 (r := 28) rfl]; exact r4
  · rw [frm_a f1 (r := 29) rfl]; exact r5
  · rw [frm_f f1 (r := 24) (j := 9) rfl]; exact r6
  · rw [frm_a f1 (r := 33) rfl]; exact r7
  · rw [frm_a f1 (r := 6) rfl, frm_a f1 (r := 7) rfl, frm_a f1 (r := 10) rfl]; exact h3
  · rw [frm_f f1 (r := 24) (j := 9) rfl]; exact k1
  · rw [frm_a f1 (r := 25) rfl, frm_a f1 (r := 26) rfl, frm_a f1 (r := 27) rfl, frm_a f1 (r := 28) rfl, frm_a f1 (r := 29) rfl, frm_a f1 (r := 33) rfl, qu_nj (show i ≠ row by omega)]
    exact k3 i i0 i1
theorem open_RP {S : Int → Prop} {A1 A2 : qA} {c : Int} (h : RCS S A1 A2) (hb : RB A1 A2) (hf : RF A1 A2) (hL : RL A1 A2) (c0 : 0 ≤ c) (c1 : c < 48) (hS : S c) (hh : A2 1 c ≠ 0) : (fC_open c (A1 15 (fd 8)) A1).1 = A1 24 (fd 9) ∧ RP S (fC_clearCrop c (fC_open c (A1 15 (fd 8)) A1).2) (qu A2 0 (fd 3) (wI (A2 0 (fd 3) + 1))) (A1 24 (fd 9)) c ∧ frm [25, 26, 27, 28, 29, 33, 6, 7, 10] [] A1 (fC_clearCrop c (fC_open c (A1 15 (fd 8)) A1).2) := by
  obtain ⟨o1, f0, ⟨o2, o3, o4, o5, o6, o7⟩, o8⟩ := open_is c (A1 15 (fd 8)) A1
  generalize fC_open c (A1 15 (fd 8)) A1 = y at o1 f0 o2 o3 o4 o5 o6 o7 o8 ⊢
  have hc := h.2 c c0 c1 hS
  obtain ⟨⟨g6, g7, g10⟩, _⟩ := hc.2 hh
  obtain ⟨k1, k2, k3⟩ := hf
  generalize hn : A1 24 (fd 9) = n at o1 o2 o3 o4 o5 o6 o7 o8 k1 ⊢
  have hcl : fC_clearCrop c y.2 = qu (qu (qu y.2 6 c (-1)) 7 c 0) 10 c 0 := rfl
  have f9 : frm [6, 7, 10] [] y.2 (fC_clearCrop c y.2) := by
    rw [hcl]
    exact frm_q (frm_q (frm_q (frm_0 _ _ _) rfl) rfl) rfl
  have hcc : (fC_clearCrop c y.2) 6 c = -1 ∧ (fC_clearCrop c y.2) 7 c = 0 ∧ (fC_clearCrop c y.2) 10 c = 0 := by
    rw [hcl]
    refine ⟨?_, ?_, ?_⟩ <;> simp [qu_is]
  have hcd : ∀ d, d ≠ c → at_ aRK d y.2 (fC_clearCrop c y.2) := fun d hd => by
    rw [hcl]
    exact at_j (at_j (at_j (at_0 _ _ _) hd) hd) hd
  clear hcl
  generalize fC_clearCrop c y.2 = B1 at f9 hcc hcd ⊢
  have f1 : frm [25, 26, 27, 28, 29, 33, 6, 7, 10] [] A1 B1 := frm_c (frm_c (frm_0 _ _ _) f0 rfl) f9 rfl
  have f2 : frm [] [(0, 3)] A2 (qu A2 0 (fd 3) (wI (A2 0 (fd 3) + 1))) := frm_qf (frm_0 _ _ _) rfl
  generalize qu A2 0 (fd 3) (wI (A2 0 (fd 3) + 1)) = B2 at f2 ⊢
  have e1 : B1 1 (fd 0) = A1 1 (fd 0) := frm_f f1 rfl
  have e2 : B2 1 = A2 1 := frm_a f2 rfl
  refine ⟨o1, ⟨⟨⟨?_, ?_, ?_, ?_, ?_⟩, ?_, ?_⟩, ⟨RHG_e h.1 e1 e2, fun d a b s => ⟨RN_e (h.2 d a b s).1 e1 (by rw [e2]) (at_f f1 rfl) (at_f f2 rfl), fun q => RK_e (h.2 d a b s).2 (by rw [e2]) (at_c (at_f f0 rfl) (hcd d q)) (at_f f2 rfl)⟩, hcc⟩, RB_f hb f1 f2 rfl rfl, ⟨?_, ?_, fun i i0 i1 => ?_⟩, RL_f hL f1 f2 rfl rfl⟩, f1⟩
  · rw [frm_a f9 (r := 25) rfl]; exact o2
  · rw [frm_a f9 (r := 26) rfl, frm_a f2 (r := 7) rfl, o3]; exact g6
  · rw [frm_a f9 (r := 27) rfl, frm_a f2 (r := 8) rfl, o4]; exact g7
  · rw [frm_a f9 (r := 28) rfl, ripeM_k c (frm_a f2 rfl) (frm_a f2 rfl) (frm_a f2 rfl), o5]; exact ripe_is hc hb c0 c1 hh
  · rw [frm_a f9 (r := 29) rfl, frm_a f2 (r := 2) rfl, o6]; exact g10
  · rw [frm_f f1 (r := 24) (j := 9) rfl]; exact hn
  · rw [frm_a f9 (r := 33) rfl, frm_f f2 (r := 0) (j := 0) rfl, o7]; exact hb.2.2.1
  · rw [frm_f f1 (r := 24) (j := 9) rfl, frm_f f2 (r := 0) (j := 2) rfl, hn]; exact k1
  · rw [frm_f f2 (r := 0) (j := 2) rfl]; exact k2
  · rw [frm_f f2 (r := 0) (j := 2) rfl] at i1
    have hi := o8 i (by omega)
    rw [frm_a f9 (r := 25) rfl, frm_a f9 (r := 26) rfl, frm_a f9 (r := 27) rfl, frm_a f9 (r := 28) rfl, frm_a f9 (r := 29) rfl, frm_a f9 (r := 33) rfl, frm_a f1 (r := 30) rfl, frm_a f2 (r := 38) rfl, frm_a f2 (r := 39) rfl, frm_a f2 (r := 40) rfl, frm_a f2 (r := 41) rfl, frm_a f2 (r := 43) rfl, frm_a f2 (r := 45) rfl, frm_a f2 (r := 46) rfl, hi 25 (by decide), hi 26 (by decide), hi 27 (by decide), hi 28 (by decide), hi 29 (by decide), hi 33 (by decide)]
    exact k3 i i0 i1
