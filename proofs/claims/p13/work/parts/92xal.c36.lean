/-- who catches it -/
theorem catch36_L {A1 A2 : qA} {row c : Int} (hr : rowOf A1 A2 row c) (hRC : ∀ k, c < k → k < c - c % 6 + 6 → RN A1 A2 k) (hb : RB A1 A2) (hL : RL36 A1 A2) (c0 : 0 ≤ c) (c1 : c < 48) : ∀ (m F1 F2 : Nat) (k : Int) (B1 B2 : qA), m < F1 → m < F2 → c - c % 6 + 6 - k ≤ m → c < k → frm [35, 43, 78] [(36, 9), (71, 9)] A1 B1 → frm [34, 35] [] A2 B2 → (fC_catching36_L F1 13 [row, c, c - c % 6 + 6, k] B1).1 = cIf (fM_catcher_L F2 4 [c, k] B2).1 ∧ ((fM_catcher_L F2 4 [c, k] B2).1 = -1 ∨ (c < (fM_catcher_L F2 4 [c, k] B2).1 ∧ (fM_catcher_L F2 4 [c, k] B2).1 < c - c % 6 + 6 ∧ A2 1 (fM_catcher_L F2 4 [c, k] B2).1 ≠ 0)) ∧ frm [35, 43, 78] [(36, 9), (71, 9)] A1 (fC_catching36_L F1 13 [row, c, c - c % 6 + 6, k] B1).2 ∧ frm [34, 35] [] A2 (fM_catcher_L F2 4 [c, k] B2).2
  | _, 0, _, _, _, _, h, _, _, _, _, _ => absurd h (Nat.not_lt_zero _)
  | _, _, 0, _, _, _, _, h, _, _, _, _ => absurd h (Nat.not_lt_zero _)
  | m, F1 + 1, F2 + 1, k, B1, B2, hF1, hF2, hm, hk, f1, f2 => by
    rw [fC_catching36_L13, fM_catcher_L4]
    unfold fC_catching36_c13 fM_catcher_c4
    simp only [qlet, qlp]
    rw [qd_nn c0, show 6 * (c / 6 + 1) = c - c % 6 + 6 by omega]
    by_cases hk2 : k < c - c % 6 + 6
    · have hrc := hRC k hk hk2
      have e1f : B1 1 (fd 0) = A1 1 (fd 0) := by rw [frm_a f1 (r := 1) rfl]
      have hB21 : B2 1 = A2 1 := frm_a f2 rfl
      have hg : (0 ≤ k ∧ k ≤ 47 ∧ HG B1 k) ↔ A2 1 k ≠ 0 := ⟨fun q => hrc.1.mp ((HG_k e1f k).mp q.2.2), fun q => ⟨by omega, by omega, (HG_k e1f k).mpr (hrc.1.mpr q)⟩⟩
      rw [if_pos hk2, if_pos hk2, hB21]
      have nx : ∀ (C1 C2 : qA), frm [35, 43, 78] [(36, 9), (71, 9)] A1 C1 → frm [34, 35] [] A2 C2 → (fC_catching36_L F1 13 [row, c, c - c % 6 + 6, k + 1] C1).1 = cIf (fM_catcher_L F2 4 [c, k + 1] C2).1 ∧ ((fM_catcher_L F2 4 [c, k + 1] C2).1 = -1 ∨ (c < (fM_catcher_L F2 4 [c, k + 1] C2).1 ∧ (fM_catcher_L F2 4 [c, k + 1] C2).1 < c - c % 6 + 6 ∧ A2 1 (fM_catcher_L F2 4 [c, k + 1] C2).1 ≠ 0)) ∧ frm [35, 43, 78] [(36, 9), (71, 9)] A1 (fC_catching36_L F1 13 [row, c, c - c % 6 + 6, k + 1] C1).2 ∧ frm [34, 35] [] A2 (fM_catcher_L F2 4 [c, k + 1] C2).2 := fun C1 C2 g1 g2 => by
        cases m with
        | zero => exfalso; omega
        | succ m => exact catch36_L hr hRC hb hL c0 c1 m F1 F2 (k + 1) C1 C2 (by omega) (by omega) (by omega) (by omega) g1 g2
      by_cases hh : A2 1 k = 0
      · rw [if_neg (fun q => hg.mp q hh), if_pos hh]
        exact nx B1 B2 f1 f2
      · rw [if_pos (hg.mpr hh), if_neg hh]
        have f2c := fr_feelsCell k (k - c) 0 B2
        rw [frm_a f2c (r := 7) rfl, frm_a f2c (r := 8) rfl, frm_a f2c (r := 2) rfl, ripeM_k c (frm_a f2c rfl) (frm_a f2c rfl) (frm_a f2c rfl)]
        have hr2 : rowOf B1 B2 row c := by
          unfold rowOf
          rw [frm_a f1 (r := 25) rfl, frm_a f1 (r := 26) rfl, frm_a f1 (r := 27) rfl, frm_a f1 (r := 28) rfl, frm_a f1 (r := 29) rfl, frm_a f2 (r := 7) rfl, frm_a f2 (r := 8) rfl, frm_a f2 (r := 2) rfl, ripeM_k c (frm_a f2 rfl) (frm_a f2 rfl) (frm_a f2 rfl)]
          exact hr
        have hrc2 : RN B1 B2 k := RN_e hrc e1f (by rw [hB21]) (at_f f1 rfl) (at_f f2 rfl)
        have hb2 : RB B1 B2 := RB_f hb f1 f2 rfl rfl
        have hs := seen_is (v := k - c) hr2 hrc2 hb2 (by omega) (by omega) (by rw [hB21]; exact hh)
        have g1 : frm [35, 43, 78] [(36, 9), (71, 9)] A1 (qu (fC_seeFallen row (fC_seeCell k B1)) 35 12 (k - c)) := frm_q (frm_c (frm_c f1 (fr_seeCell k B1) rfl) (fr_seeFallen row _) rfl) rfl
        have g2 : frm [34, 35] [] A2 (fM_feelsCrop (B2 7 c) (B2 8 c) (fM_isRipe c B2) (B2 2 c) (fM_feelsCell k (k - c) 0 B2)) := frm_c (frm_c f2 f2c rfl) (fr_feelsCrop _ _ _ _ _) rfl
        have ht := told36 (w := 99) (m := 1) (RL36_f hL g1 g2 rfl rfl) hs (by decide)
        generalize fC_answer36 99 1 (qu (fC_seeFallen row (fC_seeCell k B1)) 35 12 (k - c)) = y1 at ht ⊢
        generalize fM_told 99 1 (fM_feelsCrop (B2 7 c) (B2 8 c) (fM_isRipe c B2) (B2 2 c) (fM_feelsCell k (k - c) 0 B2)) = y2 at ht ⊢
        obtain ⟨t1, _, t3⟩ := ht
        have g3 := frm_c g1 t3.1 rfl
        have g4 := frm_c g2 t3.2 rfl
        rw [t1]
        by_cases hp : 0 < y2.1
        · rw [if_pos hp, if_pos hp]
          refine ⟨?_, Or.inr ⟨hk, hk2, hh⟩, g3, g4⟩
          show qm k 6 = if k = -1 then 6 else k % 6
          rw [if_neg (show ¬ k = -1 by omega)]
          exact qm_nn (by omega)
        · rw [if_neg hp, if_neg hp]
          exact nx y1.2 y2.2 g3 g4
    · rw [if_neg hk2, if_neg hk2]
      exact ⟨rfl, Or.inl rfl, f1, f2⟩
theorem catch36 {A1 A2 : qA} {row c : Int} (hr : rowOf A1 A2 row c) (hRC : ∀ k, c < k → k < c - c % 6 + 6 → RN A1 A2 k) (hb : RB A1 A2) (hL : RL36 A1 A2) (c0 : 0 ≤ c) (c1 : c < 48) : (fC_catching36 row A1).1 = (if (fM_catcher c A2).1 = -1 then 6 else (fM_catcher c A2).1 % 6) ∧ ((fM_catcher c A2).1 = -1 ∨ (c < (fM_catcher c A2).1 ∧ (fM_catcher c A2).1 < c - c % 6 + 6 ∧ A2 1 (fM_catcher c A2).1 ≠ 0)) ∧ frm [35, 43, 78] [(36, 9), (71, 9)] A1 (fC_catching36 row A1).2 ∧ frm [34, 35] [] A2 (fM_catcher c A2).2 := by
  have e1 : fC_catching36 row A1 = fC_catching36_L 100000 13 [row, c, c - c % 6 + 6, c + 1] A1 := by
    unfold fC_catching36
    simp only [qlet]
    rw [hr.1]
  have e2 : fM_catcher c A2 = fM_catcher_L 100000 4 [c, c + 1] A2 := rfl
  rw [e1, e2]
  exact catch36_L hr hRC hb hL c0 c1 10 100000 100000 (c + 1) A1 A2 (by decide) (by decide) (by omega) (by omega) (frm_0 _ _ _) (frm_0 _ _ _)
/-- whose it is -/
theorem owner36 {A1 A2 : qA} {row c : Int} (hr : rowOf A1 A2 row c) (h : RN A1 A2 c) (hb : RB A1 A2) (hL : RL36 A1 A2) (c0 : 0 ≤ c) (c1 : c < 48) (hh : A2 1 c ≠ 0) (hk : A2 7 c ≠ -1) (h30 : A1 30 row = 6) : (fC_ownerOf36 row A1).1 = (fM_told 111 7 (qu (fM_feels c A2) 35 12 (6 - c % 6))).1 ∧ (0 ≤ (fC_ownerOf36 row A1).1 ∧ (fC_ownerOf36 row A1).1 ≤ 7) ∧ frm [35, 43, 78] [(36, 9), (71, 9)] A1 (fC_ownerOf36 row A1).2 ∧ frm [34, 35] [] A2 (fM_told 111 7 (qu (fM_feels c A2) 35 12 (6 - c % 6))).2 := by
  have hs := seenK_is hr h hb c0 c1 hh hk h30
  have g1 : frm [35, 43, 78] [(36, 9), (71, 9)] A1 (fC_seeFall row A1) := by
    unfold fC_seeFall
    simp only [qlet]
    exact frm_q (frm_c (frm_c (frm_0 _ _ _) (fr_seeCell _ A1) rfl) (fr_seeFallen row _) rfl) rfl
  have g2 : frm [34, 35] [] A2 (qu (fM_feels c A2) 35 12 (6 - c % 6)) := frm_q (frm_c (frm_0 _ _ _) (fr_feels c A2) rfl) rfl
  have ht := told36 (w := 111) (m := 7) (RL36_f hL g1 g2 rfl rfl) hs (by decide)
  unfold fC_ownerOf36
  simp only [qlet, qlp]
  exact ⟨ht.1, ht.2.1, frm_c g1 ht.2.2.1 rfl, frm_c g2 ht.2.2.2 rfl⟩
