/-! WHAT THE LAW ANSWERS: class beside reference -/
theorem run71 {A1 A2 : qA} {f t : Int} {bo : Bool} (hs : Seg71 A1 A2 t f t 0 bo) (f0 : 0 ≤ f) (hft : f ≤ t) (ht : t ≤ 200) : (fC_reckon71 f t A1).1 = (fM_comesTo f t A2).1 ∧ Env71 A1 A2 (fC_reckon71 f t A1).2 (fM_comesTo f t A2).2 ∧ (bo = true → ((fC_reckon71 f t A1).1 = 0 ∨ (fC_reckon71 f t A1).1 = 1)) := by
  have e1 : fC_reckon71 f t A1 = fC_reckon71_L 100000 5 [t, f] (qu A1 71 (fd 9) 0) := rfl
  have e2 : fM_comesTo f t A2 = fM_comesTo_L 100000 10 [t, 0, 0, f] A2 := by
    unfold fM_comesTo
    simp only [qlet]
    rw [qd_nn f0, show f / 220 = 0 by omega, show wI (220 * 0) = 0 from wI_id ⟨by decide, by decide⟩]
  rw [e1, e2]
  refine hs (fun y1 y2 => y1.1 = y2.1 ∧ Env71 A1 A2 y1.2 y2.2 ∧ (bo = true → (y1.1 = 0 ∨ y1.1 = 1))) 100000 100000 _ _ (by omega) (by omega) ⟨⟨frm_sf (frm_0 _ _ _) rfl rfl, frm_0 _ _ _⟩, qu_at _ _ _ _, fun i i0 i1 => by omega⟩ (fun B1 B2 hE => ⟨rfl, hE, fun _ => Or.inl rfl⟩) (fun F1 F2 B1 B2 f1 f2 hS hb => ?_)
  obtain ⟨F1, rfl⟩ : ∃ F', F1 = F' + 1 := ⟨F1 - 1, by omega⟩
  obtain ⟨F2, rfl⟩ : ∃ F', F2 = F' + 1 := ⟨F2 - 1, by omega⟩
  rw [stC_end71 hS.2.1 (by decide), stM_end]
  exact ⟨hS.2.2 0 (by decide) (by decide), hS.1, hb⟩
/-- the clauses T, from number q on, lie in both worlds -/
def lawR71 (A1 A2 : qA) (q z : Int) (T : List pX) : Prop := tx (A1 74) (A1 75) (A1 76) (A1 77) (cat (A1 72) (A1 73)) q z T ∧ tx (A2 30) (A2 31) (A2 32) (A2 33) (fun z c => mcat (A2 29) z (c.map en)) q z T
theorem lawR71_e {A1 A2 B1 B2 : qA} {q z : Int} {T : List pX} (h : lawR71 A1 A2 q z T) (e : Env71 A1 A2 B1 B2) : lawR71 B1 B2 q z T := by
  unfold lawR71 at h ⊢
  rw [frm_a e.1 (r := 74) rfl, frm_a e.1 (r := 75) rfl, frm_a e.1 (r := 76) rfl, frm_a e.1 (r := 77) rfl, frm_a e.1 (r := 72) rfl, frm_a e.1 (r := 73) rfl, frm_a e.2 (r := 29) rfl, frm_a e.2 (r := 30) rfl, frm_a e.2 (r := 31) rfl, frm_a e.2 (r := 32) rfl, frm_a e.2 (r := 33) rfl]
  exact h
theorem Env71_tr {A1 A2 B1 B2 C1 C2 : qA} (h : Env71 A1 A2 B1 B2) (h2 : Env71 B1 B2 C1 C2) : Env71 A1 A2 C1 C2 := ⟨frm_c h.1 h2.1 rfl, frm_c h.2 h2.2 rfl⟩
theorem ans71 {n : Int} {lk : Int → Int} (hlk : lkok n lk) {w m : Int} (hm : 0 ≤ m) : ∀ (T : List pX) (q z : Int) (F1 F2 : Nat) (A1 A2 : qA), T.length < F1 → T.length < F2 → 0 ≤ z → txLen z T ≤ 200 → A1 71 (fd 7) = q + T.length → A2 0 (fd 35) = q + T.length → lawR71 A1 A2 q z T → goodT n lk z T → (∀ i, 0 ≤ i → i ≤ 13 → A1 35 i = A2 35 i) → (fC_answer71_L F1 2 [w, m, q] A1).1 = (fM_told_L F2 2 [w, m, q] A2).1 ∧ (0 ≤ (fC_answer71_L F1 2 [w, m, q] A1).1 ∧ (fC_answer71_L F1 2 [w, m, q] A1).1 ≤ m) ∧ Env71 A1 A2 (fC_answer71_L F1 2 [w, m, q] A1).2 (fM_told_L F2 2 [w, m, q] A2).2
  | T, q, z, 0, F2, A1, A2, h, _, _, _, _, _, _, _, _ => absurd h (Nat.not_lt_zero _)
  | T, q, z, F1 + 1, 0, A1, A2, _, h, _, _, _, _, _, _, _ => absurd h (Nat.not_lt_zero _)
  | [], q, z, F1 + 1, F2 + 1, A1, A2, _, _, z0, hz, c1, c2, hL, hG, hf => by
    rw [fC_answer71_L2, fM_told_L2]
    unfold fC_answer71_c2 fM_told_c2
    simp only [qlet, qlp]
    simp only [List.length_nil] at c1 c2
    rw [if_neg (show ¬ q < A1 71 (fd 7) by omega), if_neg (show ¬ q < A2 0 (fd 35) by omega)]
    exact ⟨rfl, ⟨Int.le_refl _, hm⟩, frm_0 _ _ _, frm_0 _ _ _⟩
  | x :: T, q, z, F1 + 1, F2 + 1, A1, A2, hF1, hF2, z0, hz, c1, c2, hL, hG, hf => by
    simp only [List.length_cons] at c1 c2 hF1 hF2
    obtain ⟨⟨⟨a1, a2, a3, a4, a5, a6⟩, a7⟩, ⟨⟨b1, b2, b3, b4, b5, b6⟩, b7⟩⟩ := id hL
    obtain ⟨⟨⟨p1, q1, g1, g1n, g2⟩, ⟨p2, q2, g3, g3n, g4⟩⟩, g5⟩ := hG
    have hle := txLen_le T (z + x.2.1.length + x.2.2.length)
    have hz : txLen (z + x.2.1.length + x.2.2.length) T ≤ 200 := hz
    have segs : ∀ (B1 B2 : qA), Env71 A1 A2 B1 B2 → Seg71 B1 B2 (z + x.2.1.length) z (z + x.2.1.length) 0 false ∧ Seg71 B1 B2 (z + x.2.1.length + x.2.2.length) (z + x.2.1.length) (z + x.2.1.length + x.2.2.length) 0 true := by
      intro B1 B2 hE
      obtain ⟨⟨⟨_, _, _, _, u5, u6⟩, _⟩, ⟨⟨_, _, _, _, v5, v6⟩, _⟩⟩ := lawR71_e hL hE
      have hf2 : ∀ i, 0 ≤ i → i ≤ 13 → B1 35 i = B2 35 i := fun i i0 i1 => by rw [frm_a hE.1 (r := 35) rfl, frm_a hE.2 (r := 35) rfl]; exact hf i i0 i1
      exact ⟨seg_sumE71 hlk (by omega) hf2 6 p1 q1 x.2.1 z 0 g1 g1n g2 z0 (Int.le_refl _) ⟨u5, v5⟩ (by decide) (by decide), seg_condE71 hlk (by omega) hf2 5 (by decide) p2 q2 x.2.2 (z + x.2.1.length) g3 g3n g4 (by omega) (Int.le_refl _) ⟨u6, v6⟩⟩
    rw [fC_answer71_L2, fM_told_L2]
    unfold fC_answer71_c2 fM_told_c2
    simp only [qlet, qlp]
    rw [if_pos (show q < A1 71 (fd 7) by omega), if_pos (show q < A2 0 (fd 35) by omega), a1, b1]
    by_cases hw : x.1 = w
    · rw [if_pos hw, if_pos hw, a3, a4, b3, b4]
      have r1 := run71 (segs A1 A2 ⟨frm_0 _ _ _, frm_0 _ _ _⟩).2 (by omega) (by omega) (by omega)
      generalize fC_reckon71 (z + x.2.1.length) (z + x.2.1.length + x.2.2.length) A1 = y1 at r1 ⊢
      generalize fM_comesTo (z + x.2.1.length) (z + x.2.1.length + x.2.2.length) A2 = y2 at r1 ⊢
      obtain ⟨e1, e2, e3⟩ := r1
      have e3 := e3 rfl
      have hL2 := lawR71_e hL e2
      by_cases h0 : y1.1 = 0
      · rw [if_pos h0, if_neg (show ¬ y2.1 = 1 by omega)]
        have ih := ans71 (w := w) hlk hm T (q + 1) (z + x.2.1.length + x.2.2.length) F1 F2 y1.2 y2.2 (by omega) (by omega) (by omega) hz (by rw [frm_f e2.1 (r := 71) (j := 7) rfl]; omega) (by rw [frm_f e2.2 (r := 0) (j := 35) rfl]; omega) ⟨hL2.1.2, hL2.2.2⟩ g5 (fun i i0 i1 => by rw [frm_a e2.1 (r := 35) rfl, frm_a e2.2 (r := 35) rfl]; exact hf i i0 i1)
        exact ⟨ih.1, ih.2.1, Env71_tr e2 ih.2.2⟩
      · rw [if_neg h0, if_pos (show y2.1 = 1 by omega)]
        obtain ⟨⟨⟨_, u2, u3, _, _, _⟩, _⟩, ⟨⟨_, v2, v3, _, _, _⟩, _⟩⟩ := hL2
        rw [u2, v2]
        have r2 := run71 (segs y1.2 y2.2 e2).1 z0 (by omega) (by omega)
        generalize fC_reckon71 z (z + x.2.1.length) y1.2 = k1 at r2 ⊢
        generalize fM_comesTo z (z + x.2.1.length) y2.2 = k2 at r2 ⊢
        obtain ⟨d1, d2, _⟩ := r2
        have hE := Env71_tr e2 d2
        rw [d1]
        by_cases n1 : k2.1 < 0
        · rw [if_pos n1]
          exact ⟨by show max 0 (min m k2.1) = 0; omega, ⟨by show 0 ≤ max 0 (min m k2.1); omega, by show max 0 (min m k2.1) ≤ m; omega⟩, hE⟩
        · rw [if_neg n1]
          by_cases n2 : m < k2.1
          · rw [if_pos n2]
            exact ⟨by show max 0 (min m k2.1) = m; omega, ⟨by show 0 ≤ max 0 (min m k2.1); omega, by show max 0 (min m k2.1) ≤ m; omega⟩, hE⟩
          · rw [if_neg n2]
            exact ⟨by show max 0 (min m k2.1) = k2.1; omega, ⟨by show 0 ≤ max 0 (min m k2.1); omega, by show max 0 (min m k2.1) ≤ m; omega⟩, hE⟩
    · rw [if_neg hw, if_neg hw]
      exact ans71 hlk hm T (q + 1) (z + x.2.1.length + x.2.2.length) F1 F2 A1 A2 (by omega) (by omega) (by omega) hz (by omega) (by omega) ⟨a7, b7⟩ g5 hf
