theorem frM_wrongAt (w : Int) (p : Int) (A : qA) : frm [] [(0, 29)] A (fM_wrongAt w p A) := by
  unfold fM_wrongAt
  simp only [qlet, qlp]
  repeat' split
  all_goals (repeat' (first | with_reducible exact frm_0 _ _ _ | with_reducible refine frm_qf ?_ ?_ | with_reducible refine frm_q ?_ ?_ | exact rfl))
theorem frM_takes (c : Int) (A : qA) : frm [] [(0, 27), (0, 29)] A (fM_takes c A).2 := by
  unfold fM_takes
  simp only [qlet, qlp]
  repeat' split
  all_goals (repeat' (first | with_reducible exact frm_0 _ _ _ | with_reducible refine frm_qf ?_ ?_ | with_reducible refine frm_q ?_ ?_ | with_reducible refine frm_c ?_ (frM_wrongAt _ _ _) ?_ | exact rfl))
theorem frM_notes (o : Int) (v : Int) (A : qA) : frm [23] [(0, 31)] A (fM_notes o v A) := by
  unfold fM_notes
  simp only [qlet, qlp]
  repeat' split
  all_goals (repeat' (first | with_reducible exact frm_0 _ _ _ | with_reducible refine frm_qf ?_ ?_ | with_reducible refine frm_q ?_ ?_ | exact rfl))
theorem frM_opens (w : Int) (A : qA) : frm [24] [(0, 27), (0, 29), (0, 30), (0, 32)] A (fM_opens w A).2 := by
  unfold fM_opens
  simp only [qlet, qlp]
  repeat' split
  all_goals (repeat' (first | with_reducible exact frm_0 _ _ _ | with_reducible refine frm_qf ?_ ?_ | with_reducible refine frm_q ?_ ?_ | with_reducible refine frm_c ?_ (frM_wrongAt _ _ _) ?_ | exact rfl))
theorem frM_readsNumber_L : ∀ F : Nat, (∀ (f : Int) (B : qA), frm [] [(0, 27), (0, 29), (0, 34)] B (fM_readsNumber_L F 6 [f] B).2)
  | 0 => fun _ _ => frm_0 _ _ _
  | F + 1 => by
    have i6 := frM_readsNumber_L F
    · intro f B
      rw [fM_readsNumber_L6]
      unfold fM_readsNumber_c6
      simp only [qlet, qlp]
      repeat' split
      all_goals (repeat' (first | with_reducible exact frm_0 _ _ _ | with_reducible refine frm_qf ?_ ?_ | with_reducible refine frm_q ?_ ?_ | with_reducible refine frm_c ?_ (i6 _ _) ?_ | with_reducible refine frm_c ?_ (frM_wrongAt _ _ _) ?_ | exact rfl))
theorem frM_readsNumber (A : qA) : frm [] [(0, 27), (0, 29), (0, 34)] A (fM_readsNumber A).2 := by
  unfold fM_readsNumber
  simp only [qlet, qlp]
  repeat' split
  all_goals (repeat' (first | with_reducible exact frm_0 _ _ _ | with_reducible refine frm_qf ?_ ?_ | with_reducible refine frm_q ?_ ?_ | with_reducible refine frm_c ?_ ((frM_readsNumber_L _) _ _) ?_ | with_reducible refine frm_c ?_ (frM_wrongAt _ _ _) ?_ | exact rfl))
theorem frM_closesSums_L : ∀ F : Nat, (∀ (l1 : Int) (B : qA), frm [23] [(0, 31), (0, 32)] B (fM_closesSums_L F 0 [l1] B))
  | 0 => fun _ _ => frm_0 _ _ _
  | F + 1 => by
    have i0 := frM_closesSums_L F
    · intro l1 B
      rw [fM_closesSums_L0]
      unfold fM_closesSums_c0
      simp only [qlet, qlp]
      repeat' split
      all_goals (repeat' (first | with_reducible exact frm_0 _ _ _ | with_reducible refine frm_qf ?_ ?_ | with_reducible refine frm_q ?_ ?_ | with_reducible refine frm_c ?_ (i0 _ _) ?_ | with_reducible refine frm_c ?_ (frM_notes _ _ _) ?_ | exact rfl))
theorem frM_closesSums (a : Int) (A : qA) : frm [23] [(0, 31), (0, 32)] A (fM_closesSums a A) := by
  unfold fM_closesSums
  simp only [qlet, qlp]
  repeat' split
  all_goals (repeat' (first | with_reducible exact frm_0 _ _ _ | with_reducible refine frm_qf ?_ ?_ | with_reducible refine frm_q ?_ ?_ | with_reducible refine frm_c ?_ ((frM_closesSums_L _) _ _) ?_ | with_reducible refine frm_c ?_ (frM_notes _ _ _) ?_ | exact rfl))
theorem frM_readsFactor_L : ∀ F : Nat, (∀ (B : qA), frm [23, 24] [(0, 27), (0, 29), (0, 30), (0, 31), (0, 32), (0, 34)] B (fM_readsFactor_L F 0 [] B).2)
  | 0 => fun _ => frm_0 _ _ _
  | F + 1 => by
    have i0 := frM_readsFactor_L F
    · intro B
      rw [fM_readsFactor_L0]
      unfold fM_readsFactor_c0
      simp only [qlet, qlp]
      repeat' split
      all_goals (repeat' (first | with_reducible exact frm_0 _ _ _ | with_reducible refine frm_qf ?_ ?_ | with_reducible refine frm_q ?_ ?_ | with_reducible refine frm_c ?_ (i0 _) ?_ | with_reducible refine frm_c ?_ (frM_wrongAt _ _ _) ?_ | with_reducible refine frm_c ?_ (frM_notes _ _ _) ?_ | with_reducible refine frm_c ?_ (frM_opens _ _) ?_ | with_reducible refine frm_c ?_ (frM_readsNumber _) ?_ | exact rfl))
theorem frM_readsFactor (A : qA) : frm [23, 24] [(0, 27), (0, 29), (0, 30), (0, 31), (0, 32), (0, 34)] A (fM_readsFactor A).2 := by
  unfold fM_readsFactor
  simp only [qlet, qlp]
  repeat' split
  all_goals (repeat' (first | with_reducible exact frm_0 _ _ _ | with_reducible refine frm_qf ?_ ?_ | with_reducible refine frm_q ?_ ?_ | with_reducible refine frm_c ?_ ((frM_readsFactor_L _) _) ?_ | with_reducible refine frm_c ?_ (frM_wrongAt _ _ _) ?_ | with_reducible refine frm_c ?_ (frM_notes _ _ _) ?_ | with_reducible refine frm_c ?_ (frM_opens _ _) ?_ | with_reducible refine frm_c ?_ (frM_readsNumber _) ?_ | exact rfl))
theorem frM_readsSum_L : ∀ F : Nat, (∀ (b : Int) (B : qA), frm [23, 24] [(0, 27), (0, 29), (0, 30), (0, 31), (0, 32), (0, 34)] B (fM_readsSum_L F 8 [b] B).2)
  | 0 => fun _ _ => frm_0 _ _ _
  | F + 1 => by
    have i8 := frM_readsSum_L F
    · intro b B
      rw [fM_readsSum_L8]
      unfold fM_readsSum_c8
      simp only [qlet, qlp]
      repeat' split
      all_goals (repeat' (first | with_reducible exact frm_0 _ _ _ | with_reducible refine frm_qf ?_ ?_ | with_reducible refine frm_q ?_ ?_ | with_reducible refine frm_c ?_ (i8 _ _) ?_ | with_reducible refine frm_c ?_ (frM_wrongAt _ _ _) ?_ | with_reducible refine frm_c ?_ (frM_closesSums _ _) ?_ | with_reducible refine frm_c ?_ (frM_readsFactor _) ?_ | exact rfl))
theorem frM_readsSum (A : qA) : frm [23, 24] [(0, 27), (0, 29), (0, 30), (0, 31), (0, 32), (0, 34)] A (fM_readsSum A).2 := by
  unfold fM_readsSum
  simp only [qlet, qlp]
  repeat' split
  all_goals (repeat' (first | with_reducible exact frm_0 _ _ _ | with_reducible refine frm_qf ?_ ?_ | with_reducible refine frm_q ?_ ?_ | with_reducible refine frm_c ?_ ((frM_readsSum_L _) _ _) ?_ | with_reducible refine frm_c ?_ (frM_wrongAt _ _ _) ?_ | with_reducible refine frm_c ?_ (frM_closesSums _ _) ?_ | with_reducible refine frm_c ?_ (frM_readsFactor _) ?_ | exact rfl))
theorem frM_endsPiece_L : ∀ F : Nat, (∀ (B : qA), frm [23] [(0, 30), (0, 31), (0, 32)] B (fM_endsPiece_L F 0 [] B))
  | 0 => fun _ => frm_0 _ _ _
  | F + 1 => by
    have i0 := frM_endsPiece_L F
    · intro B
      rw [fM_endsPiece_L0]
      unfold fM_endsPiece_c0
      simp only [qlet, qlp]
      repeat' split
      all_goals (repeat' (first | with_reducible exact frm_0 _ _ _ | with_reducible refine frm_qf ?_ ?_ | with_reducible refine frm_q ?_ ?_ | with_reducible refine frm_c ?_ (i0 _) ?_ | with_reducible refine frm_c ?_ (frM_notes _ _ _) ?_ | exact rfl))
theorem frM_endsPiece (A : qA) : frm [23] [(0, 30), (0, 31), (0, 32)] A (fM_endsPiece A) := by
  unfold fM_endsPiece
  simp only [qlet, qlp]
  repeat' split
  all_goals (repeat' (first | with_reducible exact frm_0 _ _ _ | with_reducible refine frm_qf ?_ ?_ | with_reducible refine frm_q ?_ ?_ | with_reducible refine frm_c ?_ ((frM_endsPiece_L _) _) ?_ | with_reducible refine frm_c ?_ (frM_notes _ _ _) ?_ | exact rfl))
theorem frM_lands_L : ∀ F : Nat, (∀ (l1 : Int) (B : qA), frm [23] [(0, 32)] B (fM_lands_L F 0 [l1] B))
  | 0 => fun _ _ => frm_0 _ _ _
  | F + 1 => by
    have i0 := frM_lands_L F
    · intro l1 B
      rw [fM_lands_L0]
      unfold fM_lands_c0
      simp only [qlet, qlp]
      repeat' split
      all_goals (repeat' (first | with_reducible exact frm_0 _ _ _ | with_reducible refine frm_qf ?_ ?_ | with_reducible refine frm_q ?_ ?_ | with_reducible refine frm_c ?_ (i0 _ _) ?_ | exact rfl))
theorem frM_lands (a : Int) (A : qA) : frm [23] [(0, 32)] A (fM_lands a A) := by
  unfold fM_lands
  simp only [qlet, qlp]
  repeat' split
  all_goals (repeat' (first | with_reducible exact frm_0 _ _ _ | with_reducible refine frm_qf ?_ ?_ | with_reducible refine frm_q ?_ ?_ | with_reducible refine frm_c ?_ ((frM_lands_L _) _ _) ?_ | exact rfl))
theorem frM_jumps (o : Int) (A : qA) : frm [23, 24] [(0, 27), (0, 31), (0, 32)] A (fM_jumps o A) := by
  unfold fM_jumps
  simp only [qlet, qlp]
  repeat' split
  all_goals (repeat' (first | with_reducible exact frm_0 _ _ _ | with_reducible refine frm_qf ?_ ?_ | with_reducible refine frm_q ?_ ?_ | with_reducible refine frm_c ?_ (frM_notes _ _ _) ?_ | exact rfl))
theorem frM_readsCompared (A : qA) : frm [23, 24] [(0, 27), (0, 29), (0, 30), (0, 31), (0, 32), (0, 34)] A (fM_readsCompared A).2 := by
  unfold fM_readsCompared
  simp only [qlet, qlp]
  repeat' split
  all_goals (repeat' (first | with_reducible exact frm_0 _ _ _ | with_reducible refine frm_qf ?_ ?_ | with_reducible refine frm_q ?_ ?_ | with_reducible refine frm_c ?_ (frM_wrongAt _ _ _) ?_ | with_reducible refine frm_c ?_ (frM_notes _ _ _) ?_ | with_reducible refine frm_c ?_ (frM_readsSum _) ?_ | with_reducible refine frm_c ?_ (frM_endsPiece _) ?_ | exact rfl))
theorem frM_readsCondition_L : ∀ F : Nat, (∀ (B : qA), frm [23, 24] [(0, 27), (0, 29), (0, 30), (0, 31), (0, 32), (0, 34)] B (fM_readsCondition_L F 22 [] B).2) ∧ (∀ (B : qA), frm [23, 24] [(0, 27), (0, 29), (0, 30), (0, 31), (0, 32), (0, 34)] B (fM_readsCondition_L F 47 [] B).2)
  | 0 => ⟨fun _ => frm_0 _ _ _, fun _ => frm_0 _ _ _⟩
  | F + 1 => by
    obtain ⟨i22, i47⟩ := frM_readsCondition_L F
    refine ⟨?_, ?_⟩
    · intro B
      rw [fM_readsCondition_L22]
      unfold fM_readsCondition_c22
      simp only [qlet, qlp]
      repeat' split
      all_goals (repeat' (first | with_reducible exact frm_0 _ _ _ | with_reducible refine frm_qf ?_ ?_ | with_reducible refine frm_q ?_ ?_ | with_reducible refine frm_c ?_ (i22 _) ?_ | with_reducible refine frm_c ?_ (i47 _) ?_ | with_reducible refine frm_c ?_ (frM_wrongAt _ _ _) ?_ | with_reducible refine frm_c ?_ (frM_opens _ _) ?_ | with_reducible refine frm_c ?_ (frM_endsPiece _) ?_ | with_reducible refine frm_c ?_ (frM_lands _ _) ?_ | with_reducible refine frm_c ?_ (frM_jumps _ _) ?_ | with_reducible refine frm_c ?_ (frM_readsCompared _) ?_ | exact rfl))
    · intro B
      rw [fM_readsCondition_L47]
      unfold fM_readsCondition_c47
      simp only [qlet, qlp]
      repeat' split
      all_goals (repeat' (first | with_reducible exact frm_0 _ _ _ | with_reducible refine frm_qf ?_ ?_ | with_reducible refine frm_q ?_ ?_ | with_reducible refine frm_c ?_ (i22 _) ?_ | with_reducible refine frm_c ?_ (i47 _) ?_ | with_reducible refine frm_c ?_ (frM_wrongAt _ _ _) ?_ | with_reducible refine frm_c ?_ (frM_opens _ _) ?_ | with_reducible refine frm_c ?_ (frM_endsPiece _) ?_ | with_reducible refine frm_c ?_ (frM_lands _ _) ?_ | with_reducible refine frm_c ?_ (frM_jumps _ _) ?_ | with_reducible refine frm_c ?_ (frM_readsCompared _) ?_ | exact rfl))
theorem frM_readsCondition (A : qA) : frm [23, 24] [(0, 27), (0, 29), (0, 30), (0, 31), (0, 32), (0, 34)] A (fM_readsCondition A).2 := by
  unfold fM_readsCondition
  simp only [qlet, qlp]
  repeat' split
  all_goals (repeat' (first | with_reducible exact frm_0 _ _ _ | with_reducible refine frm_qf ?_ ?_ | with_reducible refine frm_q ?_ ?_ | with_reducible refine frm_c ?_ ((frM_readsCondition_L _).1 _) ?_ | with_reducible refine frm_c ?_ ((frM_readsCondition_L _).2 _) ?_ | with_reducible refine frm_c ?_ (frM_wrongAt _ _ _) ?_ | with_reducible refine frm_c ?_ (frM_opens _ _) ?_ | with_reducible refine frm_c ?_ (frM_endsPiece _) ?_ | with_reducible refine frm_c ?_ (frM_lands _ _) ?_ | with_reducible refine frm_c ?_ (frM_jumps _ _) ?_ | with_reducible refine frm_c ?_ (frM_readsCompared _) ?_ | exact rfl))
theorem frM_readsClause (A : qA) : frm [23, 24, 25, 26, 27, 28] [(0, 27), (0, 29), (0, 30), (0, 31), (0, 32), (0, 34), (0, 33)] A (fM_readsClause A).2 := by
  unfold fM_readsClause
  simp only [qlet, qlp]
  repeat' split
  all_goals (repeat' (first | with_reducible exact frm_0 _ _ _ | with_reducible refine frm_qf ?_ ?_ | with_reducible refine frm_q ?_ ?_ | with_reducible refine frm_c ?_ (frM_wrongAt _ _ _) ?_ | with_reducible refine frm_c ?_ (frM_readsSum _) ?_ | with_reducible refine frm_c ?_ (frM_readsCondition _) ?_ | exact rfl))

/-! THE LAW ANEW: both gardens -/
theorem lawM75_0 : ∀ (F : Nat) (k : Int) (B : qA), 0 ≤ B 0 (fd 33) → 0 ≤ (fM_law_L F 75 [k] B).1
  | 0, _, _, _ => Int.le_refl _
  | F + 1, k, B, h => by
    rw [fM_law_L75]
    unfold fM_law_c75
    simp only [qlet]
    split
    · refine lawM75_0 F _ _ ?_
      rw [qu_ne (by decide), qu_ne (by decide), qu_ne (by decide), qu_ne (by decide)]
      exact h
    · exact h
theorem lawM59_0 : ∀ (F : Nat) (k : Int) (B : qA), 0 ≤ B 0 (fd 33) → 0 ≤ (fM_law_L F 59 [k] B).1
  | 0, _, _, _ => Int.le_refl _
  | F + 1, k, B, h => by
    rw [fM_law_L59]
    unfold fM_law_c59
    simp only [qlet]
    split
    · refine lawM59_0 F _ _ ?_
      rw [qu_ne (by decide)]
      exact h
    · exact lawM75_0 F _ _ h
def RDW : List Nat := [23, 24, 25, 26, 27, 28]
def RDV : List (Nat × Nat) := [(0, 27), (0, 29), (0, 30), (0, 31), (0, 32), (0, 34), (0, 33), (0, 26), (0, 28)]
theorem rc33 (A : qA) : (fM_readsClause A).2 0 (fd 33) = A 0 (fd 33) ∨ (fM_readsClause A).2 0 (fd 33) = A 0 (fd 33) + 1 := by
  unfold fM_readsClause
  simp only [qlet, qlp]
  split
  · exact Or.inl (by dsimp only; exact frm_f (frM_wrongAt _ _ _) rfl)
  · split
    · exact Or.inl (by dsimp only; exact frm_f (frM_wrongAt _ _ _) rfl)
    · split
      · refine Or.inl (frm_f (W := [23, 24, 25, 26, 27, 28]) (V := [(0, 27), (0, 29), (0, 30), (0, 31), (0, 32), (0, 34)]) (A := A) ?_ rfl)
        repeat' (first | with_reducible exact frm_0 _ _ _ | with_reducible refine frm_qf ?_ ?_ | with_reducible refine frm_q ?_ ?_ | with_reducible refine frm_c ?_ (frM_readsSum _) ?_ | exact rfl)
      · split
        · refine Or.inl (frm_f (W := [23, 24, 25, 26, 27, 28]) (V := [(0, 27), (0, 29), (0, 30), (0, 31), (0, 32), (0, 34)]) (A := A) ?_ rfl)
          repeat' (first | with_reducible exact frm_0 _ _ _ | with_reducible refine frm_qf ?_ ?_ | with_reducible refine frm_q ?_ ?_ | with_reducible refine frm_c ?_ (frM_readsSum _) ?_ | with_reducible refine frm_c ?_ (frM_readsCondition _) ?_ | exact rfl)
        · exact Or.inr (by dsimp only; exact qu_at _ _ _ _)
/-- a reading with a fault leaves the law of before -/
theorem lawM26_f : ∀ (F : Nat) (g : Int) (B : qA), 0 ≤ B 0 (fd 33) → frm RDW RDV B (fM_law_L F 26 [g] B).2 ∨ 0 ≤ (fM_law_L F 26 [g] B).1
  | 0, _, _, _ => Or.inl (frm_0 _ _ _)
  | F + 1, g, B, h => by
    rw [fM_law_L26]
    unfold fM_law_c26
    simp only [qlet, qlp]
    by_cases g0 : g = 0
    · rw [if_pos g0]
      exact Or.inl (frm_qf (frm_0 _ _ _) rfl)
    · rw [if_neg g0]
      by_cases hp : B 0 (fd 27) < B 0 (fd 28)
      · rw [if_pos hp]
        have ft := frM_takes 59 B
        have h1 : 0 ≤ (fM_takes 59 B).2 0 (fd 33) := by rw [frm_f ft (r := 0) (j := 33) rfl]; exact h
        generalize fM_takes 59 B = T at ft h1 ⊢
        by_cases t0 : T.1 = 0
        · rw [if_pos t0]
          rcases lawM26_f F 0 T.2 h1 with q | q
          · exact Or.inl (frm_c (frm_c (frm_0 _ _ _) ft rfl) q rfl)
          · exact Or.inr q
        · rw [if_neg t0]
          have fr := frM_readsClause T.2
          have h2 : 0 ≤ (fM_readsClause T.2).2 0 (fd 33) := by
            rcases rc33 T.2 with q | q
            · rw [q]; exact h1
            · rw [q]; omega
          generalize fM_readsClause T.2 = R at fr h2 ⊢
          by_cases r0 : R.1 = 0
          · rw [if_pos r0]
            rcases lawM26_f F 0 R.2 h2 with q | q
            · exact Or.inl (frm_c (frm_c (frm_c (frm_0 _ _ _) ft rfl) fr rfl) q rfl)
            · exact Or.inr q
          · rw [if_neg r0]
            rcases lawM26_f F 1 R.2 h2 with q | q
            · exact Or.inl (frm_c (frm_c (frm_c (frm_0 _ _ _) ft rfl) fr rfl) q rfl)
            · exact Or.inr q
      · rw [if_neg hp]
        refine Or.inr (lawM59_0 F 0 _ ?_)
        have e : ∀ v, (qu (qu B 0 (fd 26) 0) 0 (fd 35) v) 0 (fd 33) = B 0 (fd 33) := fun v => by simp [qu_is, fd_eq]
        rw [e]
        exact h
theorem lawM_f {n : Int} {A : qA} (hn : (fM_law n A).1 < 0) : frm RDW RDV A (fM_law n A).2 := by
  revert hn
  unfold fM_law
  simp only [qlet, qlp]
  split
  · split
    · intro _; exact frm_0 _ _ _
    · intro hn
      have f0 : frm RDW RDV A (qu (qu (qu (qu A 0 (fd 27) 0) 0 (fd 28) n) 0 (fd 31) 0) 0 (fd 33) 0) := frm_qf (frm_qf (frm_qf (frm_qf (frm_0 _ _ _) rfl) rfl) rfl) rfl
      have h0 : 0 ≤ (qu (qu (qu (qu A 0 (fd 27) 0) 0 (fd 28) n) 0 (fd 31) 0) 0 (fd 33) 0) 0 (fd 33) := by
        rw [qu_at]
        exact Int.le_refl _
      generalize qu (qu (qu (qu A 0 (fd 27) 0) 0 (fd 28) n) 0 (fd 31) 0) 0 (fd 33) 0 = C at f0 h0 hn ⊢
      have fr := frM_readsClause C
      have h2 : 0 ≤ (fM_readsClause C).2 0 (fd 33) := by
        rcases rc33 C with q | q
        · rw [q]; exact h0
        · rw [q]; omega
      generalize fM_readsClause C = R at fr h2 hn ⊢
      rcases lawM26_f 100000 R.1 R.2 h2 with q | q
      · exact frm_c (frm_c f0 fr rfl) q rfl
      · exact absurd hn (by omega)
  · intro _; exact frm_0 _ _ _
