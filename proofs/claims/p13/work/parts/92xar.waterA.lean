/-! WATER, what flows -/
theorem flows_e (A2 : qA) : fM_flows A2 = fM_flows_L 100000 2 [0] A2 := fM_flows.eq_1 A2
theorem pourA_e (A1 : qA) : fC_pourA A1 = fC_pourA_L 100000 9 [0] (qcpy A1 16 0 45 0 8) := (fC_pourA.eq_1 A1).trans (qlet.eq_1 _ _)
theorem pourA_F {A1 A2 : qA} (hH : WH A1 A2) (hv : ∀ i, 0 ≤ i → i < 8 → A1 16 i = A2 36 i ∧ 0 ≤ A2 36 i ∧ A2 36 i ≤ 99) (h9 : ∀ d, 0 ≤ d → d < 48 → A2 1 d ≠ 0 → A1 9 d = A2 10 d) (F1 F2 : Nat) : WOA A1 A2 (fC_pourA_L (F1 + 10 * 6 + 1) 9 [0] (qcpy A1 16 0 45 0 8)) (fM_flows_L (F2 + 28 * 6 + 1) 2 [0] A2) 6 := by
  have q45 : ∀ i, 0 ≤ i → i < 8 → (qcpy A1 16 0 45 0 8) 45 i = A1 16 i := fun i i0 i1 => by
    unfold qcpy
    rw [if_pos ⟨rfl, i0, by omega⟩]
    congr 1
    omega
  have fq : frm [45, 46, 9] [] A1 (qcpy A1 16 0 45 0 8) := frm_cp (frm_0 _ _ _) rfl rfl
  refine levelA hH 6 F1 F2 0 (qcpy A1 16 0 45 0 8) A2 (by decide) (by decide) ⟨⟨fq, frm_0 _ _ _⟩, fun i i0 i1 => ?_, fun d d0 d1 d2 d3 => ?_⟩
  · rw [q45 i i0 i1, pw_0]; exact hv i i0 i1
  · rw [cp_a (r' := 9) (A := A1) (r0 := 16) (sp := 0) (r := 45) (dp := 0) (n := 8) rfl rfl]; exact h9 d d0 d1 d2
theorem pourA_is {A1 A2 : qA} (hH : WH A1 A2) (hv : ∀ i, 0 ≤ i → i < 8 → A1 16 i = A2 36 i ∧ 0 ≤ A2 36 i ∧ A2 36 i ≤ 99) (h9 : ∀ d, 0 ≤ d → d < 48 → A2 1 d ≠ 0 → A1 9 d = A2 10 d) : WOA A1 A2 (fC_pourA A1) (fM_flows A2) 6 := by
  obtain ⟨F1, g1⟩ : ∃ F1 : Nat, F1 + 10 * 6 + 1 = 100000 := ⟨99939, by decide⟩
  obtain ⟨F2, g2⟩ : ∃ F2 : Nat, F2 + 28 * 6 + 1 = 100000 := ⟨99831, by decide⟩
  have key := pourA_F hH hv h9 F1 F2
  rw [g1, g2] at key
  rw [pourA_e, flows_e]
  exact key
