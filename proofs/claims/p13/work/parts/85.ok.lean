theorem pv_nx_inv {rows : List pv_R} {k pc len L : Nat} (h : pv_nx rows k pc len L = true) : len = L ∧ pv_pc rows (k + 1) = pc + L := by
  simpa [pv_nx] using h
theorem pv_jp_inv {rows : List pv_R} {pc t : Nat} {off : Int} (h : pv_jp rows pc off t = true) : (pc : Int) + off = (pv_pc rows t : Int) := by
  simpa [pv_jp] using h
/-- the classes' fields: their words are among the tables', their types, their names apart -/
def dq_lay (C : String) : Cond → Bool
  | .lays D _ _ _ => D == C
  | .laysFinal D _ _ _ => D == C
  | _ => false
theorem pv_cl (ci : Nat) {q : vw_C} (h : vwCl[ci]? = some q) : (∀ w ∈ u_ws q.1 q.2.1 q.2.2, w ∈ pv_T) ∧ (∀ k, k < q.2.2 → parseFieldDescriptor (q.2.1 k).2.2.1 = some (pv_tyX ci k)) ∧ (∀ a, a < q.2.2 → ∀ b, b < q.2.2 → a ≠ b → (q.2.1 a).2.1 ≠ (q.2.1 b).2.1) := by
  have key : ∀ w ∈ u_ws q.1 q.2.1 q.2.2, goodWord w = true ∧ w ∈ lw_tbl.filter (dq_lay q.1) → w ∈ pv_T := fun w _ hw => List.mem_filter.mpr ⟨(List.mem_filter.mp hw.2).1, hw.1⟩
  match ci, h with
  | 0, h => cases h; exact ⟨fun w hw => key w hw (by revert w; decide +kernel), tyX0_ok, nmX0⟩
  | 1, h => cases h; exact ⟨fun w hw => key w hw (by revert w; decide +kernel), tyX1_ok, nmX1⟩
  | 2, h => cases h; exact ⟨fun w hw => key w hw (by revert w; decide +kernel), tyX2_ok, nmX2⟩
  | 3, h => cases h; exact ⟨fun w hw => key w hw (by revert w; decide +kernel), tyX3_ok, nmX3⟩
  | 4, h => cases h; exact ⟨fun w hw => key w hw (by revert w; decide +kernel), tyX4_ok, nmX4⟩
  | 5, h => cases h; exact ⟨fun w hw => key w hw (by revert w; decide +kernel), tyX5_ok, nmX5⟩
  | 6, h => cases h; exact ⟨fun w hw => key w hw (by revert w; decide +kernel), tyX6_ok, nmX6⟩
  | 7, h => cases h; exact ⟨fun w hw => key w hw (by revert w; decide +kernel), tyX7_ok, nmX7⟩
  | 8, h => cases h; exact ⟨fun w hw => key w hw (by revert w; decide +kernel), tyX8_ok, nmX8⟩
  | 9, h => cases h; exact ⟨fun w hw => key w hw (by revert w; decide +kernel), tyX9_ok, nmX9⟩
  | 10, h => cases h; exact ⟨fun w hw => key w hw (by revert w; decide +kernel), tyX10_ok, nmX10⟩
  | 11, h => cases h; exact ⟨fun w hw => key w hw (by revert w; decide +kernel), tyX11_ok, nmX11⟩
  | 12, h => cases h; exact ⟨fun w hw => key w hw (by revert w; decide +kernel), tyX12_ok, nmX12⟩
  | n + 13, h => simp [vwCl] at h
