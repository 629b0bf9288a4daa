theorem wR_of {d j F N : Nat} {as : List Value} {h : pv_H} {a : Int32} (hx : (match pv_run pv_prog F d j as h with
  | some (some (.int v), h') => decide (v = a) && decide (h'.length = N)
  | _ => false) = true) : wR d j as h (fun v h' => v = some (.int a) ∧ h'.length = N) := by
  split at hx
  · next v h' hr =>
    simp only [Bool.and_eq_true, decide_eq_true_eq] at hx
    exact ⟨F, _, _, hr, by rw [hx.1], hx.2⟩
  · cases hx
theorem an_waterC : wR 12 107 [.ref 0] nC (fun v h => v = some (.int 0) ∧ h.length = 79) := wR_of (F := 4000) (by decide +kernel)
theorem an_waterM : wR 12 196 [.ref 0] nM (fun v h => v = some (.int 0) ∧ h.length = 64) := wR_of (F := 4000) (by decide +kernel)
theorem an_goC : wR 12 109 [.ref 0] nC (fun v h => v = some (.int 0) ∧ h.length = 79) := wR_of (F := 4000) (by decide +kernel)
theorem an_goM : wR 12 207 [.ref 0] nM (fun v h => v = some (.int 0) ∧ h.length = 64) := wR_of (F := 4000) (by decide +kernel)
theorem an_dayC : wR 12 110 [.ref 0] nC (fun v h => v = some (.int 0) ∧ h.length = 79) := wR_of (F := 4000) (by decide +kernel)
theorem an_dayM : wR 12 209 [.ref 0] nM (fun v h => v = some (.int 0) ∧ h.length = 64) := wR_of (F := 4000) (by decide +kernel)
