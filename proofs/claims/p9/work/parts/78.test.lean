def sp_within : qS := fun as A K => ∃ n m, as = [ni n, ni m] ∧ K (some (ni (bi (0 ≤ n ∧ n ≤ m)))) A
theorem ok_within2 : okM LC 1 138 sp_within := by
  refine qmeth [] false [] 40 rfl trivial ?_
  rintro _ A K hA has ⟨n, m, rfl, hK⟩
  refine ⟨Nat.le_of_ble_eq_true rfl, [], trivial, ?_⟩
  refine And.intro (fun h1 => ?_) (fun h1 => And.intro (fun h2 => ?_) (fun h2 => ?_))
  · refine And.intro (Or.inl rfl) ?_
    trace_state
    sorry
  · refine And.intro (Or.inl rfl) ?_
    sorry
  · refine And.intro (Or.inr rfl) ?_
    trace_state
    sorry
