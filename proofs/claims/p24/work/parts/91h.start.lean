theorem qC_new2 : ∃ A, pv_run pv_prog 3000 12 94 [.ref 0] [.inr (11, pv_fresh 11)] = some (none, qH LC A) ∧ qokA LC A ∧ CI A ∧ ∃ f g, A = aq LC shC f g ∧ FrC f := by
  obtain ⟨f, g, hr, hF⟩ := nC_new
  refine ⟨aq LC shC f g, ?_, aq_ok shC_rng, ⟨?_, ?_, ⟨?_, ?_⟩, Or.inl ⟨?_, ?_⟩⟩, f, g, rfl, hF⟩
  · have e : qH LC (aq LC shC f g) = gC f g := by
      rw [← gC_eq]
      exact qmk_fr LC shC 0 (fun i y h => by rw [Nat.zero_add]; exact h) shC_ch
    rw [e]
    exact hr
  · intro c hc i h0 h1
    exact aq_v hF (List.all_eq_true.mp IC_ch c hc) h0 h1
  · intro c hc
    have h := List.all_eq_true.mp JC_ch c hc
    simp only [Bool.and_eq_true, decide_eq_true_eq] at h
    rw [aq_f h.1]
    exact h.2
  · intro i h0 h1 h2
    have := aq_v (L := LC) (sh := shC) (g := g) hF (r := 37) (n := 200) (lo := 0) (hi := 0) (by decide +kernel) h0 h1
    omega
  · intro i h0 h1 h2
    have := aq_v (L := LC) (sh := shC) (g := g) hF (r := 72) (n := 200) (lo := 0) (hi := 0) (by decide +kernel) h0 h1
    omega
  · rw [aq_f rfl]; decide +kernel
  · rw [aq_f rfl]; decide +kernel
theorem qM_new2 : ∃ A, pv_run pv_prog 3000 12 144 [.ref 0] [.inr (12, pv_fresh 12)] = some (none, qH LM A) ∧ qokA LM A ∧ MI A ∧ ∃ f g, A = aq LM shM f g ∧ FrM f := by
  obtain ⟨f, g, hr, hF⟩ := nM_new
  refine ⟨aq LM shM f g, ?_, aq_ok shM_rng, ⟨?_, ?_, ?_, ?_⟩, f, g, rfl, hF⟩
  · have e : qH LM (aq LM shM f g) = gM f g := by
      rw [← gM_eq]
      exact qmk_fr LM shM 0 (fun i y h => by rw [Nat.zero_add]; exact h) shM_ch
    rw [e]
    exact hr
  · intro c hc i h0 h1
    exact aq_v hF (List.all_eq_true.mp IM_ch c hc) h0 h1
  · intro c hc
    have h := List.all_eq_true.mp JM_ch c hc
    simp only [Bool.and_eq_true, decide_eq_true_eq] at h
    rw [aq_f h.1]
    exact h.2
  · intro q h0 h1
    rw [aq_f rfl] at h1
    have e : tvs shM 0 35 = 0 := by decide +kernel
    omega
  · intro i h0 h1 h2
    have := aq_v (L := LM) (sh := shM) (g := g) hF (r := 41) (n := 60) (lo := 0) (hi := 0) (by decide +kernel) h0 h1
    omega
theorem lw_R0 {f1 f2 : Nat → Nat → Int32} {g1 g2 : Nat → Nat → Int64} (h1 : FrC f1) (h2 : FrM f2) : lw_R (aq LC shC f1 g1) (aq LM shM f2 g2) := by
  intro i a b
  have u := aq_v (L := LC) (sh := shC) (g := g1) h1 (r := 21) (n := 8) (lo := 0) (hi := 0) (by decide +kernel) a b
  have v := aq_v (L := LM) (sh := shM) (g := g2) h2 (r := 20) (n := 8) (lo := 0) (hi := 0) (by decide +kernel) a b
  omega
