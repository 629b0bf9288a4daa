theorem qC_new2 : ∃ A, pv_run pv_prog 3000 12 94 [.ref 0] [.inr (11, pv_fresh 11)] = some (none, qH LC A) ∧ qokA LC A ∧ CI A ∧ ∃ f g, A = aq LC shC f g ∧ FrC f := by
  obtain ⟨f, g, hr, hF⟩ := nC_new
  refine ⟨aq LC shC f g, ?_, aq_ok shC_rng, ⟨?_, ?_, ⟨?_, ?_⟩, Or.inl ⟨?_, ?_⟩⟩, f, g, rfl, hF⟩
  · have e : qH LC (aq LC shC f g) = gC f g := by
      rw [← gC_eq]
      exact qmk_fr LC shC 0 (fun i y h => by rw [Nat.zero_add]; exact h) shC_ch
    rw [e]
    exact hr
  · intro c hc i h0 h1
    exact aq_v hF (List.all_eq_true.mp IC_ch c hc) h0 h1
  · intro c hc
    have h := List.all_eq_true.mp JC_ch c hc
    simp only [Bool.and_eq_true, decide_eq_true_eq] at h
    rw [aq_f h.1]
    exact h.2
  · intro i h0 h1 h2
    have := aq_v (L := LC) (sh := shC) (g := g) hF (r := 37) (n := 200) (lo := 0) (hi := 0) (by decide +kernel) h0 h1
    omega
  · intro i h0 h1 h2
    have := aq_v (L := LC) (sh := shC) (g := g) hF (r := 72) (n := 200) (lo := 0) (hi := 0) (by decide +kernel) h0 h1
    omega
  · rw [aq_f rfl]; decide +kernel
  · rw [aq_f rfl]; decide +kernel
theorem qM_new2 : ∃ A, pv_run pv_prog 3000 12 144 [.ref 0] [.inr (12, pv_fresh 12)] = some (none, qH LM A) ∧ qokA LM A ∧ MI A ∧ ∃ f g, A = aq LM shM f g ∧ FrM f := by
  obtain ⟨f, g, hr, hF⟩ := nM_new
  refine ⟨aq LM shM f g, ?_, aq_ok shM_rng, ⟨?_, ?_, ?_, ?_⟩, f, g, rfl, hF⟩
  · have e : qH LM (aq LM shM f g) = gM f g := by
      rw [← gM_eq]
      exact qmk_fr LM shM 0 (fun i y h => by rw [Nat.zero_add]; exact h) shM_ch
    rw [e]
    exact hr
  · intro c hc i h0 h1
    exact aq_v hF (List.all_eq_true.mp IM_ch c hc) h0 h1
  · intro c hc
    have h := List.all_eq_true.mp JM_ch c hc
    simp only [Bool.and_eq_true, decide_eq_true_eq] at h
    rw [aq_f h.1]
    exact h.2
  · intro q h0 h1
    rw [aq_f rfl] at h1
    have e : tvs shM 0 35 = 0 := by decide +kernel
    omega
  · intro i h0 h1 h2
    have := aq_v (L := LM) (sh := shM) (g := g) hF (r := 41) (n := 60) (lo := 0) (hi := 0) (by decide +kernel) h0 h1
    omega
theorem lw_R0 {f1 f2 : Nat → Nat → Int32} {g1 g2 : Nat → Nat → Int64} (h1 : FrC f1) (h2 : FrM f2) : lw_R 0 (aq LC shC f1 g1) (aq LM shM f2 g2) := by
  have v1 : ∀ {r : Nat} {n lo hi : Int}, _ → ∀ i : Int, 0 ≤ i → i < n → lo ≤ (aq LC shC f1 g1) r i ∧ (aq LC shC f1 g1) r i ≤ hi := fun {r n lo hi} hc i a b => aq_v (L := LC) (sh := shC) (g := g1) h1 (r := r) (n := n) (lo := lo) (hi := hi) hc a b
  have v2 : ∀ {r : Nat} {n lo hi : Int}, _ → ∀ i : Int, 0 ≤ i → i < n → lo ≤ (aq LM shM f2 g2) r i ∧ (aq LM shM f2 g2) r i ≤ hi := fun {r n lo hi} hc i a b => aq_v (L := LM) (sh := shM) (g := g2) h2 (r := r) (n := n) (lo := lo) (hi := hi) hc a b
  have hang0 : ∀ d : Int, 0 ≤ d → d < 48 → (aq LM shM f2 g2) 1 d = 0 := fun d a b => by
    have := v2 (r := 1) (n := 48) (lo := 0) (hi := 0) (by decide +kernel) d a b
    omega
  have e1 : (aq LC shC f1 g1) 1 (fd 0) = 0 := by rw [aq_f rfl]; decide +kernel
  have hg : ∀ d, 0 ≤ d → d < 48 → ¬ HG (aq LC shC f1 g1) d := fun d a b z => by
    have := (hb_is a (by omega)).mp z
    rw [e1] at this
    unfold hbit at this
    rw [show BitVec.ofInt 64 0 = 0#64 from rfl, BitVec.getLsbD_zero] at this
    cases this
  refine ⟨⟨⟨⟨fun d a b => ⟨fun z => absurd z (hg d a b), fun z => absurd (hang0 d a b) z⟩, fun d a b _ z => absurd (hang0 d a b) z⟩, fun d a b _ => ⟨⟨⟨fun z => absurd z (hg d a b), fun z => absurd (hang0 d a b) z⟩, fun z => absurd (hang0 d a b) z⟩, fun z => absurd (hang0 d a b) z⟩⟩, ⟨fun k a b => ?_, fun x a b => ?_, ?_, ?_, ?_⟩, ⟨?_, ?_, fun i a b => ?_⟩, Or.inl ⟨?_, 0, fun _ => -1, [], by decide, fun p hp => ⟨⟨(by decide : (-1 : Int) ≤ -1), (by decide : (-1 : Int) ≤ 255)⟩, fun _ => rfl⟩, trivial, by decide, by decide, ⟨?_, trivial⟩, ?_, trivial⟩⟩, ⟨?_, fun i a b => ?_⟩, fun d a b => ?_, fun d a b => ?_⟩
  · have a1 := v1 (r := 11) (n := 6) (lo := 1) (hi := 1) (by decide +kernel) k a b
    have a2 := v1 (r := 12) (n := 6) (lo := 50) (hi := 50) (by decide +kernel) k a b
    have a3 := v1 (r := 13) (n := 6) (lo := 1) (hi := 1) (by decide +kernel) k a b
    have b1 := v2 (r := 11) (n := 6) (lo := 1) (hi := 1) (by decide +kernel) k a b
    have b2 := v2 (r := 12) (n := 6) (lo := 50) (hi := 50) (by decide +kernel) k a b
    have b3 := v2 (r := 13) (n := 6) (lo := 1) (hi := 1) (by decide +kernel) k a b
    omega
  · have a1 := v1 (r := 16) (n := 8) (lo := 0) (hi := 0) (by decide +kernel) x a b
    have a2 := v1 (r := 17) (n := 8) (lo := 0) (hi := 0) (by decide +kernel) x a b
    have a3 := v1 (r := 18) (n := 8) (lo := 9999) (hi := 9999) (by decide +kernel) x a b
    have a4 := v1 (r := 19) (n := 8) (lo := 0) (hi := 0) (by decide +kernel) x a b
    have a5 := v1 (r := 20) (n := 8) (lo := 0) (hi := 0) (by decide +kernel) x a b
    have a6 := v1 (r := 21) (n := 8) (lo := 0) (hi := 0) (by decide +kernel) x a b
    have a7 := v1 (r := 22) (n := 8) (lo := 1) (hi := 1) (by decide +kernel) x a b
    have b1 := v2 (r := 14) (n := 8) (lo := 0) (hi := 0) (by decide +kernel) x a b
    have b2 := v2 (r := 15) (n := 8) (lo := 0) (hi := 0) (by decide +kernel) x a b
    have b3 := v2 (r := 16) (n := 8) (lo := 9999) (hi := 9999) (by decide +kernel) x a b
    have b4 := v2 (r := 17) (n := 8) (lo := 0) (hi := 0) (by decide +kernel) x a b
    have b5 := v2 (r := 18) (n := 8) (lo := 0) (hi := 0) (by decide +kernel) x a b
    have b6 := v2 (r := 20) (n := 8) (lo := 0) (hi := 0) (by decide +kernel) x a b
    have b7 := v2 (r := 21) (n := 8) (lo := 1) (hi := 1) (by decide +kernel) x a b
    omega
  · rw [aq_f rfl, aq_f rfl]; decide +kernel
  · rw [aq_f rfl, aq_f rfl]; decide +kernel
  · rw [aq_f rfl]; decide +kernel
  · rw [aq_f rfl, aq_f rfl]; decide +kernel
  · rw [aq_f rfl]; decide +kernel
  · have z : (aq LM shM f2 g2) 0 (fd 2) = 0 := by rw [aq_f rfl]; decide +kernel
    rw [z] at b
    omega
  · rw [aq_f rfl]; decide +kernel
  · rw [aq_f rfl]; decide +kernel
  · rw [aq_f rfl]; decide +kernel
  · rw [aq_f rfl, aq_f rfl]; decide +kernel
  · have u := v1 (r := 53) (n := 220) (lo := 0) (hi := 0) (by decide +kernel) i a b
    have v := v2 (r := 22) (n := 220) (lo := 0) (hi := 0) (by decide +kernel) i a b
    rw [show (aq LM shM f2 g2) 22 i = 0 by omega, show ia 0 255 = 0 by decide +kernel]
    omega
  · have := v2 (r := 4) (n := 48) (lo := 0) (hi := 0) (by decide +kernel) d a b
    omega
  · have := v2 (r := 9) (n := 48) (lo := 0) (hi := 0) (by decide +kernel) d a b
    omega
