/-! THE POLLEN: ways of both gardens -/
theorem io_b : ∀ s < 256, ∀ y < 8, (0 ≤ io ((s : Nat) : Int) (sl 1 ((y : Nat) : Int)) ∧ io ((s : Nat) : Int) (sl 1 ((y : Nat) : Int)) ≤ 255) := by decide +kernel
theorem io_s : ∀ s < 256, ∀ y < 8, ∀ d < 8, (ia (sr (io ((s : Nat) : Int) (sl 1 ((y : Nat) : Int))) ((d : Nat) : Int)) 1 = 0 ↔ ia (sr ((s : Nat) : Int) ((d : Nat) : Int)) 1 = 0 ∧ d ≠ y) := by decide +kernel
theorem ia_0 : ∀ d < 8, ia (sr 0 ((d : Nat) : Int)) 1 = 0 := by decide +kernel
theorem sbit_io {s y d : Int} (s0 : 0 ≤ s) (s1 : s ≤ 255) (y0 : 0 ≤ y) (y1 : y < 8) (d0 : 0 ≤ d) (d1 : d < 8) : ia (sr (io s (sl 1 y)) d) 1 = 0 ↔ ia (sr s d) 1 = 0 ∧ d ≠ y := by
  have := io_s s.toNat (by omega) y.toNat (by omega) d.toNat (by omega)
  rw [show ((s.toNat : Nat) : Int) = s by omega, show ((y.toNat : Nat) : Int) = y by omega, show ((d.toNat : Nat) : Int) = d by omega] at this
  rw [this]
  constructor
  · intro q; exact ⟨q.1, fun e => q.2 (by omega)⟩
  · intro q; exact ⟨q.1, fun e => q.2 (by omega)⟩
/-- what the columns' number says -/
theorem cols_L {k0 : Int} (h0 : 0 ≤ k0) (h1 : k0 ≤ 5) (A : qA) : ∀ (m F : Nat) (s k : Int), k + m = 48 → 0 ≤ k → 0 ≤ s → s ≤ 255 → ∃ r, fC_columnsOf_L (F + m + 1) 4 [k0, s, k] A = r ∧ 0 ≤ r ∧ r ≤ 255 ∧ ∀ y, 0 ≤ y → y < 8 → (ia (sr r y) 1 = 0 ↔ (ia (sr s y) 1 = 0 ∧ ∀ c, k ≤ c → c < 48 → c / 6 = y → HG A c → A 6 c ≠ k0)) := by
  intro m
  induction m with
  | zero =>
    intro F s k hk k0 s0 s1
    refine ⟨s, ?_, s0, s1, fun y y0 y1 => ⟨fun q => ⟨q, fun c c0 c1 => by omega⟩, fun q => q.1⟩⟩
    rw [show F + 0 + 1 = F + 1 by omega, fC_columnsOf_L4]
    unfold fC_columnsOf_c4
    rw [if_neg (by omega)]
  | succ m ih =>
    intro F s k hk kk s0 s1
    have hq : qd k 6 = k / 6 := Int.tdiv_eq_ediv_of_nonneg kk
    have hstep : ∀ s', 0 ≤ s' → s' ≤ 255 → (∀ y, 0 ≤ y → y < 8 → (ia (sr s' y) 1 = 0 ↔ ia (sr s y) 1 = 0 ∧ (k / 6 = y → HG A k → A 6 k ≠ k0))) → ∃ r, fC_columnsOf_L (F + m + 1) 4 [k0, s', k + 1] A = r ∧ 0 ≤ r ∧ r ≤ 255 ∧ ∀ y, 0 ≤ y → y < 8 → (ia (sr r y) 1 = 0 ↔ (ia (sr s y) 1 = 0 ∧ ∀ c, k ≤ c → c < 48 → c / 6 = y → HG A c → A 6 c ≠ k0)) := by
      intro s' a b hs
      obtain ⟨r, e, r0, r1, hr⟩ := ih F s' (k + 1) (by omega) (by omega) a b
      refine ⟨r, e, r0, r1, fun y y0 y1 => ?_⟩
      rw [hr y y0 y1, hs y y0 y1]
      constructor
      · intro q
        refine ⟨q.1.1, fun c c0 c1 cy hg => ?_⟩
        by_cases hc : c = k
        · rw [hc] at cy hg ⊢
          exact q.1.2 cy hg
        · exact q.2 c (by omega) c1 cy hg
      · intro q
        exact ⟨⟨q.1, fun cy hg => q.2 k (by omega) (by omega) cy hg⟩, fun c c0 c1 cy hg => q.2 c (by omega) c1 cy hg⟩
    rw [show F + (m + 1) + 1 = (F + m + 1) + 1 by omega, fC_columnsOf_L4]
    unfold fC_columnsOf_c4
    simp only [qlet_e]
    rw [if_pos (show k < 48 by omega)]
    by_cases hc : 0 ≤ k ∧ k ≤ 47 ∧ HG A k ∧ 0 ≤ A 6 k ∧ A 6 k ≤ 5
    · rw [if_pos hc]
      by_cases hk0 : A 6 k = k0
      · rw [if_pos hk0, hq]
        have hb := io_b s.toNat (by omega) (k / 6).toNat (by omega)
        rw [show ((s.toNat : Nat) : Int) = s by omega, show (((k / 6).toNat : Nat) : Int) = k / 6 by omega] at hb
        refine hstep _ hb.1 hb.2 (fun y y0 y1 => ?_)
        rw [sbit_io s0 s1 (by omega) (by omega) y0 y1]
        constructor
        · intro q; exact ⟨q.1, fun cy => absurd cy.symm q.2⟩
        · intro q; exact ⟨q.1, fun cy => q.2 cy.symm hc.2.2.1 hk0⟩
      · rw [if_neg hk0]
        exact hstep s s0 s1 (fun y y0 y1 => ⟨fun q => ⟨q, fun _ _ => hk0⟩, fun q => q.1⟩)
    · rw [if_neg hc]
      exact hstep s s0 s1 (fun y y0 y1 => ⟨fun q => ⟨q, fun _ hg e => hc ⟨kk, by omega, hg, by omega, by omega⟩⟩, fun q => q.1⟩)
theorem haskind_L {c k : Int} (A : qA) : ∀ (m F : Nat) (j : Int), j + m = 6 * (c + 1) → (fM_hasKind_L (F + m + 1) 4 [c, k, j] A = 0 ↔ ∀ i, j ≤ i → i < 6 * (c + 1) → A 1 i ≠ 0 → A 7 i ≠ k) := by
  intro m
  induction m with
  | zero =>
    intro F j hj
    rw [show F + 0 + 1 = F + 1 by omega, fM_hasKind_L4]
    unfold fM_hasKind_c4
    simp only [qlet_e]
    rw [if_neg (by omega)]
    exact ⟨fun _ i i0 i1 => by omega, fun _ => rfl⟩
  | succ m ih =>
    intro F j hj
    have hi := ih F (j + 1) (by omega)
    rw [show F + (m + 1) + 1 = (F + m + 1) + 1 by omega, fM_hasKind_L4]
    unfold fM_hasKind_c4
    simp only [qlet_e]
    rw [if_pos (by omega)]
    by_cases h1 : A 1 j = 0
    · rw [if_pos h1, hi]
      constructor
      · intro q i i0 i1 hh
        by_cases e : i = j
        · rw [e] at hh; exact absurd h1 hh
        · exact q i (by omega) i1 hh
      · intro q i i0 i1 hh; exact q i (by omega) i1 hh
    · rw [if_neg h1]
      by_cases h2 : A 7 j = k
      · rw [if_pos h2]
        constructor
        · intro q; exact absurd q (by decide)
        · intro q; exact absurd h2 (q j (by omega) (by omega) h1)
      · rw [if_neg h2, hi]
        constructor
        · intro q i i0 i1 hh
          by_cases e : i = j
          · rw [e]; exact h2
          · exact q i (by omega) i1 hh
        · intro q i i0 i1 hh; exact q i (by omega) i1 hh
theorem haskind_is {c k : Int} (A : qA) : fM_hasKind c k A = 0 ↔ ∀ i, 6 * c ≤ i → i < 6 * (c + 1) → A 1 i ≠ 0 → A 7 i ≠ k := by
  unfold fM_hasKind
  simp only [qlet_e]
  exact haskind_L A 6 99993 (6 * c) (by omega)
theorem has_is {k : Int} (h0 : 0 ≤ k) (h1 : k ≤ 5) {A1 A2 : qA} (h : GR A1 A2) : (0 ≤ fC_columnsOf k A1 ∧ fC_columnsOf k A1 ≤ 255) ∧ ∀ y, 0 ≤ y → y < 8 → ∀ B2 : qA, B2 1 = A2 1 → B2 7 = A2 7 → (ia (sr (fC_columnsOf k A1) y) 1 = 0 ↔ fM_hasKind y k B2 = 0) := by
  obtain ⟨r, e, r0, r1, hr⟩ := cols_L h0 h1 A1 48 99951 0 0 (by omega) (by omega) (by omega) (by omega)
  have e : fC_columnsOf k A1 = r := e
  rw [e]
  refine ⟨⟨r0, r1⟩, fun y y0 y1 B2 b1 b7 => ?_⟩
  rw [hr y y0 y1, haskind_is, b1, b7]
  have hz := ia_0 y.toNat (by omega)
  rw [show ((y.toNat : Nat) : Int) = y by omega] at hz
  constructor
  · intro q i i0 i1 hh
    have hg := h.1.2 i (by omega) (by omega) trivial
    have := q.2 i (by omega) (by omega) (by omega) (hg.1.1.mpr hh)
    rw [(hg.2 hh).1.1] at this
    exact this
  · intro q
    refine ⟨hz, fun c c0 c1 cy hgc => ?_⟩
    have hg := h.1.2 c c0 c1 trivial
    have hh := hg.1.1.mp hgc
    rw [(hg.2 hh).1.1]
    exact q c (by omega) (by omega) hh
