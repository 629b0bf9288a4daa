/-! the two answer alike, made anew -/
def eqv (jC jM : Nat) (as : List Value) : Prop := ∃ x : Int32, (∀ f g, fr_ok vlC f → wR 12 jC as (gC f g) (fun v h => v = some (.int x) ∧ h.length = 79)) ∧ (∀ f g, fr_ok vlM f → wR 12 jM as (gM f g) (fun v h => v = some (.int x) ∧ h.length = 64))
def eqvL (jC jM : Nat) (as : List Value) : Prop := ∃ x : Int64, (∀ f g, fr_ok vlC f → wR 12 jC as (gC f g) (fun v h => v = some (.long x) ∧ h.length = 79)) ∧ (∀ f g, fr_ok vlM f → wR 12 jM as (gM f g) (fun v h => v = some (.long x) ∧ h.length = 64))
theorem gC_len (f : Nat → Nat → Int32) (g : Nat → Nat → Int64) : (gC f g).length = 79 := rfl
theorem gM_len (f : Nat → Nat → Int32) (g : Nat → Nat → Int64) : (gM f g).length = 64 := rfl
theorem ab_nil : ∀ e ∈ ([] : List ab_E), ab_val e := fun _ h => by cases h
theorem eqv_int {jC jM : Nat} {as : List ab_V} {as' : List Value} (x : Int32) (e : (ab_is [] ab_jt 4000 12 jC as (0, 0) ab_aC 0 (ab_n x) && ab_is [] ab_jt 4000 12 jM as (0, 0) ab_aM 0 (ab_n x)) = true) (h : ab_all2 (ab_gv 0) as as') : eqv jC jM as' := by
  simp only [Bool.and_eq_true] at e
  refine ⟨x, fun f g hF => ?_, fun f g hF => ?_⟩
  · exact ab_is_int x ab_nil e.1 ⟨Nat.le_refl _, Nat.le_refl _⟩ h (ab_freC hF ab_aC_ok 0)
  · exact ab_is_int x ab_nil e.2 ⟨Nat.le_refl _, Nat.le_refl _⟩ h (ab_freM hF ab_aM_ok 0)
theorem ab_arg {p : Nat × Nat} {x : Int32} (h1 : p.1 ≤ ab_n x) (h2 : ab_n x ≤ p.2) : ab_gv 0 (0, p) (.int x) := ⟨x, rfl, h1, h2⟩
theorem ab_ref0 : ab_gv 0 (3, 0, 0) (.ref 0) := rfl
