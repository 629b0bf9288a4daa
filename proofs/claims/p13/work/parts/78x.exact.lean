/-! WHAT A METHOD COMPUTES, as a function of its numbers and of the heap -/
def qlet {α β : Type} (x : α) (f : α → β) : β := f x
theorem qlc {α β : Type} {x v : α} {f : α → β} {T : β} (e : v = x) (h : qlet x f = T) : f v = T := by
  subst e
  exact h
def qlp {β : Type} (p : Int × qA) (f : Int → qA → β) : β := f p.1 p.2
theorem qlpc {β : Type} {p : Int × qA} {r : Int} {A : qA} {f : Int → qA → β} {T : β} (e1 : r = p.1) (e2 : A = p.2) (h : qlp p f = T) : f r A = T := by
  subst e1; subst e2
  exact h
theorem qoks_n : qoks [] := fun v h => by cases h
theorem okM_ex {L : List qY} {D j : Nat} {sp : qS} (ok : okM L D j sp) {as : List qV} {A : qA} {K : qK} (hA : qokA L A) (has : qoks as) (h : sp as A K) : ∃ r A', qokA L A' ∧ qokr r ∧ K r A' := by
  obtain ⟨F, v, h', _, r, A', _, _, h2, h3, h4⟩ := ok D (Nat.le_refl D) as A K hA has h
  exact ⟨r, A', h2, h3, h4⟩
theorem qL1 {α : Type} {k : Nat} {a b r : α} (h : Nat.beq k k = true) (e : a = r) : (bif Nat.beq k k then a else b) = r := by
  rw [h]
  exact e
theorem qL0 {α : Type} {k j : Nat} {a b r : α} (h : Nat.beq k j = false) (e : b = r) : (bif Nat.beq k j then a else b) = r := by
  rw [h]
  exact e
