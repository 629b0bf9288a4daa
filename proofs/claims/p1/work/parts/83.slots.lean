/-! HOW MUCH ROOM THE FRESH HEAPS TAKE: it hangs on their shape alone -/
def fr_sz (s : Nat × Nat × Nat × List Value) : Nat := pv_ce (fr_ce 0 s (fun _ _ => 0) (fun _ _ => 0))
theorem fr_sz_is (k : Nat) (s : Nat × Nat × Nat × List Value) (f : Nat → Nat → Int32) (g : Nat → Nat → Int64) : pv_ce (fr_ce k s f g) = fr_sz s := by
  obtain ⟨a, t, n, fs⟩ := s
  match a with
  | 0 => rfl
  | 1 => rfl
  | 2 => rfl
  | a + 3 => rfl
theorem pv_sl_re (f : Nat → Nat → Int32) (g : Nat → Nat → Int64) : ∀ (L : List (Nat × Nat × Nat × List Value)) (k : Nat), pv_sl (fr_re k L f g) = (L.map fr_sz).sum
  | [], _ => rfl
  | s :: L, k => by
    have ih := pv_sl_re f g L (k + 1)
    unfold pv_sl at ih ⊢
    show (pv_ce (fr_ce k s f g) :: (fr_re (k + 1) L f g).map pv_ce).sum = (fr_sz s :: L.map fr_sz).sum
    rw [List.sum_cons, List.sum_cons, ih, fr_sz_is]
theorem lw_szC : (shC.map fr_sz).sum ≤ 90000 := by decide +kernel
theorem lw_szM : (shM.map fr_sz).sum ≤ 90000 := by decide +kernel
theorem lw_slC (f : Nat → Nat → Int32) (g : Nat → Nat → Int64) : 0 + 12 + (pv_sl (gC f g) - pv_sl [.inr (11, pv_fresh 11)]) ≤ 100000 := by
  have h : pv_sl (gC f g) ≤ 90000 := by
    rw [← gC_eq, pv_sl_re]
    exact lw_szC
  generalize pv_sl (gC f g) = a at h ⊢
  generalize pv_sl [.inr (11, pv_fresh 11)] = b
  omega
theorem lw_slM (f : Nat → Nat → Int32) (g : Nat → Nat → Int64) : 100000 + 78 + (pv_sl (gM f g) - pv_sl [.inr (12, pv_fresh 12)]) ≤ 200000 := by
  have h : pv_sl (gM f g) ≤ 90000 := by
    rw [← gM_eq, pv_sl_re]
    exact lw_szM
  generalize pv_sl (gM f g) = a at h ⊢
  generalize pv_sl [.inr (12, pv_fresh 12)] = b
  omega
