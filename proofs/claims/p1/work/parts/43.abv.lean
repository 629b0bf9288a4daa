/-! the fresh heaps over bounds, answers -/
def ab_vck (v : Value) (a : ab_V) : Bool := match v, a with
  | .int x, (0, lo, hi) => Nat.ble lo (ab_n x) && Nat.ble (ab_n x) hi
  | .long x, (2, lo, hi) => Nat.ble lo (ab_m x) && Nat.ble (ab_m x) hi
  | .ref k, (3, b, _) => k == b
  | .null, (4, _, _) => true
  | _, _ => false
theorem ab_vck_ok {g : Nat} {v : Value} {a : ab_V} (e : ab_vck v a = true) : ab_gv g a v := by
  unfold ab_vck at e
  split at e
  · next x lo hi => simp only [Bool.and_eq_true, Nat.ble_eq] at e; exact ⟨x, rfl, e⟩
  · next x lo hi => simp only [Bool.and_eq_true, Nat.ble_eq] at e; exact ⟨x, rfl, e⟩
  · next k b q => simp only [beq_iff_eq] at e; rw [e]; rfl
  · rfl
  · cases e
def ab_vcks : List Value → List ab_V → Bool
  | [], [] => true
  | v :: vs, a :: as => ab_vck v a && ab_vcks vs as
  | _, _ => false
theorem ab_vcks_ok {g : Nat} : ∀ {vs : List Value} {as : List ab_V}, ab_vcks vs as = true → ab_all2 (ab_gv g) as vs
  | [], [], _ => trivial
  | v :: vs, a :: as, e => by
    unfold ab_vcks at e
    simp only [Bool.and_eq_true] at e
    exact ⟨ab_vck_ok e.1, ab_vcks_ok e.2⟩
  | [], _ :: _, e => by cases e
  | _ :: _, [], e => by cases e
def ab_has (n : Nat) (p : Nat × Nat) : Bool := Nat.ble p.1 n && Nat.ble n p.2
def ab_chk (vl : List (Nat × Nat × Int32)) : Nat → List (Nat × Nat × Nat × List Value) → List ab_C → Bool
  | _, [], [] => true
  | k, (0, t, n, _) :: L, .inl (t', n', df, es) :: A => ((t == t' && n == n') && (Nat.blt t 3 && fr_len vl k == n)) && ((ab_has (ab_n (fr_val vl k)) df && es.all (ab_has (ab_n (fr_val vl k)))) && ab_chk vl (k + 1) L A)
  | k, (1, t, n, _) :: L, .inl (t', n', df, es) :: A => ((t == t' && n == n') && t == 3) && ((ab_sub2 ab_top64 df && es.all (ab_sub2 ab_top64)) && ab_chk vl (k + 1) L A)
  | k, (2, ci, _, fs) :: L, .inr (ci', as) :: A => (ci == ci' && ab_vcks fs as) && ab_chk vl (k + 1) L A
  | _, _, _ => false
theorem ab_all_el {P : Nat × Nat → Bool} {df : Nat × Nat} {es : List (Nat × Nat)} (h1 : P df = true) (h2 : es.all P = true) (j : Nat) : P (ab_el df es j) = true := by
  unfold ab_el
  split
  · next e he => exact List.all_eq_true.mp h2 e (List.mem_of_getElem? he)
  · exact h1
theorem ab_chk_ok {vl : List (Nat × Nat × Int32)} {f : Nat → Nat → Int32} {g9 : Nat → Nat → Int64} (hF : fr_ok vl f) {g : Nat} : ∀ (L : List (Nat × Nat × Nat × List Value)) (k : Nat) (A : List ab_C), ab_chk vl k L A = true → ab_all2 (ab_gc g) A (fr_re k L f g9) := by
  intro L
  induction L with
  | nil =>
    intro k A e
    cases A with
    | nil => trivial
    | cons a A => cases e
  | cons s L ih =>
    intro k A e
    unfold ab_chk at e
    split at e
    · next h => cases h
    · next h =>
      cases h
      simp only [Bool.and_eq_true, beq_iff_eq, Nat.blt_eq] at e
      obtain ⟨⟨⟨rfl, rfl⟩, h1, h2⟩, ⟨h3, h4⟩, h5⟩ := e
      refine ⟨⟨rfl, rfl, h1, fun j hj => ?_⟩, ih _ _ h5⟩
      have h6 := ab_all_el h3 h4 j
      rw [hF _ j (by rw [h2]; exact hj)]
      simp only [ab_has, Bool.and_eq_true, Nat.ble_eq] at h6
      exact h6
    · next h =>
      cases h
      simp only [Bool.and_eq_true, beq_iff_eq] at e
      obtain ⟨⟨⟨rfl, rfl⟩, h1⟩, ⟨h3, h4⟩, h5⟩ := e
      refine ⟨⟨rfl, rfl, h1, fun j hj => ?_⟩, ih _ _ h5⟩
      exact ab_sub2_ok (ab_all_el h3 h4 j) (ab_im_top _)
    · next h =>
      cases h
      simp only [Bool.and_eq_true, beq_iff_eq] at e
      obtain ⟨⟨rfl, h1⟩, h5⟩ := e
      exact ⟨⟨rfl, ab_vcks_ok h1⟩, ih _ _ h5⟩
    · cases e
theorem ab_freC {f : Nat → Nat → Int32} {g9 : Nat → Nat → Int64} (hF : fr_ok vlC f) {A : List ab_C} (e : ab_chk vlC 0 shC A = true) (g : Nat) : ab_all2 (ab_gc g) A (gC f g9) := by
  rw [← gC_eq]
  exact ab_chk_ok hF _ _ _ e
theorem ab_freM {f : Nat → Nat → Int32} {g9 : Nat → Nat → Int64} (hF : fr_ok vlM f) {A : List ab_C} (e : ab_chk vlM 0 shM A = true) (g : Nat) : ab_all2 (ab_gc g) A (gM f g9) := by
  rw [← gM_eq]
  exact ab_chk_ok hF _ _ _ e
/-- the answer t (0 a number, 2 a long) a -/
def ab_is (es : List ab_E) (jt : List (List (Nat × Nat))) (F d j : Nat) (as : List ab_V) (G : ab_G) (H : List ab_C) (t a : Nat) : Bool := match ab_run es jt F d j as G H with
  | some ([v], _, H') => (v.1 == t && (v.2.1 == a && v.2.2 == a)) && H'.length == H.length
  | _ => false
theorem ab_is_ok {es : List ab_E} {jt : List (List (Nat × Nat))} {F d j : Nat} {as : List ab_V} {G : ab_G} {H : List ab_C} {t a g : Nat} {as' : List Value} {h : pv_H} (hv : ∀ e ∈ es, ab_val e) (e : ab_is es jt F d j as G H t a = true) (hG : G.1 ≤ g ∧ g ≤ G.2) (h1 : ab_all2 (ab_gv g) as as') (h2 : ab_all2 (ab_gc g) H h) : wR d j as' h (fun v h' => (∃ w, v = some w ∧ ab_gv g (t, a, a) w) ∧ h'.length = h.length) := by
  unfold ab_is at e
  split at e
  · next v G' H' hr =>
    simp only [Bool.and_eq_true, beq_iff_eq] at e
    refine wR_mono ?_ (ab_run_ok hv d j as G H [v] G' H' hr g as' h hG h1 h2)
    intro w h' ⟨q1, q2, q3⟩
    cases w with
    | none => exact q1.elim
    | some w =>
      refine ⟨⟨w, rfl, ?_⟩, ?_⟩
      · have : v = (t, a, a) := Prod.ext e.1.1 (Prod.ext e.1.2.1 e.1.2.2)
        rw [← this]
        exact q1.1
      · rw [← ab2_len q3, ← ab2_len h2]
        exact e.2
  · cases e
theorem ab_is_int {es : List ab_E} {jt : List (List (Nat × Nat))} {F d j : Nat} {as : List ab_V} {G : ab_G} {H : List ab_C} {g : Nat} {as' : List Value} {h : pv_H} (x : Int32) (hv : ∀ e ∈ es, ab_val e) (e : ab_is es jt F d j as G H 0 (ab_n x) = true) (hG : G.1 ≤ g ∧ g ≤ G.2) (h1 : ab_all2 (ab_gv g) as as') (h2 : ab_all2 (ab_gc g) H h) : wR d j as' h (fun v h' => v = some (.int x) ∧ h'.length = h.length) := by
  refine wR_mono ?_ (ab_is_ok hv e hG h1 h2)
  intro v h' ⟨⟨w, q1, y, q2, q3⟩, q4⟩
  refine ⟨?_, q4⟩
  unfold ab_in at q3
  have : y = x := ab_eqn.mpr (Nat.le_antisymm q3.2 q3.1)
  rw [q1, q2, this]
theorem ab_is_long {es : List ab_E} {jt : List (List (Nat × Nat))} {F d j : Nat} {as : List ab_V} {G : ab_G} {H : List ab_C} {g : Nat} {as' : List Value} {h : pv_H} (x : Int64) (hv : ∀ e ∈ es, ab_val e) (e : ab_is es jt F d j as G H 2 (ab_m x) = true) (hG : G.1 ≤ g ∧ g ≤ G.2) (h1 : ab_all2 (ab_gv g) as as') (h2 : ab_all2 (ab_gc g) H h) : wR d j as' h (fun v h' => v = some (.long x) ∧ h'.length = h.length) := by
  refine wR_mono ?_ (ab_is_ok hv e hG h1 h2)
  intro v h' ⟨⟨w, q1, y, q2, q3⟩, q4⟩
  refine ⟨?_, q4⟩
  unfold ab_im at q3
  have e1 : ab_m y = ab_m x := Nat.le_antisymm q3.2 q3.1
  have : y = x := by rw [← ab_j_m y, ← ab_j_m x, e1]
  rw [q1, q2, this]
