/-! calls that are known -/
def ab_tl (H : List ab_C) : Bool := H.all (fun c => match c with
  | .inl _ => true
  | .inr (_, fs) => fs.all (fun a => !(a.1 == 1)))
theorem ab_gv_tl {g g' : Nat} {a : ab_V} {v : Value} (e : (a.1 == 1) = false) (h : ab_gv g a v) : ab_gv g' a v := by
  obtain ⟨t, p, q⟩ := a
  match t, e, h with
  | 0, _, h => exact h
  | 2, _, h => exact h
  | 3, _, h => exact h
  | t + 4, _, h => exact h
theorem ab_all_tl {g g' : Nat} : ∀ {as : List ab_V} {vs : List Value}, (as.all (fun a => !(a.1 == 1))) = true → ab_all2 (ab_gv g) as vs → ab_all2 (ab_gv g') as vs
  | [], _, _, h => by rw [ab2_nil h]; trivial
  | a :: as, [], _, h => h.elim
  | a :: as, v :: vs, e, h => by
    simp only [List.all_cons, Bool.and_eq_true, Bool.not_eq_true'] at e
    exact ⟨ab_gv_tl e.1 h.1, ab_all_tl e.2 h.2⟩
theorem ab_tl_ok {g g' : Nat} : ∀ {H : List ab_C} {h : pv_H}, ab_tl H = true → ab_all2 (ab_gc g) H h → ab_all2 (ab_gc g') H h
  | [], _, _, h => by rw [ab2_nil h]; trivial
  | c :: H, [], _, h => h.elim
  | c :: H, e :: hh, hc, h => by
    unfold ab_tl at hc
    rw [List.all_cons, Bool.and_eq_true] at hc
    refine ⟨?_, ab_tl_ok hc.2 h.2⟩
    have h1 := h.1
    match c, e, hc.1, h1 with
    | .inl (t, n, df, es), .inl (u, m, .inl f), _, h1 => exact h1
    | .inl (t, n, df, es), .inl (u, m, .inr (.inl f)), _, h1 => exact h1
    | .inl (t, n, df, es), .inl (u, m, .inr (.inr f)), _, h1 => exact h1.elim
    | .inl (t, n, df, es), .inr o, _, h1 => exact h1.elim
    | .inr (ci, as), .inr (cj, fs), hq, h1 => exact ⟨h1.1, ab_all_tl hq h1.2⟩
    | .inr (ci, as), .inl (u, m, .inl f), _, h1 => exact h1.elim
    | .inr (ci, as), .inl (u, m, .inr (.inl f)), _, h1 => exact h1.elim
    | .inr (ci, as), .inl (u, m, .inr (.inr f)), _, h1 => exact h1.elim
def ab_sup (es : List ab_E) (jt : List (List (Nat × Nat))) (F d j : Nat) (as : List ab_V) (G : ab_G) (H : List ab_C) (v : List ab_V) (H' : List ab_C) : Bool := match ab_run es jt F d j as G H with
  | some (v1, G1, H1) => ab_le2 (ab_lev G1) v1 v && ab_le2 (ab_lec G1) H1 H'
  | none => false
theorem ab_sup_ok {es : List ab_E} {jt : List (List (Nat × Nat))} {F d j : Nat} {as : List ab_V} {G : ab_G} {H : List ab_C} {v : List ab_V} {H' : List ab_C} {g g' : Nat} {as' : List Value} {h : pv_H} (hv : ∀ e ∈ es, ab_val e) (e : ab_sup es jt F d j as G H v H' = true) (hG : G.1 ≤ g' ∧ g' ≤ G.2) (h1 : ab_all2 (ab_gv g') as as') (h2 : ab_all2 (ab_gc g') H h) : wR d j as' h (fun w h1 => ab_all2 (ab_gv g) v w.toList ∧ ab_all2 (ab_gc g) H' h1) := by
  unfold ab_sup at e
  split at e
  · next v1 G1 H1 hr =>
    simp only [Bool.and_eq_true] at e
    refine wR_mono ?_ (ab_run_ok hv d j as G H v1 G1 H1 hr g' as' h hG h1 h2)
    intro w h' ⟨q1, q2, q3⟩
    exact ⟨ab_le2_ok (R1 := ab_gv g') (R2 := ab_gv g) (fun a b v e1 e2 => ab_lev_ok q2 e1 e2 g) e.1 q1, ab_le2_ok (R1 := ab_gc g') (R2 := ab_gc g) (fun a b v e1 e2 => ab_lec_ok q2 e1 e2 g) e.2 q3⟩
  · cases e
/-- a known call, by its ways -/
theorem ab_val_of {es : List ab_E} {jt : List (List (Nat × Nat))} {F d j : Nat} {as0 : List ab_V} {H : List ab_C} {v : List ab_V} {H' : List ab_C} (L : List (ab_G × List ab_V)) (hv : ∀ e ∈ es, ab_val e) (ht : ab_tl H = true) (e : (L.all fun q => ab_sup es jt F d j q.2 q.1 H v H') = true) (hc : ∀ g as', ab_all2 (ab_gv g) as0 as' → ∃ q ∈ L, ∃ g', (q.1.1 ≤ g' ∧ g' ≤ q.1.2) ∧ ab_all2 (ab_gv g') q.2 as') : ab_val (d, j, as0, H, v, H') := by
  intro g as' hh h1 h2
  obtain ⟨q, hq, g', hG, h3⟩ := hc g as' h1
  exact ab_sup_ok hv (List.all_eq_true.mp e q hq) hG h3 (ab_tl_ok ht h2)
/-- one way: the last but m of the numbers is the round's number -/
theorem ab_ent1 {g : Nat} {as0 : List ab_V} {as' : List Value} (h : ab_all2 (ab_gv g) as0 as') (ht : (as0.all (fun a => !(a.1 == 1))) = true) : ∀ (i : Nat) (lo hi : Nat), as0[i]? = some (0, lo, hi) → ∃ g', (lo ≤ g' ∧ g' ≤ hi) ∧ ab_all2 (ab_gv g') (as0.set i (1, 0, 0)) as' := by
  intro i lo hi hi0
  obtain ⟨v, hv1, x, hv2, hv3⟩ := ab2_get h hi0
  refine ⟨ab_n x, hv3, ?_⟩
  have h8 : ab_gv (ab_n x) (1, 0, 0) v := ⟨x, hv2, (Nat.add_zero _).symm⟩
  have h9 := ab2_set (i := i) (a := (1, 0, 0)) (b := v) (ab_all_tl (g' := ab_n x) ht h) h8
  have e : as'.set i v = as' := by
    apply List.ext_getElem?
    intro j
    by_cases hj : i = j
    · subst hj
      rw [List.getElem?_set_self (List.getElem?_eq_some_iff.mp hv1).1, hv1]
    · rw [List.getElem?_set_ne hj]
  rw [e] at h9
  exact h9
theorem ab_cov {as0 : List ab_V} (i lo c : Nat) (hi0 : as0[i]? = some (0, lo, lo + c)) (ht : (as0.all (fun a => !(a.1 == 1))) = true) (g : Nat) (as' : List Value) (h : ab_all2 (ab_gv g) as0 as') : ∃ q ∈ (List.range (c + 1)).map (fun n => (((0, 0) : ab_G), as0.set i (0, lo + n, lo + n))), ∃ g', (q.1.1 ≤ g' ∧ g' ≤ q.1.2) ∧ ab_all2 (ab_gv g') q.2 as' := by
  obtain ⟨v, hv1, x, hv2, hv3, hv4⟩ := ab2_get h hi0
  simp only at hv3 hv4
  refine ⟨_, List.mem_map.mpr ⟨ab_n x - lo, List.mem_range.mpr (by omega), rfl⟩, 0, ⟨Nat.le_refl _, Nat.le_refl _⟩, ?_⟩
  have h8 : ab_gv 0 (0, lo + (ab_n x - lo), lo + (ab_n x - lo)) v := ⟨x, hv2, by unfold ab_in; simp only; omega⟩
  have h9 := ab2_set (i := i) (a := (0, lo + (ab_n x - lo), lo + (ab_n x - lo))) (b := v) (ab_all_tl (g' := 0) ht h) h8
  have e : as'.set i v = as' := by
    apply List.ext_getElem?
    intro j
    by_cases hj : i = j
    · subst hj
      rw [List.getElem?_set_self (List.getElem?_eq_some_iff.mp hv1).1, hv1]
    · rw [List.getElem?_set_ne hj]
  rw [e] at h9
  exact h9
theorem ab_cov1 {as0 : List ab_V} (i lo hi : Nat) (hi0 : as0[i]? = some (0, lo, hi)) (ht : (as0.all (fun a => !(a.1 == 1))) = true) (g : Nat) (as' : List Value) (h : ab_all2 (ab_gv g) as0 as') : ∃ q ∈ [(((lo, hi) : ab_G), as0.set i (1, 0, 0))], ∃ g', (q.1.1 ≤ g' ∧ g' ≤ q.1.2) ∧ ab_all2 (ab_gv g') q.2 as' := by
  obtain ⟨g', h1, h2⟩ := ab_ent1 h ht i lo hi hi0
  exact ⟨_, List.mem_singleton_self _, g', h1, h2⟩
theorem eqv_lng {jC jM FC FM : Nat} {esC esM : List ab_E} {asC asM : List ab_V} {GC GM : ab_G} {HC HM : List ab_C} {g1 g2 : Nat} {as' : List Value} (x : Int64) (hC : ∀ e ∈ esC, ab_val e) (hM : ∀ e ∈ esM, ab_val e) (cC : ab_chk vlC 0 shC HC = true) (cM : ab_chk vlM 0 shM HM = true) (eC : ab_is esC ab_jt FC 12 jC asC GC HC 2 (ab_m x) = true) (eM : ab_is esM ab_jt FM 12 jM asM GM HM 2 (ab_m x) = true) (k1 : GC.1 ≤ g1 ∧ g1 ≤ GC.2) (h1 : ab_all2 (ab_gv g1) asC as') (k2 : GM.1 ≤ g2 ∧ g2 ≤ GM.2) (h2 : ab_all2 (ab_gv g2) asM as') : eqvL jC jM as' :=
  ⟨x, fun f g hF => ab_is_long x hC eC k1 h1 (ab_freC hF cC g1), fun f g hF => ab_is_long x hM eM k2 h2 (ab_freM hF cM g2)⟩
theorem eqv_itg {jC jM FC FM : Nat} {esC esM : List ab_E} {asC asM : List ab_V} {GC GM : ab_G} {HC HM : List ab_C} {g1 g2 : Nat} {as' : List Value} (x : Int32) (hC : ∀ e ∈ esC, ab_val e) (hM : ∀ e ∈ esM, ab_val e) (cC : ab_chk vlC 0 shC HC = true) (cM : ab_chk vlM 0 shM HM = true) (eC : ab_is esC ab_jt FC 12 jC asC GC HC 0 (ab_n x) = true) (eM : ab_is esM ab_jt FM 12 jM asM GM HM 0 (ab_n x) = true) (k1 : GC.1 ≤ g1 ∧ g1 ≤ GC.2) (h1 : ab_all2 (ab_gv g1) asC as') (k2 : GM.1 ≤ g2 ∧ g2 ≤ GM.2) (h2 : ab_all2 (ab_gv g2) asM as') : eqv jC jM as' :=
  ⟨x, fun f g hF => ab_is_int x hC eC k1 h1 (ab_freC hF cC g1), fun f g hF => ab_is_int x hM eM k2 h2 (ab_freM hF cM g2)⟩
theorem ab_z0 : (0 : Nat) ≤ 0 ∧ (0 : Nat) ≤ 0 := ⟨Nat.le_refl _, Nat.le_refl _⟩
theorem ab_one1 {e0 : ab_E} (h : ab_val e0) : ∀ e ∈ [e0], ab_val e := fun e he => by rw [List.mem_singleton] at he; rw [he]; exact h
