theorem pv_run_dep {pr : List pv_M} {F : Nat} : ∀ (d j : Nat) (as : List Value) (h : pv_H) (r : Option Value × pv_H), pv_run pr F d j as h = some r → pv_run pr F (d + 1) j as h = some r := by
  intro d
  induction d with
  | zero => intro j as h r hx; cases hx
  | succ d ih =>
    intro j as h r hx
    have hx' := hx
    unfold pv_run at hx ⊢
    split at hx
    · next M hj =>
      split at hx
      · next hcat =>
        rw [if_pos hcat]
        exact pv_go_mono ih _ _ _ _ _ _ _ (Nat.le_refl _) hx
      · cases hx
    · cases hx
theorem wR_dep {d d' j : Nat} {as : List Value} {h : pv_H} {Q : Option Value → pv_H → Prop} (hd : d ≤ d') (k : wR d j as h Q) : wR d' j as h Q := by
  obtain ⟨F, v, h', h1, h2⟩ := k
  refine ⟨F, v, h', ?_, h2⟩
  have : ∀ n, pv_run pv_prog F (d + n) j as h = some (v, h') := by
    intro n
    induction n with
    | zero => exact h1
    | succ n ih => exact pv_run_dep _ _ _ _ _ ih
  have h3 := this (d' - d)
  rw [show d + (d' - d) = d' by omega] at h3
  exact h3
def ab_args (n : Nat) : List ab_V → ab_L
  | [] => []
  | a :: as => (n, a) :: ab_args (n + ab_ct a) as
theorem ab_args_ok {g : Nat} : ∀ {as : List ab_V} {vs : List Value} (n : Nat), ab_all2 (ab_gv g) as vs → ab_gl g (ab_args n as) (lv_args n vs)
  | [], _, n, _ => fun i a h => by cases h
  | a :: as, v :: vs, n, h => by
    intro i b hb
    have e : lv_args n (v :: vs) = (n, v) :: lv_args (n + v.category) vs := by
      have e0 : lv_args n (v :: vs) = (n, v) :: lv_args (if v.category = 2 then n + 2 else n + 1) vs := rfl
      rw [e0]
      congr 2
      cases v <;> rfl
    unfold ab_args at hb
    rw [ab_get_cons] at hb
    rw [e]
    unfold pv_get
    by_cases hi : n = i
    · rw [if_pos hi] at hb ⊢
      cases hb
      exact ⟨v, rfl, h.1⟩
    · rw [if_neg hi] at hb ⊢
      rw [ab_ct_ok h.1]
      exact ab_args_ok _ h.2 i b hb
  | _ :: _, [], _, h => h.elim
/-- what is known of one is known of the other -/
def ab_sub2 (p q : Nat × Nat) : Bool := Nat.ble q.1 p.1 && Nat.ble p.2 q.2
def ab_lev (G : ab_G) (a b : ab_V) : Bool := match b with
  | (0, lo, hi) => (match ab_iv G a with
    | some p => ab_sub2 p (lo, hi)
    | none => false)
  | (1, _, _) => false
  | (2, lo, hi) => (match ab_lv a with
    | some p => ab_sub2 p (lo, hi)
    | none => false)
  | (3, k, _) => a.1 == 3 && a.2.1 == k
  | _ => Nat.ble 4 a.1
theorem ab_lev_ok {g : Nat} {G : ab_G} {a b : ab_V} {v : Value} (hG : G.1 ≤ g ∧ g ≤ G.2) (e : ab_lev G a b = true) (h : ab_gv g a v) (g' : Nat) : ab_gv g' b v := by
  obtain ⟨t, p, q⟩ := b
  match t, e with
  | 0, e =>
    unfold ab_lev at e
    simp only [] at e
    split at e
    · next r hr =>
      simp only [ab_sub2, Bool.and_eq_true, Nat.ble_eq] at e
      obtain ⟨x, h1, h2⟩ := ab_iv_ok hG h hr
      unfold ab_in at h2
      exact ⟨x, h1, by unfold ab_in; simp only []; omega⟩
    · cases e
  | 1, e => cases e
  | 2, e =>
    unfold ab_lev at e
    simp only [] at e
    split at e
    · next r hr =>
      simp only [ab_sub2, Bool.and_eq_true, Nat.ble_eq] at e
      obtain ⟨x, h1, h2⟩ := ab_lv_ok h hr
      unfold ab_im at h2
      exact ⟨x, h1, by unfold ab_im; simp only []; omega⟩
    · cases e
  | 3, e =>
    have e' : (a.1 == 3 && a.2.1 == p) = true := e
    simp only [Bool.and_eq_true, beq_iff_eq] at e'
    obtain ⟨t, p', q'⟩ := a
    simp only at e'
    obtain ⟨rfl, rfl⟩ := e'
    exact h
  | t + 4, e =>
    have e' : Nat.ble 4 a.1 = true := e
    rw [Nat.ble_eq] at e'
    obtain ⟨u, p', q'⟩ := a
    obtain ⟨w, rfl⟩ : ∃ w, u = w + 4 := ⟨u - 4, by simp only at e'; omega⟩
    exact h
def ab_le2 {α : Type} (f : α → α → Bool) : List α → List α → Bool
  | [], [] => true
  | a :: as, b :: bs => f a b && ab_le2 f as bs
  | _, _ => false
theorem ab_le2_ok {α β : Type} {R1 R2 : α → β → Prop} {f : α → α → Bool} (hf : ∀ a b v, f a b = true → R1 a v → R2 b v) : ∀ {as bs : List α} {vs : List β}, ab_le2 f as bs = true → ab_all2 R1 as vs → ab_all2 R2 bs vs
  | [], [], _, _, h => by rw [ab2_nil h]; trivial
  | a :: as, b :: bs, [], _, h => h.elim
  | a :: as, b :: bs, v :: vs, e, h => by
    unfold ab_le2 at e
    simp only [Bool.and_eq_true] at e
    exact ⟨hf a b v e.1 h.1, ab_le2_ok hf e.2 h.2⟩
  | [], _ :: _, _, e, _ => by cases e
  | _ :: _, [], _, e, _ => by cases e
def ab_les (n : Nat) (d1 d2 : Nat × Nat) : Nat → List (Nat × Nat) → List (Nat × Nat) → Bool
  | k, [], bs => bs.all (fun b => ab_sub2 d1 b) && (Nat.ble n (k + bs.length) || ab_sub2 d1 d2)
  | k, a :: as, bs => match bs with
    | [] => (a :: as).all (fun a => ab_sub2 a d2) && (Nat.ble n (k + (a :: as).length) || ab_sub2 d1 d2)
    | b :: bs => ab_sub2 a b && ab_les n d1 d2 (k + 1) as bs
theorem ab_sub2_ok {p q : Nat × Nat} {X : Nat} (e : ab_sub2 p q = true) (h : p.1 ≤ X ∧ X ≤ p.2) : q.1 ≤ X ∧ X ≤ q.2 := by
  simp only [ab_sub2, Bool.and_eq_true, Nat.ble_eq] at e
  omega
theorem ab_les_ok {n : Nat} {d1 d2 : Nat × Nat} {X : Nat} : ∀ (e1 e2 : List (Nat × Nat)) (k m : Nat), ab_les n d1 d2 k e1 e2 = true → k + m < n → ((ab_el d1 e1 m).1 ≤ X ∧ X ≤ (ab_el d1 e1 m).2) → (ab_el d2 e2 m).1 ≤ X ∧ X ≤ (ab_el d2 e2 m).2
  | [], bs, k, m, e, hm, h => by
    unfold ab_les at e
    simp only [Bool.and_eq_true, Bool.or_eq_true, Nat.ble_eq] at e
    simp only [ab_el, List.getElem?_nil] at h ⊢
    cases hb : bs[m]? with
    | none =>
      have hl : bs.length ≤ m := List.getElem?_eq_none_iff.mp hb
      rcases e.2 with q | q
      · omega
      · exact ab_sub2_ok q h
    | some b => exact ab_sub2_ok (List.all_eq_true.mp e.1 b (List.mem_of_getElem? hb)) h
  | a :: as, [], k, m, e, hm, h => by
    unfold ab_les at e
    simp only [Bool.and_eq_true, Bool.or_eq_true, Nat.ble_eq] at e
    simp only [ab_el, List.getElem?_nil] at h ⊢
    cases hb : (a :: as)[m]? with
    | none =>
      have hl : (a :: as).length ≤ m := List.getElem?_eq_none_iff.mp hb
      rw [hb] at h
      rcases e.2 with q | q
      · omega
      · exact ab_sub2_ok q h
    | some b =>
      rw [hb] at h
      exact ab_sub2_ok (List.all_eq_true.mp e.1 b (List.mem_of_getElem? hb)) h
  | a :: as, b :: bs, k, 0, e, hm, h => by
    unfold ab_les at e
    simp only [Bool.and_eq_true] at e
    simp only [ab_el, List.getElem?_cons_zero] at h ⊢
    exact ab_sub2_ok e.1 h
  | a :: as, b :: bs, k, m + 1, e, hm, h => by
    unfold ab_les at e
    simp only [Bool.and_eq_true] at e
    have ih := ab_les_ok (X := X) as bs (k + 1) m e.2 (by omega)
    simp only [ab_el, List.getElem?_cons_succ] at h ih ⊢
    exact ih h
def ab_lec (G : ab_G) (a b : ab_C) : Bool := match a, b with
  | .inl (t, n, d1, e1), .inl (t', n', d2, e2) => (t == t' && n == n') && ab_les n d1 d2 0 e1 e2
  | .inr (ci, as), .inr (ci', bs) => ci == ci' && ab_le2 (ab_lev G) as bs
  | _, _ => false
theorem ab_lec_ok {g : Nat} {G : ab_G} {a b : ab_C} {e : va_E} (hG : G.1 ≤ g ∧ g ≤ G.2) (hc : ab_lec G a b = true) (h : ab_gc g a e) (g' : Nat) : ab_gc g' b e := by
  match a, b, hc with
  | .inl (t, n, d1, e1), .inl (t', n', d2, e2), hc =>
    have hc' : ((t == t' && n == n') && ab_les n d1 d2 0 e1 e2) = true := hc
    simp only [Bool.and_eq_true, beq_iff_eq] at hc'
    obtain ⟨⟨rfl, rfl⟩, hl⟩ := hc'
    match e, h with
    | .inl (u, m, .inl f), h =>
      obtain ⟨rfl, rfl, k1, k2⟩ := h
      exact ⟨rfl, rfl, k1, fun j hj => ab_les_ok e1 e2 0 j hl (by omega) (k2 j hj)⟩
    | .inl (u, m, .inr (.inl f)), h =>
      obtain ⟨rfl, rfl, k1, k2⟩ := h
      exact ⟨rfl, rfl, k1, fun j hj => ab_les_ok e1 e2 0 j hl (by omega) (k2 j hj)⟩
    | .inl (u, m, .inr (.inr f)), h => exact h.elim
    | .inr o, h => exact h.elim
  | .inr (ci, as), .inr (ci', bs), hc =>
    have hc' : (ci == ci' && ab_le2 (ab_lev G) as bs) = true := hc
    simp only [Bool.and_eq_true, beq_iff_eq] at hc'
    obtain ⟨rfl, hl⟩ := hc'
    match e, h with
    | .inr (cj, fs), h => exact ⟨h.1, ab_le2_ok (R1 := ab_gv g) (R2 := ab_gv g') (fun a b v e1 e2 => ab_lev_ok hG e1 e2 g') hl h.2⟩
    | .inl (u, m, .inl f), h => exact h.elim
    | .inl (u, m, .inr (.inl f)), h => exact h.elim
    | .inl (u, m, .inr (.inr f)), h => exact h.elim
/-- calls that are known: depth, method, numbers and cells before, answer and cells behind -/
abbrev ab_E : Type := Nat × Nat × List ab_V × List ab_C × List ab_V × List ab_C
def ab_val (e : ab_E) : Prop := ∀ g as hh, ab_all2 (ab_gv g) e.2.2.1 as → ab_all2 (ab_gc g) e.2.2.2.1 hh → wR e.1 e.2.1 as hh (fun w h1 => ab_all2 (ab_gv g) e.2.2.2.2.1 w.toList ∧ ab_all2 (ab_gc g) e.2.2.2.2.2 h1)
def ab_orc (es : List ab_E) (d j : Nat) (as : List ab_V) (G : ab_G) (h : List ab_C) : Option (List ab_V × ab_G × List ab_C) := match es with
  | [] => none
  | e :: es => bif (e.2.1 == j && Nat.ble e.1 d) && (ab_le2 (ab_lev G) as e.2.2.1 && ab_le2 (ab_lec G) h e.2.2.2.1) then some (e.2.2.2.2.1, G, e.2.2.2.2.2) else ab_orc es d j as G h
theorem ab_orc_ok {d : Nat} : ∀ {es : List ab_E}, (∀ e ∈ es, ab_val e) → ab_cl d (ab_orc es d)
  | [], _ => fun _ _ _ _ _ _ _ e => by cases e
  | e :: es, hv => by
    intro j as G h v G' h' hx g as' hh hG h1 h2
    unfold ab_orc at hx
    cases hc : ((e.2.1 == j && Nat.ble e.1 d) && (ab_le2 (ab_lev G) as e.2.2.1 && ab_le2 (ab_lec G) h e.2.2.2.1)) with
    | false =>
      rw [hc, cond_false] at hx
      exact ab_orc_ok (fun e he => hv e (List.mem_cons_of_mem _ he)) j as G h v G' h' hx g as' hh hG h1 h2
    | true =>
      rw [hc, cond_true] at hx
      cases hx
      simp only [Bool.and_eq_true, beq_iff_eq, Nat.ble_eq] at hc
      have k := hv e List.mem_cons_self g as' hh (ab_le2_ok (R1 := ab_gv g) (R2 := ab_gv g) (fun a b v e1 e2 => ab_lev_ok hG e1 e2 g) hc.2.1 h1) (ab_le2_ok (R1 := ab_gc g) (R2 := ab_gc g) (fun a b v e1 e2 => ab_lec_ok hG e1 e2 g) hc.2.2 h2)
      rw [hc.1.1] at k
      exact wR_mono (fun w h1 q => ⟨q.1, hG, q.2⟩) (wR_dep hc.1.2 k)
def ab_non : List ab_O → Option (List ab_S)
  | [] => some []
  | (none, s) :: os => match ab_non os with
    | some ss => some ((s.1, [], s.2.2.1, s.2.2.2) :: ss)
    | none => none
  | _ :: _ => none
theorem ab_non_ok : ∀ {os : List ab_O} {ss : List ab_S} {o : ab_O}, ab_non os = some ss → o ∈ os → ∃ s, o = (none, s) ∧ (s.1, [], s.2.2.1, s.2.2.2) ∈ ss
  | [], _, _, _, h => by cases h
  | (none, s) :: os, ss, o, e, h => by
    unfold ab_non at e
    split at e
    · next ss' e1 =>
      cases e
      rcases List.mem_cons.mp h with q | q
      · exact ⟨s, q, List.mem_cons_self⟩
      · obtain ⟨s', h1, h2⟩ := ab_non_ok e1 q
        exact ⟨s', h1, List.mem_cons_of_mem _ h2⟩
    · cases e
  | (some _, _) :: _, _, _, e, _ => by cases e
def ab_run (es : List ab_E) (jt : List (List (Nat × Nat))) (F : Nat) : Nat → ab_K
  | 0, _, _, _, _ => none
  | d + 1, j, as, G, h => match ab_orc es (d + 1) j as G h with
    | some r => some r
    | none => match pv_prog[j]? with
      | none => none
      | some M => bif Nat.ble ((as.map ab_ct).sum) M.2.2.1 then (match ab_go (ab_run es jt F d) M.2.2.2.2 (match jt[j]? with
          | some l => l
          | none => []) F [] 0 (G, ab_args 0 as, [], h) with
        | none => none
        | some os => match ab_non os with
          | none => none
          | some ss => match ab_hsl ss with
            | none => none
            | some s => some (s.2.2.1, s.1, s.2.2.2)) else none
theorem ab_run_ok {es : List ab_E} {jt : List (List (Nat × Nat))} {F : Nat} (hv : ∀ e ∈ es, ab_val e) : ∀ d, ab_cl d (ab_run es jt F d) := by
  intro d
  induction d with
  | zero => intro j as G h v G' h' e; cases e
  | succ d ih =>
    intro j as G h v G' h' e g as' hh hG h1 h2
    unfold ab_run at e
    split at e
    · next r hr =>
      cases e
      exact ab_orc_ok hv j as G h v G' h' hr g as' hh hG h1 h2
    · split at e
      · cases e
      · next M hM =>
        cases hc : Nat.ble ((as.map ab_ct).sum) M.2.2.1 with
        | false => rw [hc] at e; cases e
        | true =>
          rw [hc, cond_true] at e
          rw [Nat.ble_eq] at hc
          split at e
          · cases e
          · next os hgo =>
            split at e
            · cases e
            · next ss hss =>
              split at e
              · cases e
              · next s hs =>
                cases e
                refine wR_in hM (by rw [ab_ct_sum h1]; exact hc) (ab_go_ok ih F [] 0 _ os hgo g _ _ hh ⟨hG, ab_args_ok 0 h1, trivial, h2⟩ (fun o ho => ?_))
                obtain ⟨s', e1, e2⟩ := ab_non_ok hss ho
                subst e1
                intro w h3 g1 g2 g3
                have k := ab_hsl_ok (g := g) (lo := []) (st := w.toList) (h := h3) hs e2 ⟨g1, (fun i a q => nomatch q : ab_gl g [] []), g2, g3⟩
                exact ⟨k.2.2.1, k.1, k.2.2.2⟩
