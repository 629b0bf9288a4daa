def ab_gv (g : Nat) (a : ab_V) (v : Value) : Prop := match a with
  | (0, lo, hi) => ∃ x, v = .int x ∧ ab_in (lo, hi) x
  | (1, e, _) => ∃ x, v = .int x ∧ ab_n x = g + e
  | (2, lo, hi) => ∃ x, v = .long x ∧ ab_im (lo, hi) x
  | (3, a, _) => v = .ref a
  | _ => v = .null
def ab_iv (G : ab_G) (a : ab_V) : Option (Nat × Nat) := match a with
  | (0, lo, hi) => some (lo, hi)
  | (1, e, _) => some (G.1 + e, G.2 + e)
  | _ => none
def ab_lv (a : ab_V) : Option (Nat × Nat) := match a with
  | (2, lo, hi) => some (lo, hi)
  | _ => none
def ab_rv (a : ab_V) : Option Nat := match a with
  | (3, k, _) => some k
  | _ => none
def ab_ct (a : ab_V) : Nat := bif a.1 == 2 then 2 else 1
def ab_all2 {α β : Type} (R : α → β → Prop) : List α → List β → Prop
  | [], [] => True
  | a :: as, b :: bs => R a b ∧ ab_all2 R as bs
  | _, _ => False
def ab_el (df : Nat × Nat) (es : List (Nat × Nat)) (j : Nat) : Nat × Nat := match es[j]? with
  | some e => e
  | none => df
def ab_gc (g : Nat) (c : ab_C) (e : va_E) : Prop := match c, e with
  | .inl (t, n, df, es), .inl (t', n', .inl f) => t' = t ∧ n' = n ∧ t < 3 ∧ ∀ j, j < n → ab_in (ab_el df es j) (f j)
  | .inl (t, n, df, es), .inl (t', n', .inr (.inl f)) => t' = t ∧ n' = n ∧ t = 3 ∧ ∀ j, j < n → ab_im (ab_el df es j) (f j)
  | .inr (ci, as), .inr (ci', fs) => ci' = ci ∧ ab_all2 (ab_gv g) as fs
  | _, _ => False
def ab_get : ab_L → Nat → Option ab_V
  | [], _ => none
  | (j, v) :: ls, i => bif j == i then some v else ab_get ls i
def ab_lg (ls : ab_L) (i : Nat) : Bool := match ab_get ls (i - 1) with
  | some a => a.1 == 2
  | none => false
def ab_set1 (ls : ab_L) (i : Nat) (v : ab_V) : ab_L := (i, v) :: ls.filter (fun q => !(q.1 == i) && !(q.1 + 1 == i && ab_lg ls i))
def ab_set2 (ls : ab_L) (i : Nat) (v : ab_V) : ab_L := (i, v) :: ls.filter (fun q => !(q.1 == i) && (!(q.1 == i + 1) && !(q.1 + 1 == i && ab_lg ls i)))
def ab_gl (g : Nat) (L : ab_L) (lo : pv_L) : Prop := ∀ i a, ab_get L i = some a → ∃ v, pv_get lo i = some v ∧ ab_gv g a v
def ab_gs (g : Nat) (s : ab_S) (lo : pv_L) (st : List Value) (h : pv_H) : Prop := (s.1.1 ≤ g ∧ g ≤ s.1.2) ∧ ab_gl g s.2.1 lo ∧ ab_all2 (ab_gv g) s.2.2.1 st ∧ ab_all2 (ab_gc g) s.2.2.2 h
section AB
variable {α β : Type} {R : α → β → Prop}
theorem ab2_len : ∀ {as : List α} {bs : List β}, ab_all2 R as bs → as.length = bs.length
  | [], [], _ => rfl
  | _ :: _, _ :: _, h => by simp only [List.length_cons]; rw [ab2_len h.2]
  | [], _ :: _, h => h.elim
  | _ :: _, [], h => h.elim
theorem ab2_get : ∀ {as : List α} {bs : List β} {i : Nat} {a : α}, ab_all2 R as bs → as[i]? = some a → ∃ b, bs[i]? = some b ∧ R a b
  | a :: as, b :: bs, 0, _, h, e => by cases e; exact ⟨b, rfl, h.1⟩
  | a :: as, b :: bs, i + 1, _, h, e => by
    simp only [List.getElem?_cons_succ] at e ⊢
    exact ab2_get h.2 e
  | [], [], _, _, _, e => by cases e
  | [], _ :: _, _, _, h, _ => h.elim
  | _ :: _, [], _, _, h, _ => h.elim
theorem ab2_set : ∀ {as : List α} {bs : List β} {i : Nat} {a : α} {b : β}, ab_all2 R as bs → R a b → ab_all2 R (as.set i a) (bs.set i b)
  | a :: as, b :: bs, 0, _, _, h, e => ⟨e, h.2⟩
  | a :: as, b :: bs, i + 1, _, _, h, e => ⟨h.1, ab2_set h.2 e⟩
  | [], [], _, _, _, _, _ => trivial
  | [], _ :: _, _, _, _, h, _ => h.elim
  | _ :: _, [], _, _, _, h, _ => h.elim
theorem ab2_drop : ∀ {as : List α} {bs : List β} (n : Nat), ab_all2 R as bs → ab_all2 R (as.drop n) (bs.drop n)
  | _, _, 0, h => h
  | _ :: _, _ :: _, n + 1, h => ab2_drop n h.2
  | [], [], _ + 1, _ => trivial
  | [], _ :: _, _, h => h.elim
  | _ :: _, [], _, h => h.elim
theorem ab2_app : ∀ {as as' : List α} {bs bs' : List β}, ab_all2 R as bs → ab_all2 R as' bs' → ab_all2 R (as ++ as') (bs ++ bs')
  | [], _, [], _, _, h => h
  | _ :: _, _, _ :: _, _, h, h' => ⟨h.1, ab2_app h.2 h'⟩
  | [], _, _ :: _, _, h, _ => h.elim
  | _ :: _, _, [], _, h, _ => h.elim
theorem ab2_take : ∀ {as : List α} {bs : List β} (n : Nat), ab_all2 R as bs → ab_all2 R (as.take n) (bs.take n)
  | _, _, 0, _ => trivial
  | _ :: _, _ :: _, n + 1, h => ⟨h.1, ab2_take n h.2⟩
  | [], [], _ + 1, _ => trivial
  | [], _ :: _, _, h => h.elim
  | _ :: _, [], _, h => h.elim
theorem ab2_rev : ∀ {as : List α} {bs : List β}, ab_all2 R as bs → ab_all2 R as.reverse bs.reverse
  | [], [], _ => trivial
  | a :: as, b :: bs, h => by
    simp only [List.reverse_cons]
    exact ab2_app (ab2_rev h.2) ⟨h.1, trivial⟩
  | [], _ :: _, h => h.elim
  | _ :: _, [], h => h.elim
theorem ab2_mono {R' : α → β → Prop} (hm : ∀ a b, R a b → R' a b) : ∀ {as : List α} {bs : List β}, ab_all2 R as bs → ab_all2 R' as bs
  | [], [], _ => trivial
  | _ :: _, _ :: _, h => ⟨hm _ _ h.1, ab2_mono hm h.2⟩
  | [], _ :: _, h => h.elim
  | _ :: _, [], h => h.elim
theorem ab2_nil {bs : List β} (h : ab_all2 R [] bs) : bs = [] := by
  cases bs with
  | nil => rfl
  | cons b bs => exact h.elim
theorem ab2_cons {a : α} {as : List α} {bs : List β} (h : ab_all2 R (a :: as) bs) : ∃ b r, bs = b :: r ∧ R a b ∧ ab_all2 R as r := by
  cases bs with
  | nil => exact h.elim
  | cons b bs => exact ⟨b, bs, rfl, h.1, h.2⟩
end AB
theorem ab_iv_ok {g : Nat} {G : ab_G} {a : ab_V} {v : Value} {p : Nat × Nat} (hG : G.1 ≤ g ∧ g ≤ G.2) (h : ab_gv g a v) (hp : ab_iv G a = some p) : ∃ x, v = .int x ∧ ab_in p x := by
  unfold ab_iv at hp
  split at hp
  · cases hp; exact h
  · cases hp
    obtain ⟨x, h1, h2⟩ := h
    exact ⟨x, h1, by unfold ab_in; simp only []; omega⟩
  · cases hp
theorem ab_lv_ok {g : Nat} {a : ab_V} {v : Value} {p : Nat × Nat} (h : ab_gv g a v) (hp : ab_lv a = some p) : ∃ x, v = .long x ∧ ab_im p x := by
  unfold ab_lv at hp
  split at hp
  · cases hp; exact h
  · cases hp
theorem ab_rv_ok {g : Nat} {a : ab_V} {v : Value} {k : Nat} (h : ab_gv g a v) (hp : ab_rv a = some k) : v = .ref k := by
  unfold ab_rv at hp
  split at hp
  · cases hp; exact h
  · cases hp
theorem ab_ct_ok {g : Nat} {a : ab_V} {v : Value} (h : ab_gv g a v) : v.category = ab_ct a := by
  obtain ⟨t, p, q⟩ := a
  match t with
  | 0 => obtain ⟨x, h1, _⟩ := h; rw [h1]; rfl
  | 1 => obtain ⟨x, h1, _⟩ := h; rw [h1]; rfl
  | 2 => obtain ⟨x, h1, _⟩ := h; rw [h1]; rfl
  | 3 => have h' : v = .ref p := h
         rw [h']; rfl
  | t + 4 => have h' : v = .null := h
             rw [h']; rfl
theorem ab_ct_sum {g : Nat} : ∀ {as : List ab_V} {st : List Value}, ab_all2 (ab_gv g) as st → pv_cat st = (as.map ab_ct).sum
  | [], [], _ => rfl
  | a :: as, v :: st, h => by
    have h1 := ab_ct_sum h.2
    have h2 : pv_cat (v :: st) = v.category + pv_cat st := by simp [pv_cat]
    have h3 : ((a :: as).map ab_ct).sum = ab_ct a + (as.map ab_ct).sum := by simp
    rw [h2, h3, h1, ab_ct_ok h.1]
  | [], _ :: _, h => h.elim
  | _ :: _, [], h => h.elim
theorem ab_get_cons {j i : Nat} {v : ab_V} {ls : ab_L} : ab_get ((j, v) :: ls) i = if j = i then some v else ab_get ls i := by
  show (bif j == i then some v else ab_get ls i) = _
  by_cases h : j = i
  · rw [if_pos h, show (j == i) = true from beq_iff_eq.mpr h]; rfl
  · rw [if_neg h, show (j == i) = false from beq_false_of_ne h]; rfl
theorem ab_get_filter {k : Nat → Bool} {i : Nat} {a : ab_V} : ∀ {ls : ab_L}, ab_get (ls.filter (fun q => k q.1)) i = some a → k i = true ∧ ab_get ls i = some a
  | [], h => by cases h
  | (j, v) :: ls, h => by
    by_cases hq : k j = true
    · rw [List.filter_cons_of_pos (by exact hq), ab_get_cons] at h
      rw [ab_get_cons]
      by_cases hj : j = i
      · rw [if_pos hj] at h ⊢
        exact ⟨hj ▸ hq, h⟩
      · rw [if_neg hj] at h ⊢
        exact ab_get_filter h
    · rw [List.filter_cons_of_neg (by exact hq)] at h
      have ih := ab_get_filter h
      rw [ab_get_cons]
      by_cases hj : j = i
      · exact absurd (hj ▸ ih.1) hq
      · rw [if_neg hj]
        exact ih
theorem pv_get_filter {p : Nat × Value → Bool} {i : Nat} {v : Value} (hp : p (i, v) = true) : ∀ {ls : pv_L}, pv_get ls i = some v → pv_get (ls.filter p) i = some v
  | [], h => by cases h
  | (j, w) :: ls, h => by
    unfold pv_get at h
    by_cases hj : j = i
    · rw [if_pos hj] at h
      cases h
      subst hj
      rw [List.filter_cons_of_pos hp]
      unfold pv_get
      rw [if_pos rfl]
    · rw [if_neg hj] at h
      by_cases hq : p (j, w) = true
      · rw [List.filter_cons_of_pos hq]
        unfold pv_get
        rw [if_neg hj]
        exact pv_get_filter hp h
      · rw [List.filter_cons_of_neg hq]
        exact pv_get_filter hp h
theorem ab_set_aux {g : Nat} {L : ab_L} {lo : pv_L} {i : Nat} {a : ab_V} {v : Value} {k : Nat → Bool} {p : Nat × Value → Bool} (hl : ab_gl g L lo) (hv : ab_gv g a v) (hp : ∀ j b w, j ≠ i → k j = true → ab_get L j = some b → ab_gv g b w → p (j, w) = true) : ab_gl g ((i, a) :: L.filter (fun q => k q.1)) ((i, v) :: lo.filter p) := by
  intro j b hb
  rw [ab_get_cons] at hb
  by_cases hj : i = j
  · rw [if_pos hj] at hb
    cases hb
    exact ⟨v, by unfold pv_get; rw [if_pos hj], hv⟩
  · rw [if_neg hj] at hb
    obtain ⟨h1, h2⟩ := ab_get_filter hb
    obtain ⟨w, h3, h4⟩ := hl j b h2
    refine ⟨w, ?_, h4⟩
    unfold pv_get
    rw [if_neg hj]
    exact pv_get_filter (hp j b w (fun q => hj q.symm) h1 h2 h4) h3
theorem ab_lg_no {g : Nat} {L : ab_L} {i j : Nat} {b : ab_V} {w : Value} (h1 : ab_get L j = some b) (h2 : ab_gv g b w) (hj : j + 1 = i) (hk : ab_lg L i = false) : (w.category == 2) = false := by
  unfold ab_lg at hk
  rw [show i - 1 = j by omega, h1] at hk
  have hk' : (b.1 == 2) = false := hk
  rw [ab_ct_ok h2]
  unfold ab_ct
  rw [hk']
  rfl
theorem ab_set1_ok {g : Nat} {L : ab_L} {lo : pv_L} {i : Nat} {a : ab_V} {v : Value} (hl : ab_gl g L lo) (hv : ab_gv g a v) : ab_gl g (ab_set1 L i a) (pv_set1 lo i v) := by
  refine ab_set_aux (k := fun j => !(j == i) && !(j + 1 == i && ab_lg L i)) hl hv (fun j b w hj hk h1 h2 => ?_)
  simp only [Bool.and_eq_true, Bool.not_eq_true', Bool.and_eq_false_iff] at hk ⊢
  refine ⟨hk.1, ?_⟩
  rcases hk.2 with h3 | h3
  · exact Or.inl h3
  · by_cases h4 : j + 1 = i
    · exact Or.inr (ab_lg_no h1 h2 h4 h3)
    · exact Or.inl (by simpa using h4)
theorem ab_set2_ok {g : Nat} {L : ab_L} {lo : pv_L} {i : Nat} {a : ab_V} {v : Value} (hl : ab_gl g L lo) (hv : ab_gv g a v) : ab_gl g (ab_set2 L i a) (pv_set2 lo i v) := by
  refine ab_set_aux (k := fun j => !(j == i) && (!(j == i + 1) && !(j + 1 == i && ab_lg L i))) hl hv (fun j b w hj hk h1 h2 => ?_)
  simp only [Bool.and_eq_true, Bool.not_eq_true', Bool.and_eq_false_iff] at hk ⊢
  refine ⟨hk.1, hk.2.1, ?_⟩
  rcases hk.2.2 with h3 | h3
  · exact Or.inl h3
  · by_cases h4 : j + 1 = i
    · exact Or.inr (ab_lg_no h1 h2 h4 h3)
    · exact Or.inl (by simpa using h4)
