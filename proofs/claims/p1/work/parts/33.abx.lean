/-! an instruction over bounds -/
def ab_kd (a : ab_V) : Nat := match a.1 with
  | 0 => 0 | 1 => 0 | 2 => 1 | 3 => 2 | _ => 3
theorem ab_kd_all {g : Nat} {a : ab_V} {v : Value} (h : ab_gv g a v) : (ab_kd a = 0 ∧ ∃ x, v = .int x) ∨ (ab_kd a = 1 ∧ ∃ x, v = .long x) ∨ (ab_kd a = 2 ∧ ∃ x, v = .ref x) ∨ ab_kd a = 3 := by
  obtain ⟨t, p, q⟩ := a
  match t, h with
  | 0, h => exact Or.inl ⟨rfl, h.choose, h.choose_spec.1⟩
  | 1, h => exact Or.inl ⟨rfl, h.choose, h.choose_spec.1⟩
  | 2, h => exact Or.inr (Or.inl ⟨rfl, h.choose, h.choose_spec.1⟩)
  | 3, h => exact Or.inr (Or.inr (Or.inl ⟨rfl, p, h⟩))
  | t + 4, h => exact Or.inr (Or.inr (Or.inr rfl))
theorem ab_kd0 {g : Nat} {a : ab_V} {v : Value} (h : ab_gv g a v) (k : ab_kd a = 0) : ∃ x, v = .int x := by
  rcases ab_kd_all h with q | q | q | q
  · exact q.2
  · exact absurd (k.symm.trans q.1) (by decide)
  · exact absurd (k.symm.trans q.1) (by decide)
  · exact absurd (k.symm.trans q) (by decide)
theorem ab_kd1 {g : Nat} {a : ab_V} {v : Value} (h : ab_gv g a v) (k : ab_kd a = 1) : ∃ x, v = .long x := by
  rcases ab_kd_all h with q | q | q | q
  · exact absurd (k.symm.trans q.1) (by decide)
  · exact q.2
  · exact absurd (k.symm.trans q.1) (by decide)
  · exact absurd (k.symm.trans q) (by decide)
theorem ab_kd2 {g : Nat} {a : ab_V} {v : Value} (h : ab_gv g a v) (k : ab_kd a = 2) : ∃ x, v = .ref x := by
  rcases ab_kd_all h with q | q | q | q
  · exact absurd (k.symm.trans q.1) (by decide)
  · exact absurd (k.symm.trans q.1) (by decide)
  · exact q.2
  · exact absurd (k.symm.trans q) (by decide)
abbrev ab_Q : Type := Option (List (Nat × ab_S))
def ab_psh (k : Nat) (s : ab_S) (a : ab_V) (r : List ab_V) : ab_Q := some [(k + 1, (s.1, s.2.1, a :: r, s.2.2.2))]
def ab_lod (s : ab_S) (i k t : Nat) : ab_Q := match ab_get s.2.1 i with
  | some a => bif ab_kd a == t && Nat.blt t 3 then ab_psh k s a s.2.2.1 else none
  | none => none
def ab_st1 (s : ab_S) (i k t : Nat) : ab_Q := match s.2.2.1 with
  | a :: r => bif ab_kd a == t then some [(k + 1, (s.1, ab_set1 s.2.1 i a, r, s.2.2.2))] else none
  | [] => none
def ab_st2 (s : ab_S) (i k : Nat) : ab_Q := match s.2.2.1 with
  | a :: r => bif ab_kd a == 1 then some [(k + 1, (s.1, ab_set2 s.2.1 i a, r, s.2.2.2))] else none
  | [] => none
def ab_i2 (F : Nat × Nat → Nat × Nat → Nat × Nat) (k : Nat) (s : ab_S) : ab_Q := match s.2.2.1 with
  | y :: x :: r => match ab_iv s.1 x, ab_iv s.1 y with
    | some p, some q => ab_psh k s (0, F p q) r
    | _, _ => none
  | _ => none
def ab_i1 (F : Nat × Nat → Nat × Nat) (t : Nat) (k : Nat) (s : ab_S) : ab_Q := match s.2.2.1 with
  | x :: r => match ab_iv s.1 x with
    | some p => ab_psh k s (t, F p) r
    | none => none
  | _ => none
def ab_l1 (F : Nat × Nat → Nat × Nat) (k : Nat) (s : ab_S) : ab_Q := match s.2.2.1 with
  | x :: r => match ab_lv x with
    | some p => ab_psh k s (0, F p) r
    | none => none
  | _ => none
def ab_l2 (F : Nat × Nat → Nat × Nat → Nat × Nat) (t : Nat) (k : Nat) (s : ab_S) : ab_Q := match s.2.2.1 with
  | y :: x :: r => match ab_lv x, ab_lv y with
    | some p, some q => ab_psh k s (t, F p q) r
    | _, _ => none
  | _ => none
def ab_ls (F : Nat × Nat → Nat × Nat → Nat × Nat) (k : Nat) (s : ab_S) : ab_Q := match s.2.2.1 with
  | y :: x :: r => match ab_lv x, ab_iv s.1 y with
    | some p, some q => ab_psh k s (2, F p q) r
    | _, _ => none
  | _ => none
/-- x < y, x ≤ y: what that says of the round's number -/
def ab_rlt (G : ab_G) (x y : ab_V) (p q : Nat × Nat) : ab_G :=
  ((bif y.1 == 1 then (bif Nat.ble G.1 (p.1 + 1 - y.2.1) then p.1 + 1 - y.2.1 else G.1) else G.1), (bif x.1 == 1 then (bif Nat.ble G.2 (q.2 - 1 - x.2.1) then G.2 else q.2 - 1 - x.2.1) else G.2))
def ab_rle (G : ab_G) (x y : ab_V) (p q : Nat × Nat) : ab_G :=
  ((bif y.1 == 1 then (bif Nat.ble G.1 (p.1 - y.2.1) then p.1 - y.2.1 else G.1) else G.1), (bif x.1 == 1 then (bif Nat.ble G.2 (q.2 - x.2.1) then G.2 else q.2 - x.2.1) else G.2))
theorem ab_tag {g : Nat} {a : ab_V} {x : Int32} (h : ab_gv g a (.int x)) (e : (a.1 == 1) = true) : ab_n x = g + a.2.1 := by
  obtain ⟨t, p, q⟩ := a
  have : t = 1 := by simpa using e
  subst this
  obtain ⟨y, h1, h2⟩ := h
  cases h1
  exact h2
theorem ab_rlt_ok {g : Nat} {G : ab_G} {a b : ab_V} {x y : Int32} {p q : Nat × Nat} (hG : G.1 ≤ g ∧ g ≤ G.2) (ha : ab_gv g a (.int x)) (hb : ab_gv g b (.int y)) (hp : ab_in p x) (hq : ab_in q y) (h : ab_n x < ab_n y) : (ab_rlt G a b p q).1 ≤ g ∧ g ≤ (ab_rlt G a b p q).2 := by
  unfold ab_rlt ab_in at *
  simp only [ab_maxN, ab_minN]
  constructor
  · cases e : (b.1 == 1) with
    | false => exact hG.1
    | true => have := ab_tag hb e; rw [cond_true]; omega
  · cases e : (a.1 == 1) with
    | false => exact hG.2
    | true => have := ab_tag ha e; rw [cond_true]; omega
theorem ab_rle_ok {g : Nat} {G : ab_G} {a b : ab_V} {x y : Int32} {p q : Nat × Nat} (hG : G.1 ≤ g ∧ g ≤ G.2) (ha : ab_gv g a (.int x)) (hb : ab_gv g b (.int y)) (hp : ab_in p x) (hq : ab_in q y) (h : ab_n x ≤ ab_n y) : (ab_rle G a b p q).1 ≤ g ∧ g ≤ (ab_rle G a b p q).2 := by
  unfold ab_rle ab_in at *
  simp only [ab_maxN, ab_minN]
  constructor
  · cases e : (b.1 == 1) with
    | false => exact hG.1
    | true => have := ab_tag hb e; rw [cond_true]; omega
  · cases e : (a.1 == 1) with
    | false => exact hG.2
    | true => have := ab_tag ha e; rw [cond_true]; omega
/-- which way a branch goes, if that is known -/
def ab_lt (p q : Nat × Nat) : Option Bool := bif Nat.blt p.2 q.1 then some true else bif Nat.ble q.2 p.1 then some false else none
def ab_eq (p q : Nat × Nat) : Option Bool := bif Nat.ble q.2 p.1 && Nat.ble p.2 q.1 && (p.1 == q.1) then some true else bif Nat.blt p.2 q.1 || Nat.blt q.2 p.1 then some false else none
def ab_not (b : Option Bool) : Option Bool := match b with
  | some b => some (!b)
  | none => none
def ab_cmp (c : Jvm.ClassFile.Cond) (p q : Nat × Nat) : Option Bool := match c with
  | .eq => ab_eq p q
  | .ne => ab_not (ab_eq p q)
  | .lt => ab_lt p q
  | .ge => ab_not (ab_lt p q)
  | .gt => ab_lt q p
  | .le => ab_not (ab_lt q p)
theorem ab_lt_ok {p q : Nat × Nat} {x y : Int32} {b : Bool} (h1 : ab_in p x) (h2 : ab_in q y) (h : ab_lt p q = some b) : decide (x < y) = b := by
  unfold ab_lt at h
  unfold ab_in at *
  cases hc : Nat.blt p.2 q.1 with
  | true =>
    rw [hc] at h; cases h
    rw [Nat.blt_eq] at hc
    exact decide_eq_true (ab_ltn.mpr (by omega))
  | false =>
    rw [hc, cond_false] at h
    cases hd : Nat.ble q.2 p.1 with
    | true =>
      rw [hd] at h; cases h
      rw [Nat.ble_eq] at hd
      exact decide_eq_false (fun w => by rw [ab_ltn] at w; omega)
    | false => rw [hd] at h; cases h
theorem ab_eq_ok {p q : Nat × Nat} {x y : Int32} {b : Bool} (h1 : ab_in p x) (h2 : ab_in q y) (h : ab_eq p q = some b) : decide (x = y) = b := by
  unfold ab_eq at h
  unfold ab_in at *
  cases hc : (Nat.ble q.2 p.1 && Nat.ble p.2 q.1 && (p.1 == q.1)) with
  | true =>
    rw [hc] at h; cases h
    simp only [Bool.and_eq_true, Nat.ble_eq, beq_iff_eq] at hc
    exact decide_eq_true (ab_eqn.mpr (by omega))
  | false =>
    rw [hc, cond_false] at h
    cases hd : (Nat.blt p.2 q.1 || Nat.blt q.2 p.1) with
    | true =>
      rw [hd] at h; cases h
      simp only [Bool.or_eq_true, Nat.blt_eq] at hd
      exact decide_eq_false (fun w => by rw [ab_eqn] at w; omega)
    | false => rw [hd] at h; cases h
theorem ab_not_ok {o : Option Bool} {b c : Bool} (h : ab_not o = some b) (ho : ∀ d, o = some d → c = d) : (!c) = b := by
  cases o with
  | none => cases h
  | some d => cases h; rw [ho d rfl]
theorem pv_cond_ge (x y : Int32) : pv_cond .ge x y = !decide (x < y) := by
  show decide (y ≤ x) = _
  by_cases h : x < y
  · rw [decide_eq_true h]; exact decide_eq_false (by rw [ab_ltn] at h; rw [ab_len]; omega)
  · rw [decide_eq_false h]; exact decide_eq_true (by rw [ab_ltn] at h; rw [ab_len]; omega)
theorem pv_cond_le (x y : Int32) : pv_cond .le x y = !decide (y < x) := pv_cond_ge y x
theorem ab_cmp_ok {c : Jvm.ClassFile.Cond} {p q : Nat × Nat} {x y : Int32} {b : Bool} (h1 : ab_in p x) (h2 : ab_in q y) (h : ab_cmp c p q = some b) : pv_cond c x y = b := by
  cases c with
  | eq => exact ab_eq_ok h1 h2 h
  | ne => exact ab_not_ok h (fun d hd => ab_eq_ok h1 h2 hd)
  | lt => exact ab_lt_ok h1 h2 h
  | ge => rw [pv_cond_ge]; exact ab_not_ok h (fun d hd => ab_lt_ok h1 h2 hd)
  | gt => exact ab_lt_ok h2 h1 h
  | le => rw [pv_cond_le]; exact ab_not_ok h (fun d hd => ab_lt_ok h2 h1 hd)
def ab_ref (c : Jvm.ClassFile.Cond) (b : Bool) (G : ab_G) (x y : ab_V) (p q : Nat × Nat) : ab_G := match c, b with
  | .lt, true => ab_rlt G x y p q
  | .ge, false => ab_rlt G x y p q
  | .lt, false => ab_rle G y x q p
  | .ge, true => ab_rle G y x q p
  | .gt, true => ab_rlt G y x q p
  | .le, false => ab_rlt G y x q p
  | .gt, false => ab_rle G x y p q
  | .le, true => ab_rle G x y p q
  | .eq, true => ab_rle (ab_rle G x y p q) y x q p
  | .ne, false => ab_rle (ab_rle G x y p q) y x q p
  | _, _ => G
theorem ab_ref_ok {g : Nat} {G : ab_G} {a b : ab_V} {x y : Int32} {p q : Nat × Nat} {c : Jvm.ClassFile.Cond} {w : Bool} (hG : G.1 ≤ g ∧ g ≤ G.2) (ha : ab_gv g a (.int x)) (hb : ab_gv g b (.int y)) (hp : ab_in p x) (hq : ab_in q y) (h : pv_cond c x y = w) : (ab_ref c w G a b p q).1 ≤ g ∧ g ≤ (ab_ref c w G a b p q).2 := by
  cases c <;> cases w
  · exact hG
  · have e : ab_n x = ab_n y := ab_eqn.mp (of_decide_eq_true h)
    exact ab_rle_ok (ab_rle_ok hG ha hb hp hq (Nat.le_of_eq e)) hb ha hq hp (Nat.le_of_eq e.symm)
  · have e : ab_n x = ab_n y := by
      have h' : (!decide (x = y)) = false := h
      rw [Bool.not_eq_false'] at h'
      exact ab_eqn.mp (of_decide_eq_true h')
    exact ab_rle_ok (ab_rle_ok hG ha hb hp hq (Nat.le_of_eq e)) hb ha hq hp (Nat.le_of_eq e.symm)
  · exact hG
  · exact ab_rle_ok hG hb ha hq hp (by have := of_decide_eq_false h; rw [ab_ltn] at this; omega)
  · exact ab_rlt_ok hG ha hb hp hq (ab_ltn.mp (of_decide_eq_true h))
  · exact ab_rlt_ok hG ha hb hp hq (by have := of_decide_eq_false h; rw [ab_len] at this; omega)
  · exact ab_rle_ok hG hb ha hq hp (ab_len.mp (of_decide_eq_true h))
  · exact ab_rle_ok hG ha hb hp hq (by have := of_decide_eq_false h; rw [ab_ltn] at this; omega)
  · exact ab_rlt_ok hG hb ha hq hp (ab_ltn.mp (of_decide_eq_true h))
  · exact ab_rlt_ok hG hb ha hq hp (by have := of_decide_eq_false h; rw [ab_len] at this; omega)
  · exact ab_rle_ok hG ha hb hp hq (ab_len.mp (of_decide_eq_true h))
