/-! LOCALS: their order does not matter, nor what is never read -/
def pv_at (j : Nat) (lo : pv_L) : pv_L := lo.filter (fun q => q.1 == j)
def pv_le (lo lo' : pv_L) : Prop := ∀ j, pv_at j lo = [] ∨ pv_at j lo = pv_at j lo'
theorem pv_get_at : ∀ (lo : pv_L) (j : Nat), pv_get lo j = (pv_at j lo).head?.map (fun q => q.2)
  | [], _ => rfl
  | (i, v) :: lo, j => by
    unfold pv_get pv_at
    by_cases h : i = j
    · simp [List.filter_cons, h]
    · have h2 : (i == j) = false := by simpa using h
      simp only [List.filter_cons, h2, if_neg h]
      exact pv_get_at lo j
theorem pv_le_get {lo lo' : pv_L} {j : Nat} {v : Value} (h : pv_le lo lo') (hg : pv_get lo j = some v) : pv_get lo' j = some v := by
  rw [pv_get_at] at hg ⊢
  rcases h j with h1 | h1
  · rw [h1] at hg; cases hg
  · rw [← h1]; exact hg
theorem pv_at_comm (j : Nat) (p : Nat × Value → Bool) (lo : pv_L) : pv_at j (lo.filter p) = (pv_at j lo).filter p := by
  unfold pv_at
  rw [List.filter_filter, List.filter_filter]
  congr 1
  funext q
  exact Bool.and_comm _ _
theorem pv_le_cons {lo lo' : pv_L} {p : Nat × Value → Bool} {i : Nat} {v : Value} (h : pv_le lo lo') (hp : ∀ q : Nat × Value, q.1 = i → p q = false) : pv_le ((i, v) :: lo.filter p) ((i, v) :: lo'.filter p) := by
  intro j
  have e : ∀ l : pv_L, pv_at j ((i, v) :: l.filter p) = if i = j then (i, v) :: pv_at j (l.filter p) else pv_at j (l.filter p) := by
    intro l
    unfold pv_at
    by_cases h : i = j
    · simp [List.filter_cons, h]
    · have h2 : (i == j) = false := by simpa using h
      simp only [List.filter_cons, h2, if_neg h]; rfl
  have z : ∀ l : pv_L, i = j → pv_at j (l.filter p) = [] := by
    intro l hj
    rw [pv_at_comm, List.filter_eq_nil_iff]
    intro q hq
    have := (List.mem_filter.mp hq).2
    simp only [beq_iff_eq] at this
    rw [hp q (by omega)]
    decide
  rw [e lo, e lo']
  by_cases hij : i = j
  · right
    rw [if_pos hij, if_pos hij, z lo hij, z lo' hij]
  · rw [if_neg hij, if_neg hij, pv_at_comm, pv_at_comm]
    rcases h j with h1 | h1
    · left; rw [h1]; rfl
    · right; rw [h1]
theorem pv_le_set1 {lo lo' : pv_L} {i : Nat} {v : Value} (h : pv_le lo lo') : pv_le (pv_set1 lo i v) (pv_set1 lo' i v) := pv_le_cons h (fun q hq => by simp [hq])
theorem pv_le_set2 {lo lo' : pv_L} {i : Nat} {v : Value} (h : pv_le lo lo') : pv_le (pv_set2 lo i v) (pv_set2 lo' i v) := pv_le_cons h (fun q hq => by simp [hq])
theorem pv_le_lod {lo lo' : pv_L} {i k t : Nat} {st : List Value} {h : pv_H} {k' : Nat} {l1 : pv_L} {s1 : List Value} {h1 : pv_H} (hle : pv_le lo lo') (hx : pv_lod lo i k t st h = some (k', l1, s1, h1)) : ∃ l2, pv_lod lo' i k t st h = some (k', l2, s1, h1) ∧ pv_le l1 l2 := by
  unfold pv_lod at hx ⊢
  split at hx
  · next v t hg => cases hx; exact ⟨lo', by simp only [pv_le_get hle hg], hle⟩
  · next v t hg => cases hx; exact ⟨lo', by simp only [pv_le_get hle hg], hle⟩
  · next v t hg => cases hx; exact ⟨lo', by simp only [pv_le_get hle hg], hle⟩
  · cases hx
theorem pv_le_sto {lo lo' : pv_L} {i k t : Nat} {st : List Value} {h : pv_H} {k' : Nat} {l1 : pv_L} {s1 : List Value} {h1 : pv_H} (hle : pv_le lo lo') (hx : pv_sto lo i k t st h = some (k', l1, s1, h1)) : ∃ l2, pv_sto lo' i k t st h = some (k', l2, s1, h1) ∧ pv_le l1 l2 := by
  unfold pv_sto at hx ⊢
  split at hx
  · cases hx; exact ⟨_, rfl, pv_le_set1 hle⟩
  · cases hx; exact ⟨_, rfl, pv_le_set2 hle⟩
  · cases hx; exact ⟨_, rfl, pv_le_set1 hle⟩
  · cases hx
/-- what an instruction that touches no local does -/
def pv_nl : Instr → Bool
  | .iload _ => false | .iload_n _ => false | .lload _ => false | .lload_n _ => false | .aload _ => false | .aload_n _ => false
  | .istore _ => false | .istore_n _ => false | .lstore _ => false | .lstore_n _ => false | .astore _ => false | .astore_n _ => false
  | .iinc _ _ => false
  | .ldc _ => false
  | _ => true
set_option maxHeartbeats 4000000 in
theorem pv_x_nl {i : Instr} {xs : List Nat} {k : Nat} {lo lo' : pv_L} {st : List Value} {h : pv_H} {k' : Nat} {l1 : pv_L} {s1 : List Value} {h1 : pv_H} (hn : pv_nl i = true) (hx : pv_x i xs k lo st h = some (k', l1, s1, h1)) : l1 = lo ∧ pv_x i xs k lo' st h = some (k', lo', s1, h1) := by
  cases i
  all_goals first
    | (exact absurd hn Bool.false_ne_true)
    | (simp only [pv_x, pv_i2, pv_l2, pv_lsh, pv_b1, pv_b2, pv_ald, pv_ast] at hx ⊢; done)
    | (simp only [pv_x, pv_i2, pv_l2, pv_lsh, pv_b1, pv_b2, pv_ald, pv_ast] at hx ⊢
       repeat' split at hx
       all_goals first
         | (cases hx; done)
         | (cases hx; exact ⟨rfl, rfl⟩)
         | (cases hx; refine ⟨rfl, ?_⟩; simp_all; done)
         | (cases hx; refine ⟨rfl, ?_⟩; simp only [*]; done)
         | (cases hx; refine ⟨rfl, ?_⟩; simp only [*]; rfl))
theorem pv_x_lo {i : Instr} {xs : List Nat} {k : Nat} {lo lo' : pv_L} {st : List Value} {h : pv_H} {k' : Nat} {l1 : pv_L} {s1 : List Value} {h1 : pv_H} (hle : pv_le lo lo') (hx : pv_x i xs k lo st h = some (k', l1, s1, h1)) : ∃ l2, pv_x i xs k lo' st h = some (k', l2, s1, h1) ∧ pv_le l1 l2 := by
  cases hn : pv_nl i with
  | true =>
    obtain ⟨rfl, h2⟩ := pv_x_nl (lo' := lo') hn hx
    exact ⟨lo', h2, hle⟩
  | false =>
    cases i
    all_goals first
      | (exact absurd hn.symm Bool.false_ne_true)
      | (exact pv_le_lod hle hx)
      | (exact pv_le_sto hle hx)
      | skip
    · simp only [pv_x] at hx ⊢
      split at hx
      · next x hg =>
        cases hx
        exact ⟨_, by simp only [pv_le_get hle hg], pv_le_set1 hle⟩
      · cases hx
    · simp only [pv_x] at hx ⊢
      split at hx
      · cases hx; exact ⟨_, rfl, hle⟩
      · split at hx
        · split at hx
          · next hc => cases hx; exact ⟨_, by rw [if_pos hc], hle⟩
          · cases hx
        · cases hx
      · split at hx
        · next x hg =>
          split at hx
          · next hc => cases hx; exact ⟨_, by simp only [pv_le_get hle hg]; rw [if_pos hc], hle⟩
          · cases hx
        · cases hx
      · cases hx
theorem pv_go_lo {call : Nat → List Value → pv_H → Option (Option Value × pv_H)} {rows : List pv_R} : ∀ (f k : Nat) (lo lo' : pv_L) (st : List Value) (h : pv_H) (r : Option Value × pv_H), pv_le lo lo' → pv_go call rows f k lo st h = some r → pv_go call rows f k lo' st h = some r := by
  intro f
  induction f with
  | zero => intro k lo lo' st h r _ hx; cases hx
  | succ f ih =>
    intro k lo lo' st h r hle hx
    simp only [pv_go] at hx ⊢
    split at hx
    · cases hx
    · next rr hr =>
      split at hx
      · next v hv => exact hx
      · next hv =>
        split at hx
        · next j as rest hi =>
          split at hx
          · next v1 h1 hcl => exact ih _ _ _ _ _ _ hle hx
          · cases hx
        · next hi =>
          split at hx
          · next k1 l1 s1 h1 hx1 =>
            obtain ⟨l2, e2, hle2⟩ := pv_x_lo hle hx1
            rw [e2]
            exact ih _ _ _ _ _ _ hle2 hx
          · cases hx
/-- the locals that matter, in an order -/
def pv_pick : List Nat → pv_L → pv_L
  | [], _ => []
  | i :: is, lo => pv_at i lo ++ pv_pick is lo
theorem pv_at_at (j i : Nat) (lo : pv_L) : pv_at j (pv_at i lo) = if j = i then pv_at i lo else [] := by
  unfold pv_at
  rw [List.filter_filter]
  by_cases h : j = i
  · rw [if_pos h]
    congr 1
    funext q
    simp [h]
  · rw [if_neg h, List.filter_eq_nil_iff]
    intro q _
    simp only [Bool.and_eq_true, beq_iff_eq]
    omega
theorem pv_at_pick (j : Nat) (lo : pv_L) : ∀ is : List Nat, (is.Nodup) → pv_at j (pv_pick is lo) = if j ∈ is then pv_at j lo else []
  | [], _ => rfl
  | i :: is, hn => by
    have ih := pv_at_pick j lo is (List.nodup_cons.mp hn).2
    have e : pv_at j (pv_pick (i :: is) lo) = pv_at j (pv_at i lo) ++ pv_at j (pv_pick is lo) := List.filter_append ..
    rw [e, ih, pv_at_at]
    by_cases h : j = i
    · subst h
      rw [if_pos rfl, if_neg (List.nodup_cons.mp hn).1, List.append_nil, if_pos List.mem_cons_self]
    · rw [if_neg h, List.nil_append]
      by_cases h2 : j ∈ is
      · rw [if_pos h2, if_pos (List.mem_cons_of_mem _ h2)]
      · rw [if_neg h2, if_neg (fun q => by rcases List.mem_cons.mp q with q | q; exact h q; exact h2 q)]
theorem wG_pick {d : Nat} {rows : List pv_R} {k : Nat} {lo : pv_L} {st : List Value} {h : pv_H} {Q : Option Value → pv_H → Prop} (is : List Nat) (hn : is.Nodup) (kk : wG d rows k (pv_pick is lo) st h Q) : wG d rows k lo st h Q := by
  obtain ⟨F, f, v, h', hf, hg, hq⟩ := kk
  refine ⟨F, f, v, h', hf, pv_go_lo f k _ _ st h _ (fun j => ?_) hg, hq⟩
  rw [pv_at_pick j lo is hn]
  by_cases h : j ∈ is
  · rw [if_pos h]; exact Or.inr rfl
  · rw [if_neg h]; exact Or.inl rfl
