/-! from row to row over bounds; rounds -/
theorem ab_get_mem {i : Nat} {a : ab_V} : ∀ {L : ab_L}, ab_get L i = some a → (i, a) ∈ L
  | [], h => by cases h
  | (j, v) :: L, h => by
    rw [ab_get_cons] at h
    by_cases hj : j = i
    · rw [if_pos hj] at h
      cases h
      rw [hj]
      exact List.mem_cons_self
    · rw [if_neg hj] at h
      exact List.mem_cons_of_mem _ (ab_get_mem h)
/-- what is known at s is known at S, local c of S being the round's number -/
def ab_ent (c : Nat) (s S : ab_S) : Bool := ((s.2.2.1.isEmpty && S.2.2.1.isEmpty) && Nat.ble S.1.1 S.1.2) && (S.2.1.all (fun q => bif q.1 == c then (q.2.1 == 1 && q.2.2.1 == 0) && (match ab_get s.2.1 q.1 with
    | some a => (match ab_iv s.1 a with
      | some p => ab_sub2 p S.1
      | none => false)
    | none => false) else (match ab_get s.2.1 q.1 with
    | some a => ab_lev s.1 a q.2
    | none => false)) && ab_le2 (ab_lec s.1) s.2.2.2 S.2.2.2)
theorem ab_ent_ok {c g : Nat} {s S : ab_S} {lo : pv_L} {st : List Value} {h : pv_H} (e : ab_ent c s S = true) (hs : ab_gs g s lo st h) : ∃ g', ab_gs g' S lo st h ∧ ∀ e z, (ab_get S.2.1 c).isSome = true → ab_get s.2.1 c = some (1, e, z) → g' = g + e := by
  unfold ab_ent at e
  simp only [Bool.and_eq_true, List.all_eq_true, Nat.ble_eq, List.isEmpty_iff] at e
  obtain ⟨⟨⟨e1, e2⟩, e3⟩, e4, e5⟩ := e
  have hst : st = [] := by
    have := hs.2.2.1
    rw [e1] at this
    exact ab2_nil this
  have key : ∀ g', (∀ a, ab_get S.2.1 c = some a → ∃ v, pv_get lo c = some v ∧ ab_gv g' a v) → (S.1.1 ≤ g' ∧ g' ≤ S.1.2) → ab_gs g' S lo st h := by
    intro g' hc hG
    refine ⟨hG, fun i a ha => ?_, ?_, ab_le2_ok (R1 := ab_gc g) (R2 := ab_gc g') (fun a b v q1 q2 => ab_lec_ok hs.1 q1 q2 g') e5 hs.2.2.2⟩
    · by_cases hi : i = c
      · subst hi; exact hc a ha
      · have h1 := e4 (i, a) (ab_get_mem ha)
        rw [show ((i, a).1 == c) = false from beq_false_of_ne hi, cond_false] at h1
        simp only at h1
        split at h1
        · next b hb =>
          obtain ⟨v, q1, q2⟩ := hs.2.1 i b hb
          exact ⟨v, q1, ab_lev_ok hs.1 h1 q2 g'⟩
        · cases h1
    · rw [e2, hst]; trivial
  cases hS : ab_get S.2.1 c with
  | none =>
    refine ⟨S.1.1, key S.1.1 (fun a ha => by rw [hS] at ha; cases ha) ⟨Nat.le_refl _, e3⟩, fun e z q => by cases q⟩
  | some a0 =>
    have h1 := e4 (c, a0) (ab_get_mem hS)
    rw [show ((c, a0).1 == c) = true from beq_self_eq_true c, cond_true] at h1
    simp only [Bool.and_eq_true, beq_iff_eq] at h1
    obtain ⟨⟨t1, t2⟩, t3⟩ := h1
    split at t3
    · next b hb =>
      split at t3
      · next p hp =>
        obtain ⟨v, q1, q2⟩ := hs.2.1 c b hb
        obtain ⟨x, q3, q4⟩ := ab_iv_ok hs.1 q2 hp
        refine ⟨ab_n x, key (ab_n x) (fun a ha => ?_) (ab_sub2_ok t3 q4), fun e z _ hz => ?_⟩
        · rw [hS] at ha
          cases ha
          refine ⟨v, q1, ?_⟩
          obtain ⟨u, w, z⟩ := a0
          simp only at t1 t2
          subst t1
          subst t2
          exact ⟨x, q3, (Nat.add_zero _).symm⟩
        · rw [hb] at hz
          cases hz
          rw [q3] at q2
          exact ab_tag q2 rfl
      · cases t3
    · cases t3
/-- every way leads to row K as S, or out with v and H -/
def ab_out (K c : Nat) (S : ab_S) (v : List ab_V) (H : List ab_C) (os : List ab_O) : Bool := os.all (fun o => match o with
  | (some k, s) => k == K && ab_ent c s S
  | (none, s) => ab_le2 (ab_lev s.1) s.2.2.1 v && ab_le2 (ab_lec s.1) s.2.2.2 H)
def ab_fwd (call : ab_K) (rows : List pv_R) (jn : List (Nat × Nat)) (F k : Nat) (s : ab_S) (K c : Nat) (S : ab_S) (v : List ab_V) (H : List ab_C) : Bool := match ab_go call rows jn F [K] k s with
  | some os => ab_out K c S v H os
  | none => false
theorem ab_fwd_ok {d : Nat} {call : ab_K} {rows : List pv_R} {jn : List (Nat × Nat)} {Q : Option Value → pv_H → Prop} {F k : Nat} {s : ab_S} {K c : Nat} {S : ab_S} {v : List ab_V} {H : List ab_C} (hcall : ab_cl d call) (e : ab_fwd call rows jn F k s K c S v H = true) (hQ : ∀ (w : Option Value) h, ab_all2 (ab_gv 0) v w.toList → ab_all2 (ab_gc 0) H h → Q w h) (hK : ∀ g lo st h, ab_gs g S lo st h → wG d rows K lo st h Q) (g : Nat) (lo : pv_L) (st : List Value) (h : pv_H) (hs : ab_gs g s lo st h) : wG d rows k lo st h Q := by
  unfold ab_fwd at e
  split at e
  · next os hgo =>
    refine ab_go_ok hcall F [K] k s os hgo g lo st h hs (fun o ho => ?_)
    unfold ab_out at e
    have h1 := List.all_eq_true.mp e o ho
    match o, h1 with
    | (some k', s'), h1 =>
      simp only [Bool.and_eq_true, beq_iff_eq] at h1
      obtain ⟨rfl, h2⟩ := h1
      intro lo' st' h' hs'
      obtain ⟨g', q1, _⟩ := ab_ent_ok h2 hs'
      exact hK g' lo' st' h' q1
    | (none, s'), h1 =>
      simp only [Bool.and_eq_true] at h1
      intro w h' hG q1 q2
      exact hQ w h' (ab_le2_ok (R1 := ab_gv g) (R2 := ab_gv 0) (fun a b v e1 e2 => ab_lev_ok hG e1 e2 0) h1.1 q1) (ab_le2_ok (R1 := ab_gc g) (R2 := ab_gc 0) (fun a b v e1 e2 => ab_lec_ok hG e1 e2 0) h1.2 q2)
  · cases e
/-- a round: back at row k with local c one more -/
def ab_rnd (call : ab_K) (rows : List pv_R) (jn : List (Nat × Nat)) (F k c : Nat) (S : ab_S) (v : List ab_V) (H : List ab_C) : Bool := match ab_go call rows jn F [k] k S with
  | some os => (ab_get S.2.1 c).isSome && os.all (fun o => match o with
    | (some k', s) => k' == k && (ab_ent c s S && (match ab_get s.2.1 c with
      | some a => a.1 == 1 && a.2.1 == 1
      | none => false))
    | (none, s) => ab_le2 (ab_lev s.1) s.2.2.1 v && ab_le2 (ab_lec s.1) s.2.2.2 H)
  | none => false
theorem ab_rnd_ok {d : Nat} {call : ab_K} {rows : List pv_R} {jn : List (Nat × Nat)} {Q : Option Value → pv_H → Prop} {F k c : Nat} {S : ab_S} {v : List ab_V} {H : List ab_C} (hcall : ab_cl d call) (e : ab_rnd call rows jn F k c S v H = true) (hQ : ∀ (w : Option Value) h, ab_all2 (ab_gv 0) v w.toList → ab_all2 (ab_gc 0) H h → Q w h) : ∀ (n g : Nat), S.1.2 - g ≤ n → ∀ lo st h, ab_gs g S lo st h → wG d rows k lo st h Q := by
  unfold ab_rnd at e
  split at e
  · next os hgo =>
    simp only [Bool.and_eq_true] at e
    obtain ⟨hS, e⟩ := e
    intro n
    induction n with
    | zero =>
      intro g hn lo st h hs
      refine ab_go_ok hcall F [k] k S os hgo g lo st h hs (fun o ho => ?_)
      have h1 := List.all_eq_true.mp e o ho
      match o, h1 with
      | (some k', s'), h1 =>
        simp only [Bool.and_eq_true, beq_iff_eq] at h1
        obtain ⟨rfl, h2, h3⟩ := h1
        intro lo' st' h' hs'
        obtain ⟨g', q1, q2⟩ := ab_ent_ok h2 hs'
        split at h3
        · next a ha =>
          obtain ⟨t, u, z⟩ := a
          simp only [Bool.and_eq_true, beq_iff_eq] at h3
          obtain ⟨rfl, rfl⟩ := h3
          have := q2 1 z hS ha
          have := q1.1.2
          have := hs.1.2
          omega
        · cases h3
      | (none, s'), h1 =>
        simp only [Bool.and_eq_true] at h1
        intro w h' hG q1 q2
        exact hQ w h' (ab_le2_ok (R1 := ab_gv g) (R2 := ab_gv 0) (fun a b v e1 e2 => ab_lev_ok hG e1 e2 0) h1.1 q1) (ab_le2_ok (R1 := ab_gc g) (R2 := ab_gc 0) (fun a b v e1 e2 => ab_lec_ok hG e1 e2 0) h1.2 q2)
    | succ n ih =>
      intro g hn lo st h hs
      refine ab_go_ok hcall F [k] k S os hgo g lo st h hs (fun o ho => ?_)
      have h1 := List.all_eq_true.mp e o ho
      match o, h1 with
      | (some k', s'), h1 =>
        simp only [Bool.and_eq_true, beq_iff_eq] at h1
        obtain ⟨rfl, h2, h3⟩ := h1
        intro lo' st' h' hs'
        obtain ⟨g', q1, q2⟩ := ab_ent_ok h2 hs'
        split at h3
        · next a ha =>
          obtain ⟨t, u, z⟩ := a
          simp only [Bool.and_eq_true, beq_iff_eq] at h3
          obtain ⟨rfl, rfl⟩ := h3
          have := q2 1 z hS ha
          exact ih g' (by omega) lo' st' h' q1
        · cases h3
      | (none, s'), h1 =>
        simp only [Bool.and_eq_true] at h1
        intro w h' hG q1 q2
        exact hQ w h' (ab_le2_ok (R1 := ab_gv g) (R2 := ab_gv 0) (fun a b v e1 e2 => ab_lev_ok hG e1 e2 0) h1.1 q1) (ab_le2_ok (R1 := ab_gc g) (R2 := ab_gc 0) (fun a b v e1 e2 => ab_lec_ok hG e1 e2 0) h1.2 q2)
  · cases e
theorem ab_rnd_all {d : Nat} {call : ab_K} {rows : List pv_R} {jn : List (Nat × Nat)} {Q : Option Value → pv_H → Prop} {F k c : Nat} {S : ab_S} {v : List ab_V} {H : List ab_C} (hcall : ab_cl d call) (e : ab_rnd call rows jn F k c S v H = true) (hQ : ∀ (w : Option Value) h, ab_all2 (ab_gv 0) v w.toList → ab_all2 (ab_gc 0) H h → Q w h) (g : Nat) (lo : pv_L) (st : List Value) (h : pv_H) (hs : ab_gs g S lo st h) : wG d rows k lo st h Q := ab_rnd_ok hcall e hQ _ g (Nat.le_refl _) lo st h hs
