/-! from row to row with the round's number kept; no way out -/
def ab_fwd2 (call : ab_K) (rows : List pv_R) (jn : List (Nat × Nat)) (F k : Nat) (s : ab_S) (K c : Nat) (S : ab_S) : Bool := match ab_go call rows jn F [K] k s with
  | some os => (ab_get S.2.1 c).isSome && os.all (fun o => match o with
    | (some k', s') => k' == K && (ab_ent c s' S && (match ab_get s'.2.1 c with
      | some a => a.1 == 1 && a.2.1 == 0
      | none => false))
    | (none, _) => false)
  | none => false
theorem ab_fwd2_ok {d : Nat} {call : ab_K} {rows : List pv_R} {jn : List (Nat × Nat)} {Q : Option Value → pv_H → Prop} {F k : Nat} {s : ab_S} {K c : Nat} {S : ab_S} (hcall : ab_cl d call) (e : ab_fwd2 call rows jn F k s K c S = true) (g : Nat) (hK : ∀ lo st h, ab_gs g S lo st h → wG d rows K lo st h Q) (lo : pv_L) (st : List Value) (h : pv_H) (hs : ab_gs g s lo st h) : wG d rows k lo st h Q := by
  unfold ab_fwd2 at e
  split at e
  · next os hgo =>
    simp only [Bool.and_eq_true] at e
    refine ab_go_ok hcall F [K] k s os hgo g lo st h hs (fun o ho => ?_)
    have h1 := List.all_eq_true.mp e.2 o ho
    match o, h1 with
    | (some k', s'), h1 =>
      simp only [Bool.and_eq_true, beq_iff_eq] at h1
      obtain ⟨rfl, h2, h3⟩ := h1
      intro lo' st' h' hs'
      obtain ⟨g', q1, q2⟩ := ab_ent_ok h2 hs'
      split at h3
      · next a ha =>
        obtain ⟨t, u, z⟩ := a
        simp only [Bool.and_eq_true, beq_iff_eq] at h3
        obtain ⟨rfl, rfl⟩ := h3
        have h4 := q2 0 z e.1 ha
        rw [Nat.add_zero] at h4
        subst h4
        exact hK lo' st' h' q1
      · cases h3
    | (none, s'), h1 => cases h1
  · cases e
def pv_rw (j : Nat) : List pv_R := match pv_prog[j]? with
  | some M => M.2.2.2.2
  | none => []
def pv_ml (j : Nat) : Nat := match pv_prog[j]? with
  | some M => M.2.2.1
  | none => 0
theorem wR_rw {d j : Nat} {as : List Value} {h : pv_H} {Q : Option Value → pv_H → Prop} (hj : (pv_prog[j]?).isSome = true) (hc : pv_cat as ≤ pv_ml j) (k : wG d (pv_rw j) 0 (lv_args 0 as) [] h Q) : wR (d + 1) j as h Q := by
  cases hM : pv_prog[j]? with
  | none => rw [hM] at hj; cases hj
  | some M =>
    refine wR_in hM ?_ ?_
    · unfold pv_ml at hc
      rw [hM] at hc
      exact hc
    · unfold pv_rw at k
      rw [hM] at k
      exact k
def ab_off : ab_S := ((1, 0), [], [], [])
theorem ab_off_no {d K : Nat} {rows : List pv_R} {Q : Option Value → pv_H → Prop} (g : Nat) (lo : pv_L) (st : List Value) (h : pv_H) (hs : ab_gs g ab_off lo st h) : wG d rows K lo st h Q := by
  have h1 : 1 ≤ g := hs.1.1
  have h2 : g ≤ 0 := hs.1.2
  omega
/-- from row k every way leads out, with the number x -/
theorem ab_end {d : Nat} {call : ab_K} {rows : List pv_R} {jn : List (Nat × Nat)} {F k N : Nat} {s : ab_S} {H : List ab_C} (x : Int32) (hcall : ab_cl d call) (e : ab_fwd call rows jn F k s 9999 9999 ab_off [(0, ab_n x, ab_n x)] H = true) (hN : H.length = N) (g : Nat) (lo : pv_L) (st : List Value) (h : pv_H) (hs : ab_gs g s lo st h) : wG d rows k lo st h (fun v h => v = some (.int x) ∧ h.length = N) := by
  refine ab_fwd_ok hcall e ?_ ab_off_no g lo st h hs
  intro w h' q1 q2
  cases w with
  | none => exact q1.elim
  | some w =>
    obtain ⟨y, e1, e2⟩ := q1.1
    unfold ab_in at e2
    have e3 : y = x := ab_eqn.mpr (Nat.le_antisymm e2.2 e2.1)
    refine ⟨by rw [e1, e3], ?_⟩
    rw [← ab2_len q2]
    exact hN
theorem ab_rnd_end {d : Nat} {call : ab_K} {rows : List pv_R} {jn : List (Nat × Nat)} {F k c N : Nat} {S : ab_S} {H : List ab_C} (x : Int32) (hcall : ab_cl d call) (e : ab_rnd call rows jn F k c S [(0, ab_n x, ab_n x)] H = true) (hN : H.length = N) (g : Nat) (lo : pv_L) (st : List Value) (h : pv_H) (hs : ab_gs g S lo st h) : wG d rows k lo st h (fun v h => v = some (.int x) ∧ h.length = N) := by
  refine ab_rnd_all hcall e ?_ g lo st h hs
  intro w h' q1 q2
  cases w with
  | none => exact q1.elim
  | some w =>
    obtain ⟨y, e1, e2⟩ := q1.1
    unfold ab_in at e2
    have e3 : y = x := ab_eqn.mpr (Nat.le_antisymm e2.2 e2.1)
    refine ⟨by rw [e1, e3], ?_⟩
    rw [← ab2_len q2]
    exact hN
/-- straight to row K -/
theorem ab_to {d : Nat} {call : ab_K} {rows : List pv_R} {jn : List (Nat × Nat)} {F k K c : Nat} {s S : ab_S} {Q : Option Value → pv_H → Prop} (hcall : ab_cl d call) (e : ab_fwd call rows jn F k s K c S [(9, 0, 0), (9, 0, 0)] [] = true) (hK : ∀ g lo st h, ab_gs g S lo st h → wG d rows K lo st h Q) (g : Nat) (lo : pv_L) (st : List Value) (h : pv_H) (hs : ab_gs g s lo st h) : wG d rows k lo st h Q := by
  refine ab_fwd_ok hcall e ?_ hK g lo st h hs
  intro w h' q1 q2
  cases w with
  | none => exact q1.elim
  | some w => exact q1.2.elim
theorem ab_cov0 {as0 : List ab_V} (ht : (as0.all (fun a => !(a.1 == 1))) = true) (g : Nat) (as' : List Value) (h : ab_all2 (ab_gv g) as0 as') : ∃ q ∈ [(((0, 0) : ab_G), as0)], ∃ g', (q.1.1 ≤ g' ∧ g' ≤ q.1.2) ∧ ab_all2 (ab_gv g') q.2 as' := ⟨_, List.mem_singleton_self _, 0, ab_z0, ab_all_tl ht h⟩
theorem ab_cons1 {e0 : ab_E} {es : List ab_E} (h : ab_val e0) (hs : ∀ e ∈ es, ab_val e) : ∀ e ∈ e0 :: es, ab_val e := fun e he => by
  rcases List.mem_cons.mp he with q | q
  · rw [q]; exact h
  · exact hs e q
/-- how many of eight bits -/
def pcn (n : Nat) : Nat := n % 2 + n / 2 % 2 + n / 4 % 2 + n / 8 % 2 + n / 16 % 2 + n / 32 % 2 + n / 64 % 2 + n / 128 % 2
