/-! THE CLASS: its rounds, told to mend -/
def oC (t : Int) : List (Nat × Nat × List Value) := [(0, 11, [.ref 1, .ref 15, .ref 24, .ref 34, .ref 44, .ref 52, .ref 54, .ref 55, .ref 63, .ref 68, .ref 71, .int 1]), (1, 3, [.long 0, .ref 2, .ref 3, .ref 4, .ref 5, .ref 6, .ref 7, .ref 8, .ref 9, .ref 10, .ref 11, .ref 12, .ref 13, .ref 14]), (15, 0, [.ref 16, .ref 17, .ref 18, .ref 19, .ref 20, .ref 21, .ref 22, .ref 23, .int 0]), (55, 6, [.ref 56, .ref 57, .ref 58, .ref 59, .ref 60, .ref 61, .ref 62, .int (Int32.ofInt t)])]
def lC : List (Nat × Nat × Nat) := [(56, 0, 8), (57, 0, 72), (58, 0, 8), (59, 0, 8), (60, 0, 8), (61, 0, 2304), (62, 0, 8), (22, 0, 8)]
def is0 (h : pv_H) (z : Int) : Option Value → pv_H → Prop := fun v h1 => v = some (.int (Int32.ofInt z)) ∧ h1 = h
def vd (R : pv_H → Prop) : Option Value → pv_H → Prop := fun v h1 => v = none ∧ R h1
section WGC
variable {d : Nat} {rows : List pv_R} {k : Nat} {lo : pv_L} {st : List Value} {h : pv_H} {Q : Option Value → pv_H → Prop} {O : List (Nat × Nat × List Value)} {L : List (Nat × Nat × Nat)} {N : Nat} {A : Nat → Int → Int}
theorem wG_cvV (H : hp O L N h A) (i : Nat) {b ci j n pc idx len : Nat} {ps : List Nat} {fs r : List Value} {z : Int} (hi : O[i]? = some (b, ci, fs)) (hr : rows[k]? = some (pc, .invokevirtual idx, len, [j, n, ci], ps)) (hd : st.drop n = .ref b :: r) (hc : pv_cat r ≤ 8) (kk : wR d j (.ref b :: (st.take n).reverse) h (is0 h z)) (c : wG d rows (k + 1) lo (.int (Int32.ofInt z) :: r) h Q) : wG d rows k lo st h Q := by
  refine wG_cv H i hi hr hd hc (wR_mono (fun v h1 q => ?_) kk)
  obtain ⟨rfl, rfl⟩ := q
  exact c
theorem wG_cvN (H : hp O L N h A) (i : Nat) {b ci j n pc idx len : Nat} {ps : List Nat} {fs r : List Value} {R : pv_H → Prop} (hi : O[i]? = some (b, ci, fs)) (hr : rows[k]? = some (pc, .invokevirtual idx, len, [j, n, ci], ps)) (hd : st.drop n = .ref b :: r) (hc : pv_cat r ≤ 8) (kk : wR d j (.ref b :: (st.take n).reverse) h (vd R)) (c : ∀ h1, R h1 → wG d rows (k + 1) lo r h1 Q) : wG d rows k lo st h Q := by
  refine wG_cv H i hi hr hd hc (wR_mono (fun v h1 q => ?_) kk)
  obtain ⟨rfl, q⟩ := q
  exact c h1 q
theorem wG_csV {j n pc idx len : Nat} {ps : List Nat} {r : List Value} {z : Int} (hr : rows[k]? = some (pc, .invokestatic idx, len, [j, n], ps)) (hl : n ≤ st.length) (hd : st.drop n = r) (hc : pv_cat r ≤ 8) (kk : wR d j (st.take n).reverse h (is0 h z)) (c : wG d rows (k + 1) lo (.int (Int32.ofInt z) :: r) h Q) : wG d rows k lo st h Q := by
  subst hd
  refine wG_call (as := (st.take n).reverse) (rest := st.drop n) (j := j) hr rfl ?_ (wR_mono (fun v h1 q => ?_) kk)
  · simp only [pv_inv]
    rw [if_pos ⟨hl, hc⟩]
  · obtain ⟨rfl, rfl⟩ := q
    exact c
theorem wG_csN {j n pc idx len : Nat} {ps : List Nat} {r : List Value} {R : pv_H → Prop} (hr : rows[k]? = some (pc, .invokestatic idx, len, [j, n], ps)) (hl : n ≤ st.length) (hd : st.drop n = r) (hc : pv_cat r ≤ 8) (kk : wR d j (st.take n).reverse h (vd R)) (c : ∀ h1, R h1 → wG d rows (k + 1) lo r h1 Q) : wG d rows k lo st h Q := by
  subst hd
  refine wG_call (as := (st.take n).reverse) (rest := st.drop n) (j := j) hr rfl ?_ (wR_mono (fun v h1 q => ?_) kk)
  · simp only [pv_inv]
    rw [if_pos ⟨hl, hc⟩]
  · obtain ⟨rfl, q⟩ := q
    exact c h1 q
end WGC
def stC (cs : Nat → Nat) (n : Nat) (A : Nat → Int → Int) : Prop := (∀ j : Nat, j < n → A 56 j = (cs j : Nat)) ∧ (∀ j : Int, A 57 j = 0) ∧ (∀ j : Nat, j < n → A 58 j = 1) ∧ (∀ j : Nat, j < n → A 59 j = ((1 + cs j % 6 : Nat) : Int)) ∧ (∀ j : Nat, j < n → A 60 j = if blw cs j = true then ((2 ^ (j - 1) : Nat) : Int) else 0)
section CC
variable {D : Nat} {cs : Nat → Nat} {n : Nat} {h : pv_H} {A : Nat → Int → Int}
theorem rng_n {m : Nat} (h : m < 2147483648) : rng (m : Int) := ⟨by omega, by omega⟩
theorem costVia_C (H : hp (oC n) lC 79 h A) (S : stC cs n A) (hn : n < 9) {K : Nat → Nat} {d q l : Nat} (hd : d < 2 ^ n) (hq : q < n) (hl : l < 9) (hk : can cs d q = true → A 61 (((d ||| 2 ^ q : Nat) : Int) * 9 + (q : Nat)) = (K (d ||| 2 ^ q) : Nat)) : wR (D + 1) 70 [.ref 55, .int (Int32.ofInt (d : Nat)), .int (Int32.ofInt (l : Nat)), .int (Int32.ofInt (q : Nat)), .int (Int32.ofInt (hrs cs d n : Nat))] h (is0 h (via cs n K d q : Nat)) := by
  obtain ⟨s1, s2, s3, s4, s5⟩ := S
  have hp8 := pow8 hn
  refine wR_in (M := mX6_costVia) rfl (Nat.le_of_ble_eq_true rfl) ?_
  refine wG_step rfl rfl rfl rfl ?_
  refine wG_step rfl rfl rfl rfl ?_
  refine wG_bt rfl rfl rfl (by omega) (by omega) ?_
  have far : can cs d q = false → is0 h (via cs n K d q : Nat) (some (.int (Int32.ofInt ((1000000000 : Nat) : Int)))) h := by
    intro e
    refine ⟨?_, rfl⟩
    unfold via
    rw [e]
    rfl
  refine wG_c1 rfl (bt_rng d q) (fun c => ?_) (fun c => ?_)
  · have c1 : ¬ bt d q = 0 := c
    refine wG_ldc rfl ?_
    refine wG_ret rfl rfl ?_
    refine far ?_
    rw [bt_0, Bool.not_eq_false] at c1
    unfold can
    rw [c1]
    rfl
  have c1 : bt d q = 0 := Classical.not_not.mp c
  rw [bt_0] at c1
  refine wG_step rfl rfl rfl rfl ?_
  refine wG_fld H 3 rfl rfl rfl ?_
  refine wG_step rfl rfl rfl rfl ?_
  refine wG_ldv H 4 _ rfl rfl ⟨by omega, by omega, by decide⟩ (s5 q hq) ?_
  refine wG_step rfl rfl rfl rfl ?_
  refine wG_ah rfl rfl rfl (by omega) (fun _ => by omega) ?_
  refine wG_c1 rfl ?_ (fun c => ?_) (fun c => ?_)
  · have p7 : ∀ i, i < 8 → 2 ^ i ≤ 128 := by decide
    have := p7 (q - 1) (by omega)
    split
    · split
      · exact ⟨by decide, by decide⟩
      · exact rng_n (by omega)
    · exact ⟨by decide, by decide⟩
  · have cc : can cs d q = true := by
      have c2 : (if blw cs q = true then (if d.testBit (q - 1) = true then 0 else ((2 ^ (q - 1) : Nat) : Int)) else 0) = 0 := c
      have := Nat.two_pow_pos (q - 1)
      unfold can
      rw [c1]
      cases hb : blw cs q with
      | false => rfl
      | true =>
        cases ht : d.testBit (q - 1) with
        | true => rfl
        | false => rw [hb, ht, if_pos rfl, if_neg (by decide)] at c2; omega
    have hk := hk cc
    have h9 := or_lt hd hq
    have hh := hrs_le (cs := cs) d n
    have h6 : cs q % 6 < 6 := Nat.mod_lt _ (by decide)
    refine wG_step rfl rfl rfl rfl ?_
    refine wG_fld H 3 rfl rfl rfl ?_
    refine wG_step rfl rfl rfl rfl ?_
    refine wG_bip rfl rfl ?_
    refine wG_imul rfl ?_
    refine wG_step rfl rfl rfl rfl ?_
    refine wG_iadd rfl ?_
    refine wG_ldv H 1 _ rfl rfl ⟨by omega, by omega, by decide⟩ (s2 _) ?_
    refine wG_step rfl rfl rfl rfl ?_
    refine wG_fld H 3 rfl rfl rfl ?_
    refine wG_step rfl rfl rfl rfl ?_
    refine wG_ldv H 2 _ rfl rfl ⟨by omega, by omega, by decide⟩ (s3 q hq) ?_
    refine wG_step rfl rfl rfl rfl ?_
    refine wG_step rfl rfl rfl rfl ?_
    refine wG_fld H 3 rfl rfl rfl ?_
    refine wG_step rfl rfl rfl rfl ?_
    refine wG_ldv H 3 _ rfl rfl ⟨by omega, by omega, by decide⟩ (s4 q hq) ?_
    refine wG_iadd rfl ?_
    refine wG_imul rfl ?_
    refine wG_iadd rfl ?_
    refine wG_step rfl rfl rfl rfl ?_
    refine wG_step rfl rfl rfl rfl ?_
    refine wG_step rfl rfl rfl rfl ?_
    refine wG_fld H 3 rfl rfl rfl ?_
    refine wG_step rfl rfl rfl rfl ?_
    refine wG_step rfl rfl rfl rfl ?_
    refine wG_step rfl rfl rfl rfl ?_
    refine wG_shl rfl (by omega) ?_
    refine wG_or rfl (by omega) (by omega) ?_
    refine wG_bip rfl rfl ?_
    refine wG_imul rfl ?_
    refine wG_step rfl rfl rfl rfl ?_
    refine wG_iadd rfl ?_
    refine wG_ldv H 5 _ rfl rfl ⟨by omega, by omega, by decide⟩ hk ?_
    refine wG_iadd rfl ?_
    refine wG_ret rfl rfl ?_
    refine ⟨?_, rfl⟩
    unfold via
    rw [if_pos cc]
    have e : (0 : Int) + 1 * ((hrs cs d n : Nat) + ((1 + cs q % 6 : Nat) : Int)) + (K (d ||| 2 ^ q) : Nat) = ((hrs cs d n + (1 + cs q % 6) + K (d ||| 2 ^ q) : Nat) : Int) := by omega
    rw [e]
  · refine wG_ldc rfl ?_
    refine wG_ret rfl rfl ?_
    refine far ?_
    have c2 : ¬ (if blw cs q = true then (if d.testBit (q - 1) = true then 0 else ((2 ^ (q - 1) : Nat) : Int)) else 0) = 0 := c
    unfold can
    rw [c1]
    cases hb : blw cs q with
    | false => rw [hb] at c2; exact absurd rfl c2
    | true =>
      cases ht : d.testBit (q - 1) with
      | true => rw [hb, ht] at c2; exact absurd rfl c2
      | false => rfl
/-- the hours that are spent -/
theorem spentOn_C (H : hp (oC n) lC 79 h A) (S : stC cs n A) (hn : n < 9) {d : Nat} (hd : d < 2 ^ n) : wR (D + 1) 68 [.ref 55, .int (Int32.ofInt (d : Nat))] h (is0 h (hrs cs d n : Nat)) := by
  obtain ⟨s1, s2, s3, s4, s5⟩ := S
  have hp8 := pow8 hn
  refine wR_in (M := mX6_spentOn) rfl (Nat.le_of_ble_eq_true rfl) ?_
  refine wG_step rfl rfl rfl rfl ?_
  refine wG_step rfl rfl rfl rfl ?_
  refine wG_step rfl rfl rfl rfl ?_
  refine wG_step rfl rfl rfl rfl ?_
  have lp : ∀ m i, i + m = n → wG D rX6_spentOn 4 [(0, .ref 55), (1, .int (Int32.ofInt (d : Nat))), (2, .int (Int32.ofInt (hrs cs d i : Nat))), (3, .int (Int32.ofInt (i : Nat)))] [] h (is0 h (hrs cs d n : Nat)) := by
    intro m
    induction m with
    | zero =>
      intro i hi
      have : i = n := by omega
      subst this
      refine wG_step rfl rfl rfl rfl ?_
      refine wG_step rfl rfl rfl rfl ?_
      refine wG_fld H 3 rfl rfl rfl ?_
      refine wG_c2t rfl (rng_n (by omega)) (rng_n (by omega)) (Int.le_refl _) ?_
      refine wG_step rfl rfl rfl rfl ?_
      refine wG_ret rfl rfl ?_
      exact ⟨rfl, rfl⟩
    | succ m ih =>
      intro i hi
      have hh := hrs_le (cs := cs) d i
      have h6 : cs i % 6 < 6 := Nat.mod_lt _ (by decide)
      have nxt : ∀ s : Int, s = (hrs cs d (i + 1) : Nat) → wG D rX6_spentOn 21 [(0, .ref 55), (1, .int (Int32.ofInt (d : Nat))), (2, .int (Int32.ofInt s)), (3, .int (Int32.ofInt (i : Nat)))] [] h (is0 h (hrs cs d n : Nat)) := by
        intro s hs
        subst hs
        refine wG_iinc rfl rfl rfl ?_
        refine wG_step rfl rfl rfl rfl ?_
        exact wG_pick [0, 1, 2, 3] (by decide) (ih (i + 1) (by omega))
      refine wG_step rfl rfl rfl rfl ?_
      refine wG_step rfl rfl rfl rfl ?_
      refine wG_fld H 3 rfl rfl rfl ?_
      refine wG_c2f rfl (rng_n (by omega)) (rng_n (by omega)) (by show ¬ (n : Int) ≤ i; omega) ?_
      refine wG_step rfl rfl rfl rfl ?_
      refine wG_step rfl rfl rfl rfl ?_
      refine wG_bt rfl rfl rfl (by omega) (by omega) ?_
      refine wG_c1 rfl (bt_rng d i) (fun c => ?_) (fun c => ?_)
      · have c1 : bt d i = 0 := c
        rw [bt_0] at c1
        exact nxt _ (by show _ = ((hrs cs d i + (if d.testBit i = true then 1 + cs i % 6 else 0) : Nat) : Int); rw [c1, if_neg (by decide)]; rfl)
      · have c1 : ¬ bt d i = 0 := c
        rw [bt_0, Bool.not_eq_false] at c1
        refine wG_step rfl rfl rfl rfl ?_
        refine wG_step rfl rfl rfl rfl ?_
        refine wG_fld H 3 rfl rfl rfl ?_
        refine wG_step rfl rfl rfl rfl ?_
        refine wG_ldv H 3 _ rfl rfl ⟨by omega, by omega, by decide⟩ (s4 i (by omega)) ?_
        refine wG_iadd rfl ?_
        refine wG_step rfl rfl rfl rfl ?_
        refine wG_pick [0, 1, 2, 3] (by decide) (nxt _ ?_)
        show _ = ((hrs cs d i + (if d.testBit i = true then 1 + cs i % 6 else 0) : Nat) : Int)
        rw [c1, if_pos rfl]
        omega
  exact wG_pick [0, 1, 2, 3] (by decide) (lp n 0 (by omega))
theorem leastOnward_C (H : hp (oC n) lC 79 h A) (S : stC cs n A) (hn : n < 9) {K : Nat → Nat} {d l : Nat} (hd : d < 2 ^ n) (hl : l < 9) (hk : ∀ q, q < n → can cs d q = true → A 61 (((d ||| 2 ^ q : Nat) : Int) * 9 + (q : Nat)) = (K (d ||| 2 ^ q) : Nat)) (hK : ∀ q, q < n → can cs d q = true → K (d ||| 2 ^ q) ≤ mF) : wR (D + 2) 69 [.ref 55, .int (Int32.ofInt (d : Nat)), .int (Int32.ofInt (l : Nat)), .int (Int32.ofInt (hrs cs d n : Nat))] h (is0 h (mn (via cs n K d) n : Nat)) := by
  have hp8 := pow8 hn
  refine wR_in (M := mX6_leastOnward) rfl (Nat.le_of_ble_eq_true rfl) ?_
  refine wG_ldc rfl ?_
  refine wG_step rfl rfl rfl rfl ?_
  refine wG_step rfl rfl rfl rfl ?_
  refine wG_step rfl rfl rfl rfl ?_
  have lp : ∀ m i, i + m = n → wG (D + 1) rX6_leastOnward 4 [(0, .ref 55), (1, .int (Int32.ofInt (d : Nat))), (2, .int (Int32.ofInt (l : Nat))), (3, .int (Int32.ofInt (hrs cs d n : Nat))), (4, .int (Int32.ofInt (mn (via cs n K d) i : Nat))), (5, .int (Int32.ofInt (i : Nat)))] [] h (is0 h (mn (via cs n K d) n : Nat)) := by
    intro m
    induction m with
    | zero =>
      intro i hi
      have : i = n := by omega
      subst this
      refine wG_step rfl rfl rfl rfl ?_
      refine wG_step rfl rfl rfl rfl ?_
      refine wG_fld H 3 rfl rfl rfl ?_
      refine wG_c2t rfl (rng_n (by omega)) (rng_n (by omega)) (Int.le_refl _) ?_
      refine wG_step rfl rfl rfl rfl ?_
      refine wG_ret rfl rfl ?_
      exact ⟨rfl, rfl⟩
    | succ m ih =>
      intro i hi
      have hm := mn_le (via cs n K d) i
      have hv : via cs n K d i ≤ 2 * mF := by
        unfold via
        split
        · next hc =>
          have := hK i (by omega) hc
          have hh := hrs_le (cs := cs) d n
          have h6 : cs i % 6 < 6 := Nat.mod_lt _ (by decide)
          unfold mF at *
          omega
        · unfold mF; decide
      unfold mF at hm hv
      refine wG_step rfl rfl rfl rfl ?_
      refine wG_step rfl rfl rfl rfl ?_
      refine wG_fld H 3 rfl rfl rfl ?_
      refine wG_c2f rfl (rng_n (by omega)) (rng_n (by omega)) (by show ¬ (n : Int) ≤ i; omega) ?_
      refine wG_step rfl rfl rfl rfl ?_
      refine wG_step rfl rfl rfl rfl ?_
      refine wG_step rfl rfl rfl rfl ?_
      refine wG_step rfl rfl rfl rfl ?_
      refine wG_step rfl rfl rfl rfl ?_
      refine wG_step rfl rfl rfl rfl ?_
      refine wG_cvV H 3 rfl rfl rfl (Nat.le_of_ble_eq_true rfl) (costVia_C H S hn hd (q := i) (by omega) hl (hk i (by omega))) ?_
      refine wG_min rfl (Nat.le_of_ble_eq_true rfl) (rng_n (by omega)) (rng_n (by omega)) ?_
      refine wG_step rfl rfl rfl rfl ?_
      refine wG_iinc rfl rfl rfl ?_
      refine wG_step rfl rfl rfl rfl ?_
      refine wG_pick [0, 1, 2, 3, 4, 5] (by decide) ?_
      have := ih (i + 1) (by omega)
      have e : ((mn (via cs n K d) (i + 1) : Nat) : Int) = min ((mn (via cs n K d) i : Nat) : Int) ((via cs n K d i : Nat) : Int) := by
        show ((min (mn (via cs n K d) i) (via cs n K d i) : Nat) : Int) = _
        omega
      rw [e] at this
      exact this
  exact wG_pick [0, 1, 2, 3, 4, 5] (by decide) (lp n 0 (by omega))
end CC
