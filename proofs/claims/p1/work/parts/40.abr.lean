/-! a method over bounds -/
abbrev ab_O : Type := Option Nat × ab_S
def ab_sat (r : List ab_V) : Bool := Nat.ble ((r.map ab_ct).sum) 8
def ab_inv (i : Instr) (xs : List Nat) (st : List ab_V) (h : List ab_C) : Option (Nat × List ab_V × List ab_V) := match i, xs with
  | .invokestatic _, [j, n] => bif Nat.ble n st.length && ab_sat (st.drop n) then some (j, (st.take n).reverse, st.drop n) else none
  | .invokevirtual _, [j, n, ci] => match st.drop n with
    | a :: r => match ab_rv a with
      | some b => match h[b]? with
        | some (.inr (ci', _)) => bif ci' == ci && ab_sat r then some (j, a :: (st.take n).reverse, r) else none
        | _ => none
      | none => none
    | _ => none
  | .invokespecial _, [j, n, _] => match st.drop n with
    | a :: r => bif ab_kd a == 2 && ab_sat r then some (j, a :: (st.take n).reverse, r) else none
    | _ => none
  | _, _ => none
def ab_ret (i : Instr) (xs : List Nat) (G : ab_G) (st : List ab_V) : Bool := match i, st with
  | .ireturn, [v] => match xs with
    | [0] => ab_kd v == 0
    | [1] => (match ab_iv G v with
      | some p => Nat.ble 2147483648 p.1 && Nat.ble p.2 2147483649
      | none => false)
    | _ => false
  | .lreturn, [v] => ab_kd v == 1
  | .return_, [] => true
  | _, _ => false
theorem ab_sat_ok {g : Nat} {r : List ab_V} {st : List Value} (h : ab_all2 (ab_gv g) r st) (hc : ab_sat r = true) : pv_cat st ≤ 8 := ab_cat_ok h hc
theorem ab_inv_ok {g : Nat} {i : Instr} {xs : List Nat} {st : List ab_V} {h : List ab_C} {st' : List Value} {h' : pv_H} {j : Nat} {as rest : List ab_V} (e : ab_inv i xs st h = some (j, as, rest)) (h1 : ab_all2 (ab_gv g) st st') (h2 : ab_all2 (ab_gc g) h h') : ∃ as' rest', pv_inv i xs st' h' = some (j, as', rest') ∧ pv_ret i xs st' = none ∧ ab_all2 (ab_gv g) as as' ∧ ab_all2 (ab_gv g) rest rest' := by
  unfold ab_inv at e
  split at e
  · next c j' n =>
    cases hc : (Nat.ble n st.length && ab_sat (st.drop n)) with
    | false => rw [hc] at e; cases e
    | true =>
      rw [hc] at e
      cases e
      simp only [Bool.and_eq_true, Nat.ble_eq] at hc
      have hl := ab2_len h1
      refine ⟨(st'.take n).reverse, st'.drop n, ?_, rfl, ab2_rev (ab2_take n h1), ab2_drop n h1⟩
      have hcc : n ≤ st'.length ∧ pv_cat (st'.drop n) ≤ 8 := ⟨by omega, ab_sat_ok (ab2_drop n h1) hc.2⟩
      simp only [pv_inv, if_pos hcc]
  · next c j' n ci =>
    split at e
    · next a r hd =>
      split at e
      · next b hb =>
        split at e
        · next ci' fs hcell =>
          cases hc : (ci' == ci && ab_sat r) with
          | false => rw [hc] at e; cases e
          | true =>
            rw [hc] at e
            cases e
            simp only [Bool.and_eq_true, beq_iff_eq] at hc
            have h3 := ab2_drop n h1
            rw [hd] at h3
            obtain ⟨v, r', e1, e2, e3⟩ := ab2_cons h3
            have e4 := ab_rv_ok e2 hb
            subst e4
            obtain ⟨ce, c1, c2⟩ := ab2_get h2 hcell
            match ce, c1, c2 with
            | .inr (cj, gs), c1, c2 =>
              obtain ⟨rfl, k2⟩ := c2
              refine ⟨.ref b :: (st'.take n).reverse, r', ?_, rfl, ⟨e2, ab2_rev (ab2_take n h1)⟩, e3⟩
              have hcc : cj = ci ∧ pv_cat r' ≤ 8 := ⟨hc.1, ab_sat_ok e3 hc.2⟩
              simp only [pv_inv, e1, c1, if_pos hcc]
            | .inl (u, m, .inl f), c1, c2 => exact c2.elim
            | .inl (u, m, .inr (.inl f)), c1, c2 => exact c2.elim
            | .inl (u, m, .inr (.inr f)), c1, c2 => exact c2.elim
        · cases e
      · cases e
    · cases e
  · next c j' n ci =>
    split at e
    · next a r hd =>
      cases hc : (ab_kd a == 2 && ab_sat r) with
      | false => rw [hc] at e; cases e
      | true =>
        rw [hc] at e
        cases e
        simp only [Bool.and_eq_true, beq_iff_eq] at hc
        have h3 := ab2_drop n h1
        rw [hd] at h3
        obtain ⟨v, r', e1, e2, e3⟩ := ab2_cons h3
        obtain ⟨b, rfl⟩ := ab_kd2 e2 hc.1
        refine ⟨.ref b :: (st'.take n).reverse, r', ?_, rfl, ⟨e2, ab2_rev (ab2_take n h1)⟩, e3⟩
        simp only [pv_inv, e1, if_pos (ab_sat_ok e3 hc.2)]
    · cases e
  · cases e
theorem ab_ret_ok {g : Nat} {i : Instr} {xs : List Nat} {G : ab_G} {st : List ab_V} {st' : List Value} (e : ab_ret i xs G st = true) (hG : G.1 ≤ g ∧ g ≤ G.2) (h1 : ab_all2 (ab_gv g) st st') : ∃ v : Option Value, pv_ret i xs st' = some v ∧ v.toList = st' := by
  unfold ab_ret at e
  split at e
  · next v =>
    obtain ⟨w, r, rfl, hw, hr⟩ := ab2_cons h1
    have := ab2_nil hr
    subst this
    split at e
    · obtain ⟨x, rfl⟩ := ab_kd0 hw (by simpa using e)
      exact ⟨some (.int x), rfl, rfl⟩
    · split at e
      · next p hp =>
        obtain ⟨x, rfl, hx⟩ := ab_iv_ok hG hw hp
        simp only [Bool.and_eq_true, Nat.ble_eq] at e
        refine ⟨some (.int x), ?_, rfl⟩
        have h01 : x = 0 ∨ x = 1 := by
          unfold ab_in at hx
          have e1 : ab_n (1 : Int32) = 2147483649 := by decide
          rw [ab_eqn, ab_eqn, ab_z, e1]
          omega
        simp only [pv_ret, if_pos h01]
      · cases e
    · cases e
  · next v =>
    obtain ⟨w, r, rfl, hw, hr⟩ := ab2_cons h1
    have := ab2_nil hr
    subst this
    obtain ⟨x, rfl⟩ := ab_kd1 hw (by simpa using e)
    exact ⟨some (.long x), rfl, rfl⟩
  · have := ab2_nil h1
    subst this
    exact ⟨none, rfl, rfl⟩
  · cases e
theorem ab_x_nri {i : Instr} {xs : List Nat} {k : Nat} {s : ab_S} {L : List (Nat × ab_S)} {st' : List Value} {h' : pv_H} (e : ab_x i xs k s = some L) : pv_ret i xs st' = none ∧ pv_inv i xs st' h' = none := by
  cases i
  case ireturn => cases e
  case lreturn => cases e
  case return_ => cases e
  case invokevirtual c => cases e
  case invokestatic c =>
    simp only [ab_x] at e
    refine ⟨rfl, ?_⟩
    split at e
    · rfl
    · rfl
    · rfl
    · rfl
    · cases e
  case invokespecial c =>
    simp only [ab_x] at e
    refine ⟨rfl, ?_⟩
    split at e
    · rfl
    · cases e
  all_goals exact ⟨rfl, rfl⟩
def ab_jn (jn : List (Nat × Nat)) (k : Nat) : Option Nat := match jn with
  | [] => none
  | q :: jn => bif q.1 == k then some q.2 else ab_jn jn k
def ab_hsl : List ab_S → Option ab_S
  | [] => none
  | s :: ss => match ss with
    | [] => some s
    | _ :: _ => match ab_hsl ss with
      | some t => ab_hs s t
      | none => none
def ab_spl (J : Nat) : List ab_O → List ab_S × List ab_O
  | [] => ([], [])
  | o :: os => match o.1 with
    | some k => bif k == J then (o.2 :: (ab_spl J os).1, (ab_spl J os).2) else ((ab_spl J os).1, o :: (ab_spl J os).2)
    | none => ((ab_spl J os).1, o :: (ab_spl J os).2)
def ab_many (go : Nat → ab_S → Option (List ab_O)) : List (Nat × ab_S) → Option (List ab_O)
  | [] => some []
  | q :: L => match go q.1 q.2, ab_many go L with
    | some a, some b => some (a ++ b)
    | _, _ => none
def ab_nx (go : List Nat → Nat → ab_S → Option (List ab_O)) (stops : List Nat) (k : Nat) (s : ab_S) : Option (List ab_O) := bif stops.elem k then some [(some k, s)] else go stops k s
abbrev ab_K : Type := Nat → List ab_V → ab_G → List ab_C → Option (List ab_V × ab_G × List ab_C)
def ab_go (call : ab_K) (rows : List pv_R) (jn : List (Nat × Nat)) : Nat → List Nat → Nat → ab_S → Option (List ab_O)
  | 0, _, _, _ => none
  | f + 1, stops, k, s => match rows[k]? with
    | none => none
    | some r => bif ab_ret r.2.1 r.2.2.2.1 s.1 s.2.2.1 then some [(none, (s.1, [], s.2.2.1, s.2.2.2))] else match ab_inv r.2.1 r.2.2.2.1 s.2.2.1 s.2.2.2 with
      | some (j, as, rest) => match call j as s.1 s.2.2.2 with
        | some (v, G, h) => ab_nx (fun stops k s => ab_go call rows jn f stops k s) stops (k + 1) (G, s.2.1, v ++ rest, h)
        | none => none
      | none => match ab_x r.2.1 r.2.2.2.1 k s with
        | none => none
        | some L => match L with
          | [q] => ab_nx (fun stops k s => ab_go call rows jn f stops k s) stops q.1 q.2
          | _ => match ab_jn jn k with
            | none => ab_many (fun k s => ab_nx (fun stops k s => ab_go call rows jn f stops k s) stops k s) L
            | some J => match ab_many (fun k s => ab_nx (fun stops k s => ab_go call rows jn f stops k s) (J :: stops) k s) L with
              | none => none
              | some os => match ab_hsl (ab_spl J os).1 with
                | none => (match (ab_spl J os).1 with
                  | [] => some (ab_spl J os).2
                  | _ => none)
                | some s' => match ab_nx (fun stops k s => ab_go call rows jn f stops k s) stops J s' with
                  | some o2 => some ((ab_spl J os).2 ++ o2)
                  | none => none
