section ABZ
variable {g k : Nat} {s : ab_S} {lo : pv_L} {st : List Value} {h : pv_H}
theorem ab_con_ok (x : Int32) : ab_gv g (ab_con x) (.int x) := ⟨x, rfl, ab_in_self x⟩
theorem ab_con64_ok (x : Int64) : ab_gv g (ab_con64 x) (.long x) := ⟨x, rfl, ab_im_self x⟩
theorem ab_z1 (y : Int32) : (0 : Int64) <<< (y.toInt64 &&& 63) = 0 := by
  apply Int64.toBitVec_inj.mp
  simp
theorem ab_z2 (y : Int32) : (0 : Int64) >>> (y.toInt64 &&& 63) = 0 := by
  apply Int64.toBitVec_inj.mp
  simp
theorem ab_z3 (y : Int32) : ((0 : Int64).toUInt64 >>> (y.toInt64.toUInt64 &&& Int64.toUInt64 63)).toInt64 = 0 := by
  apply Int64.toBitVec_inj.mp
  simp
theorem ab_cat_ok {r : List ab_V} {st' : List Value} (hr : ab_all2 (ab_gv g) r st') (hc : Nat.ble ((r.map ab_ct).sum) 8 = true) : pv_cat st' ≤ 8 := by
  rw [ab_ct_sum hr]
  exact Nat.ble_eq.mp hc
theorem ab_tsw_mem {s : ab_S} {p : Nat × Nat} : ∀ (ts : List Nat) (n m t : Nat), ts[m]? = some t → p.1 ≤ n + m → n + m ≤ p.2 → (t, s) ∈ ab_tsw s n ts p
  | [], _, _, _, h, _, _ => by cases h
  | u :: ts, n, 0, t, h, h1, h2 => by
    cases h
    unfold ab_tsw
    rw [show (Nat.ble p.1 n && Nat.ble n p.2) = true by simp only [Bool.and_eq_true, Nat.ble_eq]; omega, cond_true]
    exact List.mem_cons_self
  | u :: ts, n, m + 1, t, h, h1, h2 => by
    have ih := ab_tsw_mem (s := s) (p := p) ts (n + 1) m t (by simpa using h) (by omega) (by omega)
    unfold ab_tsw
    cases (Nat.ble p.1 n && Nat.ble n p.2) with
    | true => exact List.mem_cons_of_mem _ ih
    | false => exact ih
theorem ab_tsx_ok {xs : List Nat} {df lo9 hi9 : Int} {offs : Array Int} (hs : ab_gs g s lo st h) : ab_ok g (ab_x (.tableswitch df lo9 hi9 offs) xs k s) (pv_x (.tableswitch df lo9 hi9 offs) xs k lo st h) := by
  simp only [ab_x]
  split
  · next xs d ts x r hst =>
    obtain ⟨vx, st2, rfl, hx, h4⟩ := ab_st_1 hs hst
    split
    · next p hp =>
      obtain ⟨x', rfl, hx'⟩ := ab_iv_ok hs.1 hx hp
      cases hc : decide (-2147483648 ≤ lo9 ∧ hi9 - lo9 < (ts.length : Int) ∧ lo9 ≤ hi9) with
      | false => exact ab_no
      | true =>
        have hc' := of_decide_eq_true hc
        rw [cond_true]
        intro L hL
        cases hL
        have hn := ab_n_int x'
        unfold ab_in at hx'
        have hgs : ab_gs g (s.1, s.2.1, r, s.2.2.2) lo st2 h := ⟨hs.1, hs.2.1, h4, hs.2.2.2⟩
        by_cases ho : x'.toInt < lo9 ∨ hi9 < x'.toInt
        · refine ⟨d, lo, st2, h, _, by simp only [pv_x, if_pos ho], List.mem_append_left _ ?_, hgs⟩
          have : (Nat.blt p.1 (lo9 + 2147483648).toNat || Nat.blt (hi9 + 2147483648).toNat p.2) = true := by
            simp only [Bool.or_eq_true, Nat.blt_eq]
            omega
          rw [this]
          exact List.mem_singleton_self _
        · have hlt : (x'.toInt - lo9).toNat < ts.length := by omega
          have ht : ts[(x'.toInt - lo9).toNat]? = some ts[(x'.toInt - lo9).toNat] := List.getElem?_eq_getElem hlt
          exact ⟨_, lo, st2, h, _, by simp only [pv_x, if_neg ho, ht], List.mem_append_right _ (ab_tsw_mem ts _ _ _ ht (by omega) (by omega)), hgs⟩
    · exact ab_no
  · exact ab_no
theorem ab_gf_ok {xs : List Nat} {c : Nat} (hs : ab_gs g s lo st h) : ab_ok g (ab_x (.getfield c) xs k s) (pv_x (.getfield c) xs k lo st h) := by
  simp only [ab_x]
  split
  · next xs ci j a r hst =>
    obtain ⟨va, st2, rfl, ha, h4⟩ := ab_st_1 hs hst
    split
    · next b hb =>
      have := ab_rv_ok ha hb
      subst this
      split
      · next ci' fs hcell =>
        obtain ⟨e, he1, he2⟩ := ab2_get hs.2.2.2 hcell
        cases hc : (ci' == ci) with
        | false => exact ab_no
        | true =>
          rw [cond_true]
          split
          · next v hv =>
            match e, he1, he2 with
            | .inr (cj, gs), he1, he2 =>
              obtain ⟨rfl, k2⟩ := he2
              obtain ⟨w, hw1, hw2⟩ := ab2_get k2 hv
              have hc' : cj = ci := by simpa using hc
              simp only [pv_x, he1, if_pos hc', hw1]
              exact ab_psh_ok hs hw2 h4
            | .inl (u, m, .inl f), he1, he2 => exact he2.elim
            | .inl (u, m, .inr (.inl f)), he1, he2 => exact he2.elim
            | .inl (u, m, .inr (.inr f)), he1, he2 => exact he2.elim
          · exact ab_no
      · exact ab_no
    · exact ab_no
  · exact ab_no
theorem ab_pf_ok {xs : List Nat} {c : Nat} (hs : ab_gs g s lo st h) : ab_ok g (ab_x (.putfield c) xs k s) (pv_x (.putfield c) xs k lo st h) := by
  simp only [ab_x]
  split
  · next xs ci j v a r hst =>
    obtain ⟨vv, va, st2, rfl, hv, ha, h4⟩ := ab_st_2 hs hst
    split
    · next b hb =>
      have := ab_rv_ok ha hb
      subst this
      split
      · next ci' fs hcell =>
        obtain ⟨e, he1, he2⟩ := ab2_get hs.2.2.2 hcell
        cases hc : (ci' == ci && (Nat.blt j fs.length && ab_ty (pv_tyX ci j) v)) with
        | false => exact ab_no
        | true =>
          rw [cond_true]
          simp only [Bool.and_eq_true, beq_iff_eq, Nat.blt_eq] at hc
          match e, he1, he2 with
          | .inr (cj, gs), he1, he2 =>
            obtain ⟨rfl, k2⟩ := he2
            have ht := ab_ty_ok hv hc.2.2
            have hl := ab2_len k2
            intro L hL
            cases hL
            refine ⟨k + 1, lo, st2, h.set b (.inr (cj, gs.set j vv)), _, ?_, List.mem_singleton_self _, hs.1, hs.2.1, h4, ab2_set hs.2.2.2 ⟨rfl, ab2_set k2 hv⟩⟩
            have hcc : cj = ci ∧ j < gs.length ∧ narrow (pv_tyX ci j) vv = vv ∧ fits (pv_tyX ci j) vv = true := ⟨hc.1, by omega, ht.1, ht.2⟩
            simp only [pv_x, he1, if_pos hcc]
          | .inl (u, m, .inl f), he1, he2 => exact he2.elim
          | .inl (u, m, .inr (.inl f)), he1, he2 => exact he2.elim
          | .inl (u, m, .inr (.inr f)), he1, he2 => exact he2.elim
      · exact ab_no
    · exact ab_no
  · exact ab_no
theorem ab_al_ok {xs : List Nat} (hs : ab_gs g s lo st h) : ab_ok g (ab_x .arraylength xs k s) (pv_x .arraylength xs k lo st h) := by
  simp only [ab_x]
  split
  · next a r hst =>
    obtain ⟨va, st2, rfl, ha, h4⟩ := ab_st_1 hs hst
    split
    · next b hb =>
      have := ab_rv_ok ha hb
      subst this
      split
      · next t' n df hcell =>
        obtain ⟨e, he1, he2⟩ := ab2_get hs.2.2.2 hcell
        match e, he1, he2 with
        | .inl (u, m, .inl f), he1, he2 =>
          obtain ⟨rfl, rfl, k1, k2⟩ := he2
          have k9 : u < 4 := Nat.lt_of_lt_of_le k1 (by decide)
          simp only [pv_x, he1]
          rw [if_pos k9]
          exact ab_psh_ok hs (ab_con_ok _) h4
        | .inl (u, m, .inr (.inl f)), he1, he2 =>
          obtain ⟨rfl, rfl, k1, k2⟩ := he2
          have k9 : u < 4 := by rw [k1]; decide
          simp only [pv_x, he1]
          rw [if_pos k9]
          exact ab_psh_ok hs (ab_con_ok _) h4
        | .inl (u, m, .inr (.inr f)), he1, he2 => exact he2.elim
        | .inr o, he1, he2 => exact he2.elim
      · exact ab_no
    · exact ab_no
  · exact ab_no
end ABZ
