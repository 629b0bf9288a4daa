section ABY
variable {g k : Nat} {s : ab_S} {lo : pv_L} {st : List Value} {h : pv_H}
theorem ab_st_3 {a b c : ab_V} {r : List ab_V} (hs : ab_gs g s lo st h) (e : s.2.2.1 = a :: b :: c :: r) : ∃ v w u st1, st = v :: w :: u :: st1 ∧ ab_gv g a v ∧ ab_gv g b w ∧ ab_gv g c u ∧ ab_all2 (ab_gv g) r st1 := by
  obtain ⟨v, w, st1, h1, h2, h3, h0⟩ := ab_st_2 hs e
  obtain ⟨u, st2, h4, h5, h6⟩ := ab2_cons h0
  exact ⟨v, w, u, st2, by rw [h1, h4], h2, h3, h5, h6⟩
theorem ab_lald_ok (hs : ab_gs g s lo st h) : ab_ok g (ab_ald 2 3 k s) (pv_x .laload [] k lo st h) := by
  unfold ab_ald
  split
  · next i a r hst =>
    obtain ⟨vi, va, st2, rfl, hi, ha, h4⟩ := ab_st_2 hs hst
    split
    · next p b hp hb =>
      obtain ⟨x', rfl, hx'⟩ := ab_iv_ok hs.1 hi hp
      have := ab_rv_ok ha hb
      subst this
      split
      · next t' n df es hcell =>
        obtain ⟨e, he1, he2⟩ := ab2_get hs.2.2.2 hcell
        cases hc : (t' == 3 && (Nat.ble 2147483648 p.1 && Nat.blt p.2 (n + 2147483648))) with
        | false => exact ab_no
        | true =>
          simp only [Bool.and_eq_true, beq_iff_eq, Nat.ble_eq, Nat.blt_eq] at hc
          obtain ⟨j1, j2, j3, j4⟩ := ab_idx hx' hc.2.1 hc.2.2
          match e, he1, he2 with
          | .inl (u, m, .inr (.inl f)), he1, he2 =>
            obtain ⟨rfl, rfl, k1, k2⟩ := he2
            rw [cond_true]
            simp only [pv_x, he1]
            rw [if_pos hc.1, if_neg j1]
            exact ab_psh_ok hs (ab_gv2 (ab_ldr_ok (k2 _ j4) j2 j3)) h4
          | .inl (u, m, .inl f), he1, he2 =>
            have := he2.2.2.1
            omega
          | .inl (u, m, .inr (.inr f)), he1, he2 => exact he2.elim
          | .inr o, he1, he2 => exact he2.elim
      · exact ab_no
    · exact ab_no
  · exact ab_no
theorem ab_ast_ok {t : Nat} {F : Nat × Nat → Nat × Nat} {f9 : Int32 → Int32} (ht : t < 3) (hF : ∀ {p x}, ab_in p x → ab_in (F p) (f9 x)) (hs : ab_gs g s lo st h) : ab_ok g (ab_ast t F k s) (pv_ast t f9 k lo st h) := by
  unfold ab_ast
  split
  · next v i a r hst =>
    obtain ⟨vv, vi, va, st2, rfl, hv, hi, ha, h4⟩ := ab_st_3 hs hst
    split
    · next w p b hw hp hb =>
      obtain ⟨y', rfl, hy'⟩ := ab_iv_ok hs.1 hv hw
      obtain ⟨x', rfl, hx'⟩ := ab_iv_ok hs.1 hi hp
      have := ab_rv_ok ha hb
      subst this
      split
      · next t' n df es hcell =>
        obtain ⟨e, he1, he2⟩ := ab2_get hs.2.2.2 hcell
        cases hc : (t' == t && (Nat.ble 2147483648 p.1 && Nat.blt p.2 (n + 2147483648))) with
        | false => exact ab_no
        | true =>
          simp only [Bool.and_eq_true, beq_iff_eq, Nat.ble_eq, Nat.blt_eq] at hc
          obtain ⟨j1, j2, j3, j4⟩ := ab_idx hx' hc.2.1 hc.2.2
          match e, he1, he2 with
          | .inl (u, m, .inl f), he1, he2 =>
            obtain ⟨rfl, rfl, k1, k2⟩ := he2
            rw [cond_true]
            unfold pv_ast
            simp only [he1]
            rw [if_pos hc.1, if_neg j1]
            intro L hL
            cases hL
            refine ⟨_, _, _, _, _, rfl, List.mem_singleton_self _, hs.1, hs.2.1, h4, ab2_set hs.2.2.2 ⟨rfl, rfl, k1, fun j hj => ?_⟩⟩
            have hz := ab_sto_ok (F := fun j => ab_n (f j)) (X := ab_n (f9 y')) k2 j2 j3 (hF hy') j hj
            have e9 : ab_n (upd f x'.toNatClampNeg (f9 y') j) = if j = x'.toNatClampNeg then ab_n (f9 y') else ab_n (f j) := by
              unfold upd
              split <;> rfl
            unfold ab_in
            rw [e9]
            exact hz
          | .inl (u, m, .inr (.inl f)), he1, he2 =>
            have := he2.2.2.1
            omega
          | .inl (u, m, .inr (.inr f)), he1, he2 => exact he2.elim
          | .inr o, he1, he2 => exact he2.elim
      · exact ab_no
    · exact ab_no
  · exact ab_no
theorem ab_lst_ok (hs : ab_gs g s lo st h) : ab_ok g (ab_lst k s) (pv_x .lastore [] k lo st h) := by
  unfold ab_lst
  split
  · next v i a r hst =>
    obtain ⟨vv, vi, va, st2, rfl, hv, hi, ha, h4⟩ := ab_st_3 hs hst
    split
    · next w p b hw hp hb =>
      obtain ⟨y', rfl, hy'⟩ := ab_lv_ok hv hw
      obtain ⟨x', rfl, hx'⟩ := ab_iv_ok hs.1 hi hp
      have := ab_rv_ok ha hb
      subst this
      split
      · next t' n df es hcell =>
        obtain ⟨e, he1, he2⟩ := ab2_get hs.2.2.2 hcell
        cases hc : (t' == 3 && (Nat.ble 2147483648 p.1 && Nat.blt p.2 (n + 2147483648))) with
        | false => exact ab_no
        | true =>
          simp only [Bool.and_eq_true, beq_iff_eq, Nat.ble_eq, Nat.blt_eq] at hc
          obtain ⟨j1, j2, j3, j4⟩ := ab_idx hx' hc.2.1 hc.2.2
          match e, he1, he2 with
          | .inl (u, m, .inr (.inl f)), he1, he2 =>
            obtain ⟨rfl, rfl, k1, k2⟩ := he2
            rw [cond_true]
            simp only [pv_x, he1]
            rw [if_pos hc.1, if_neg j1]
            intro L hL
            cases hL
            refine ⟨_, _, _, _, _, rfl, List.mem_singleton_self _, hs.1, hs.2.1, h4, ab2_set hs.2.2.2 ⟨rfl, rfl, k1, fun j hj => ?_⟩⟩
            have hz := ab_sto_ok (F := fun j => ab_m (f j)) (X := ab_m y') k2 j2 j3 hy' j hj
            have e9 : ab_m (vp_updL f x'.toNatClampNeg y' j) = if j = x'.toNatClampNeg then ab_m y' else ab_m (f j) := by
              unfold vp_updL
              split <;> rfl
            unfold ab_im
            rw [e9]
            exact hz
          | .inl (u, m, .inl f), he1, he2 =>
            have := he2.2.2.1
            omega
          | .inl (u, m, .inr (.inr f)), he1, he2 => exact he2.elim
          | .inr o, he1, he2 => exact he2.elim
      · exact ab_no
    · exact ab_no
  · exact ab_no
theorem ab_bool_ok {p : Nat × Nat} {x : Int32} (hp : ab_in p x) : ab_in (ab_bool p) (vp_nar .boolean x) := by
  have e : vp_nar .boolean x = x &&& 1 := rfl
  have e1 : ab_n (1 : Int32) = 2147483649 := by decide
  have hr := ab_and_r (x := x) (y := 1) (by rw [e1]; decide)
  rw [e]
  rw [e1] at hr
  unfold ab_bool
  cases hc : (Nat.ble 2147483648 p.1 && Nat.ble p.2 2147483649) with
  | false => exact hr
  | true =>
    simp only [Bool.and_eq_true, Nat.ble_eq] at hc
    rw [cond_true]
    unfold ab_in at hp
    have : ab_n x = 2147483648 ∨ ab_n x = 2147483649 := by omega
    have e2 : x &&& 1 = x := by
      rcases this with q | q
      · rw [← ab_i_n x, q]; decide
      · rw [← ab_i_n x, q]; decide
    rw [e2]
    exact hp
theorem ab_byte_ok {p : Nat × Nat} {x : Int32} (hp : ab_in p x) : ab_in (ab_byte p) (vp_nar .byte x) := by
  have e : vp_nar .byte x = x.toInt8.toInt32 := rfl
  rw [e]
  have e1 : x.toInt8.toInt32.toInt = x.toInt.bmod (2 ^ 8) := by
    rw [Int8.toInt_toInt32, Int32.toInt_toInt8]
  have e2 := ab_n_int x
  have e3 := ab_n_int x.toInt8.toInt32
  rw [e1, Int.bmod_def] at e3
  unfold ab_byte ab_in at *
  cases hc : (Nat.ble 2147483520 p.1 && Nat.ble p.2 2147483775) with
  | false => rw [cond_false]; simp only []; omega
  | true =>
    simp only [Bool.and_eq_true, Nat.ble_eq] at hc
    rw [cond_true]
    omega
theorem ab_ty_ok {ty : FieldType} {a : ab_V} {v : Value} (hv : ab_gv g a v) (ht : ab_ty ty a = true) : narrow ty v = v ∧ fits ty v = true := by
  cases ty <;> simp only [ab_ty, beq_iff_eq] at ht <;> try (cases ht; done)
  · obtain ⟨x, rfl⟩ := ab_kd0 hv ht; exact ⟨rfl, rfl⟩
  · obtain ⟨x, rfl⟩ := ab_kd1 hv ht; exact ⟨rfl, rfl⟩
  · obtain ⟨x, rfl⟩ := ab_kd2 hv ht; exact ⟨rfl, rfl⟩
  · obtain ⟨x, rfl⟩ := ab_kd2 hv ht; exact ⟨rfl, rfl⟩
theorem ab_inc_ok {G : ab_G} {a b : ab_V} {x : Int32} {n : Int} (hG : G.1 ≤ g ∧ g ≤ G.2) (ha : ab_gv g a (.int x)) (e : ab_inc G a n = some b) : ab_gv g b (.int (x + Int32.ofInt n)) := by
  unfold ab_inc at e
  cases hc : (a.1 == 1 && (decide (n = 1) && Nat.ble (G.2 + a.2.1) 4294967294)) with
  | true =>
    rw [hc] at e
    cases e
    simp only [Bool.and_eq_true, Nat.ble_eq, decide_eq_true_eq] at hc
    have h1 := ab_tag ha hc.1
    show ∃ y, Value.int (x + Int32.ofInt n) = .int y ∧ ab_n y = g + (a.2.1 + 1)
    refine ⟨x + Int32.ofInt n, rfl, ?_⟩
    have h2 := ab_n_int x
    have h3 := ab_n_int (x + Int32.ofInt n)
    rw [hc.2.1] at h3 ⊢
    have h4 : (x + Int32.ofInt 1).toInt = x.toInt + 1 := by
      have h5 : (Int32.ofInt 1).toInt = 1 := by decide
      rw [Int32.toInt_add, h5]
      exact Int.bmod_eq_of_le (by have := x.le_toInt; omega) (by omega)
    rw [h4] at h3
    omega
  | false =>
    rw [hc, cond_false] at e
    split at e
    · next p hp =>
      have e2 := Option.some.inj e
      rw [← e2]
      have hx' : ab_in p x := by
        obtain ⟨x', e1, hx'⟩ := ab_iv_ok hG ha hp
        cases e1
        exact hx'
      have h9 : ab_in (ab_add p (ab_n (Int32.ofInt n), ab_n (Int32.ofInt n))) (x + Int32.ofInt n) := ab_add_ok hx' (ab_in_self (Int32.ofInt n))
      generalize ab_add p (ab_n (Int32.ofInt n), ab_n (Int32.ofInt n)) = r at h9 ⊢
      generalize x + Int32.ofInt n = y at h9 ⊢
      exact ab_gv0 h9
    · cases e
end ABY
