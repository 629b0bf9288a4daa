section ABW
variable {g k : Nat} {s : ab_S} {lo : pv_L} {st : List Value} {h : pv_H}
theorem ab_pos {p : Nat × Nat} {x : Int32} (hp : ab_in p x) (h1 : p.1 = p.2) (h2 : 2147483648 ≤ p.1) : ¬ x < 0 ∧ x.toNatClampNeg = p.1 - 2147483648 := by
  have h3 := ab_n_int x
  unfold ab_in at hp
  have h4 : x.toNatClampNeg = x.toInt.toNat := rfl
  have h5 : ¬ x < 0 := by rw [ab_ltn, ab_z]; omega
  exact ⟨h5, by omega⟩
theorem ab_cpx_ok {c : Nat} {xs : List Nat} (hs : ab_gs g s lo st h) : ab_ok g (ab_x (.invokestatic c) xs k s) (pv_x (.invokestatic c) xs k lo st h) := by
  simp only [ab_x]
  split
  · next xs y x r hst =>
    obtain ⟨vy, vx, st2, rfl, hy, hx, h4⟩ := ab_st_2 hs hst
    split
    · next p q hp hq =>
      obtain ⟨x', rfl, hx'⟩ := ab_iv_ok hs.1 hx hp
      obtain ⟨y', rfl, hy'⟩ := ab_iv_ok hs.1 hy hq
      cases hc : Nat.ble ((r.map ab_ct).sum) 8 with
      | false => exact ab_no
      | true =>
        rw [cond_true]
        simp only [pv_x, if_pos (ab_cat_ok h4 hc)]
        exact ab_psh_ok hs (ab_gv0 (ab_max_ok hx' hy')) h4
    · exact ab_no
  · next xs y x r hst =>
    obtain ⟨vy, vx, st2, rfl, hy, hx, h4⟩ := ab_st_2 hs hst
    split
    · next p q hp hq =>
      obtain ⟨x', rfl, hx'⟩ := ab_iv_ok hs.1 hx hp
      obtain ⟨y', rfl, hy'⟩ := ab_iv_ok hs.1 hy hq
      cases hc : Nat.ble ((r.map ab_ct).sum) 8 with
      | false => exact ab_no
      | true =>
        rw [cond_true]
        simp only [pv_x, if_pos (ab_cat_ok h4 hc)]
        exact ab_psh_ok hs (ab_gv0 (ab_min_ok hx' hy')) h4
    · exact ab_no
  · next xs x r hst =>
    obtain ⟨vx, st2, rfl, hx, h4⟩ := ab_st_1 hs hst
    split
    · next p hp =>
      obtain ⟨x', rfl, hx'⟩ := ab_iv_ok hs.1 hx hp
      cases hc : Nat.ble ((r.map ab_ct).sum) 8 with
      | false => exact ab_no
      | true =>
        rw [cond_true]
        simp only [pv_x, if_pos (ab_cat_ok h4 hc)]
        exact ab_psh_ok hs (ab_gv0 (ab_abs_ok hx')) h4
    · exact ab_no
  · next xs n dp a sp a0 r hst =>
    obtain ⟨vn, vd, va, st2, rfl, hn, hd, ha, h4⟩ := ab_st_3 hs hst
    obtain ⟨vs, st3, rfl, hsp, h5⟩ := ab2_cons h4
    obtain ⟨v0, st4, rfl, h0, h6⟩ := ab2_cons h5
    split
    · next n9 d9 b sp9 b0 en ed eb es e0 =>
      obtain ⟨n', rfl, hn'⟩ := ab_iv_ok hs.1 hn en
      obtain ⟨d', rfl, hd'⟩ := ab_iv_ok hs.1 hd ed
      obtain ⟨s', rfl, hs'⟩ := ab_iv_ok hs.1 hsp es
      have q1 := ab_rv_ok ha eb
      subst q1
      have q2 := ab_rv_ok h0 e0
      subst q2
      split
      · next t0 n0 df0 es0 t1 n1 df1 es1 hc0 hc1 =>
        obtain ⟨c0, c01, c02⟩ := ab2_get hs.2.2.2 hc0
        obtain ⟨c1, c11, c12⟩ := ab2_get hs.2.2.2 hc1
        cases hc : ab_cpc t0 t1 n9 d9 sp9 n0 n1 r with
        | false => exact ab_no
        | true =>
          rw [cond_true]
          unfold ab_cpc at hc
          simp only [Bool.and_eq_true, beq_iff_eq, Nat.ble_eq] at hc
          obtain ⟨⟨z1, z2⟩, ⟨⟨z3, z4⟩, z5⟩, ⟨⟨z6, z7⟩, z8⟩, ⟨z9, z10⟩, z11⟩ := hc
          have cat : pv_cat st4 ≤ 8 := by rw [ab_ct_sum h6]; exact z11
          obtain ⟨w1, w2⟩ := ab_pos hn' z3 z6
          obtain ⟨w3, w4⟩ := ab_pos hd' z4 z7
          obtain ⟨w5, w6⟩ := ab_pos hs' z5 z8
          match c0, c01, c02, c1, c11, c12 with
          | .inl (u0, m0, .inl f0), c01, c02, .inl (u1, m1, .inl f1), c11, c12 =>
            obtain ⟨rfl, rfl, k1, k2⟩ := c02
            obtain ⟨rfl, rfl, k3, k4⟩ := c12
            have hcc : u0 = 0 ∧ u1 = 0 ∧ pv_cat st4 ≤ 8 ∧ ¬ s' < 0 ∧ ¬ d' < 0 ∧ ¬ n' < 0 ∧ s'.toNatClampNeg + n'.toNatClampNeg ≤ m0 ∧ d'.toNatClampNeg + n'.toNatClampNeg ≤ m1 := ⟨z1, z2, cat, w5, w3, w1, by rw [w6, w2]; exact z9, by rw [w4, w2]; exact z10⟩
            rw [← w2, ← w4, ← w6]
            intro L hL
            cases hL
            refine ⟨k + 1, lo, st4, h.set b (.inl (u1, m1, .inl (va_cpy f0 f1 s'.toNatClampNeg d'.toNatClampNeg n'.toNatClampNeg))), _, ?_, List.mem_singleton_self _, hs.1, hs.2.1, h6, ab2_set hs.2.2.2 ⟨rfl, rfl, k3, fun j hj => ?_⟩⟩
            · simp only [pv_x, c01, c11, if_pos hcc]
            · rw [ab_cp_el hj]
              unfold va_cpy
              by_cases hr : d'.toNatClampNeg ≤ j ∧ j < d'.toNatClampNeg + n'.toNatClampNeg
              · rw [if_pos hr, if_pos hr]
                exact k2 _ (by have := hcc.2.2.2.2.2.2.1; omega)
              · rw [if_neg hr, if_neg hr]
                exact k4 j hj
          | .inl (u0, m0, .inr (.inl f0)), c01, c02, _, c11, c12 => exact absurd (z1.symm.trans c02.2.2.1) (by decide)
          | .inl (u0, m0, .inr (.inr f0)), c01, c02, _, c11, c12 => exact c02.elim
          | .inr o, c01, c02, _, c11, c12 => exact c02.elim
          | .inl (u0, m0, .inl f0), c01, c02, .inl (u1, m1, .inr (.inl f1)), c11, c12 => exact absurd (z2.symm.trans c12.2.2.1) (by decide)
          | .inl (u0, m0, .inl f0), c01, c02, .inl (u1, m1, .inr (.inr f1)), c11, c12 => exact c12.elim
          | .inl (u0, m0, .inl f0), c01, c02, .inr o, c11, c12 => exact c12.elim
      · exact ab_no
    · exact ab_no
  · exact ab_no
end ABW
theorem ab_inc_kd {G : ab_G} {a b : ab_V} {n : Int} (e : ab_inc G a n = some b) (hk : ab_kd a ≠ 0) : False := by
  obtain ⟨t, p, q⟩ := a
  match t, e, hk with
  | 0, e, hk => exact hk rfl
  | 1, e, hk => exact hk rfl
  | t + 2, e, hk =>
    have h1 : ab_inc G (t + 2, p, q) n = none := by
      unfold ab_inc
      rw [show ((t + 2, p, q).1 == 1) = false from beq_false_of_ne (by simp)]
      rfl
    rw [h1] at e
    cases e
theorem ab_iv_kd {G : ab_G} {a : ab_V} (hk : ab_kd a ≠ 0) : ab_iv G a = none := by
  obtain ⟨t, p, q⟩ := a
  match t, hk with
  | 0, hk => exact (hk rfl).elim
  | 1, hk => exact (hk rfl).elim
  | t + 2, hk => rfl
theorem ab_br_no {g k t : Nat} {s : ab_S} {c : Jvm.ClassFile.Cond} {x y : ab_V} {r : List ab_V} {o : Option pv_C} (hk : ab_kd x ≠ 0) : ab_ok g (ab_br c t k s x y r) o := by
  unfold ab_br
  rw [ab_iv_kd hk]
  exact ab_no
theorem ab_br_no2 {g k t : Nat} {s : ab_S} {c : Jvm.ClassFile.Cond} {x y : ab_V} {r : List ab_V} {o : Option pv_C} (hk : ab_kd y ≠ 0) : ab_ok g (ab_br c t k s x y r) o := by
  unfold ab_br
  rw [ab_iv_kd hk]
  cases ab_iv s.1 x <;> exact ab_no
theorem ab_nz {q : Nat × Nat} {y : Int32} (h : ab_in q y) (hc : Nat.blt 2147483648 q.1 = true) : ¬ y = 0 := by
  intro e
  rw [Nat.blt_eq] at hc
  unfold ab_in at h
  rw [e, ab_z] at h
  omega
theorem ab_nz64 {q : Nat × Nat} {y : Int64} (h : ab_im q y) (hc : Nat.blt 0 q.1 = true) : ¬ y = 0 := by
  intro e
  rw [Nat.blt_eq] at hc
  unfold ab_im at h
  have : ab_m 0 = 0 := by decide
  rw [e, this] at h
  omega
