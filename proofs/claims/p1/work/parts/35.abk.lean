/-! an instruction over bounds is right -/
def ab_ok (g : Nat) (r : ab_Q) (c : Option pv_C) : Prop := ∀ L, r = some L → ∃ k' lo' st' h' s', c = some (k', lo', st', h') ∧ (k', s') ∈ L ∧ ab_gs g s' lo' st' h'
theorem ab_gv0 {g : Nat} {p : Nat × Nat} {x : Int32} (h : ab_in p x) : ab_gv g (0, p) (.int x) := ⟨x, rfl, h⟩
theorem ab_gv2 {g : Nat} {p : Nat × Nat} {x : Int64} (h : ab_im p x) : ab_gv g (2, p) (.long x) := ⟨x, rfl, h⟩
section ABX
variable {g k : Nat} {s : ab_S} {lo : pv_L} {st : List Value} {h : pv_H}
theorem ab_psh_ok {a : ab_V} {r : List ab_V} {v : Value} {st' : List Value} (hs : ab_gs g s lo st h) (hv : ab_gv g a v) (hr : ab_all2 (ab_gv g) r st') : ab_ok g (ab_psh k s a r) (some (k + 1, lo, v :: st', h)) := by
  intro L hL
  cases hL
  exact ⟨_, _, _, _, _, rfl, List.mem_singleton_self _, hs.1, hs.2.1, ⟨hv, hr⟩, hs.2.2.2⟩
theorem ab_no {c : Option pv_C} : ab_ok g none c := fun _ h => by cases h
theorem ab_lod_ok {i t : Nat} (hs : ab_gs g s lo st h) : ab_ok g (ab_lod s i k t) (pv_lod lo i k t st h) := by
  unfold ab_lod
  split
  · next a ha =>
    obtain ⟨v, h1, h2⟩ := hs.2.1 i a ha
    cases hc : (ab_kd a == t && Nat.blt t 3) with
    | false => exact ab_no
    | true =>
      simp only [Bool.and_eq_true, beq_iff_eq, Nat.blt_eq] at hc
      rw [cond_true]
      unfold pv_lod
      rw [h1]
      rcases ab_kd_all h2 with ⟨q, x, rfl⟩ | ⟨q, x, rfl⟩ | ⟨q, x, rfl⟩ | q
      · rw [← hc.1, q]; exact ab_psh_ok hs h2 hs.2.2.1
      · rw [← hc.1, q]; exact ab_psh_ok hs h2 hs.2.2.1
      · rw [← hc.1, q]; exact ab_psh_ok hs h2 hs.2.2.1
      · omega
  · exact ab_no
theorem ab_st10_ok {i : Nat} (hs : ab_gs g s lo st h) : ab_ok g (ab_st1 s i k 0) (pv_sto lo i k 0 st h) := by
  unfold ab_st1
  split
  · next a r hst =>
    have h2 := hs.2.2.1
    rw [hst] at h2
    obtain ⟨v, st1, rfl, hv, h3⟩ := ab2_cons h2
    cases hc : (ab_kd a == 0) with
    | false => exact ab_no
    | true =>
      obtain ⟨x, rfl⟩ := ab_kd0 hv (by simpa using hc)
      intro L hL
      cases hL
      exact ⟨_, _, _, _, _, rfl, List.mem_singleton_self _, hs.1, ab_set1_ok hs.2.1 hv, h3, hs.2.2.2⟩
  · exact ab_no
theorem ab_st12_ok {i : Nat} (hs : ab_gs g s lo st h) : ab_ok g (ab_st1 s i k 2) (pv_sto lo i k 2 st h) := by
  unfold ab_st1
  split
  · next a r hst =>
    have h2 := hs.2.2.1
    rw [hst] at h2
    obtain ⟨v, st1, rfl, hv, h3⟩ := ab2_cons h2
    cases hc : (ab_kd a == 2) with
    | false => exact ab_no
    | true =>
      obtain ⟨x, rfl⟩ := ab_kd2 hv (by simpa using hc)
      intro L hL
      cases hL
      exact ⟨_, _, _, _, _, rfl, List.mem_singleton_self _, hs.1, ab_set1_ok hs.2.1 hv, h3, hs.2.2.2⟩
  · exact ab_no
theorem ab_st2_ok {i : Nat} (hs : ab_gs g s lo st h) : ab_ok g (ab_st2 s i k) (pv_sto lo i k 1 st h) := by
  unfold ab_st2
  split
  · next a r hst =>
    have h2 := hs.2.2.1
    rw [hst] at h2
    obtain ⟨v, st1, rfl, hv, h3⟩ := ab2_cons h2
    cases hc : (ab_kd a == 1) with
    | false => exact ab_no
    | true =>
      obtain ⟨x, rfl⟩ := ab_kd1 hv (by simpa using hc)
      intro L hL
      cases hL
      exact ⟨_, _, _, _, _, rfl, List.mem_singleton_self _, hs.1, ab_set2_ok hs.2.1 hv, h3, hs.2.2.2⟩
  · exact ab_no
theorem ab_st_1 {a : ab_V} {r : List ab_V} (hs : ab_gs g s lo st h) (e : s.2.2.1 = a :: r) : ∃ v st1, st = v :: st1 ∧ ab_gv g a v ∧ ab_all2 (ab_gv g) r st1 := by
  have h2 := hs.2.2.1
  rw [e] at h2
  exact ab2_cons h2
theorem ab_st_2 {a b : ab_V} {r : List ab_V} (hs : ab_gs g s lo st h) (e : s.2.2.1 = a :: b :: r) : ∃ v w st1, st = v :: w :: st1 ∧ ab_gv g a v ∧ ab_gv g b w ∧ ab_all2 (ab_gv g) r st1 := by
  obtain ⟨v, st1, h1, h2, h3⟩ := ab_st_1 hs e
  obtain ⟨w, st2, h4, h5, h6⟩ := ab2_cons h3
  exact ⟨v, w, st2, by rw [h1, h4], h2, h5, h6⟩
theorem ab_i2_ok {F : Nat × Nat → Nat × Nat → Nat × Nat} {f : Int32 → Int32 → Int32} (hF : ∀ {p q x y}, ab_in p x → ab_in q y → ab_in (F p q) (f x y)) (hs : ab_gs g s lo st h) : ab_ok g (ab_i2 F k s) (pv_i2 f k lo st h) := by
  unfold ab_i2
  split
  · next y x r hst =>
    obtain ⟨vy, vx, st2, rfl, hy, hx, h4⟩ := ab_st_2 hs hst
    split
    · next p q hp hq =>
      obtain ⟨x', rfl, hx'⟩ := ab_iv_ok hs.1 hx hp
      obtain ⟨y', rfl, hy'⟩ := ab_iv_ok hs.1 hy hq
      exact ab_psh_ok hs (ab_gv0 (hF hx' hy')) h4
    · exact ab_no
  · exact ab_no
theorem ab_l2_ok {F : Nat × Nat → Nat × Nat → Nat × Nat} {f : Int64 → Int64 → Int64} (hF : ∀ {p q x y}, ab_im p x → ab_im q y → ab_im (F p q) (f x y)) (hs : ab_gs g s lo st h) : ab_ok g (ab_l2 F 2 k s) (pv_l2 f k lo st h) := by
  unfold ab_l2
  split
  · next y x r hst =>
    obtain ⟨vy, vx, st2, rfl, hy, hx, h4⟩ := ab_st_2 hs hst
    split
    · next p q hp hq =>
      obtain ⟨x', rfl, hx'⟩ := ab_lv_ok hx hp
      obtain ⟨y', rfl, hy'⟩ := ab_lv_ok hy hq
      exact ab_psh_ok hs (ab_gv2 (hF hx' hy')) h4
    · exact ab_no
  · exact ab_no
theorem ab_ls_ok {f : Int64 → Int32 → Int64} (hz : ∀ y, f 0 y = 0) (hs : ab_gs g s lo st h) : ab_ok g (ab_ls (ab_shf f) k s) (pv_lsh f k lo st h) := by
  unfold ab_ls
  split
  · next y x r hst =>
    obtain ⟨vy, vx, st2, rfl, hy, hx, h4⟩ := ab_st_2 hs hst
    split
    · next p q hp hq =>
      obtain ⟨x', rfl, hx'⟩ := ab_lv_ok hx hp
      obtain ⟨y', rfl, hy'⟩ := ab_iv_ok hs.1 hy hq
      exact ab_psh_ok hs (ab_gv2 (ab_shf_ok hz hx' hy')) h4
    · exact ab_no
  · exact ab_no
theorem ab_br_ok {c : Jvm.ClassFile.Cond} {t : Nat} {a b : ab_V} {x y : Int32} {r : List ab_V} {st' : List Value} (hs : ab_gs g s lo st h) (ha : ab_gv g a (.int x)) (hb : ab_gv g b (.int y)) (hr : ab_all2 (ab_gv g) r st') : ab_ok g (ab_br c t k s a b r) (if pv_cond c x y then some (t, lo, st', h) else some (k + 1, lo, st', h)) := by
  unfold ab_br
  split
  · next p q hp hq =>
    obtain ⟨x', e1, hx'⟩ := ab_iv_ok hs.1 ha hp
    obtain ⟨y', e2, hy'⟩ := ab_iv_ok hs.1 hb hq
    cases e1
    cases e2
    split
    · next e =>
      rw [ab_cmp_ok hx' hy' e]
      intro L hL
      cases hL
      exact ⟨_, _, _, _, _, if_pos rfl, List.mem_singleton_self _, hs.1, hs.2.1, hr, hs.2.2.2⟩
    · next e =>
      rw [ab_cmp_ok hx' hy' e]
      intro L hL
      cases hL
      exact ⟨_, _, _, _, _, if_neg (by decide), List.mem_singleton_self _, hs.1, hs.2.1, hr, hs.2.2.2⟩
    · intro L hL
      cases hL
      cases e : pv_cond c x y with
      | true => exact ⟨_, _, _, _, _, if_pos rfl, List.mem_cons_self, ab_ref_ok hs.1 ha hb hx' hy' e, hs.2.1, hr, hs.2.2.2⟩
      | false => exact ⟨_, _, _, _, _, if_neg (by decide), List.mem_cons_of_mem _ (List.mem_singleton_self _), ab_ref_ok hs.1 ha hb hx' hy' e, hs.2.1, hr, hs.2.2.2⟩
  · exact ab_no
theorem ab_idx {p : Nat × Nat} {x : Int32} {n : Nat} (hp : ab_in p x) (h1 : 2147483648 ≤ p.1) (h2 : p.2 < n + 2147483648) : ¬ (x < 0 ∨ n ≤ x.toNatClampNeg) ∧ p.1 - 2147483648 ≤ x.toNatClampNeg ∧ x.toNatClampNeg ≤ p.1 - 2147483648 + (p.2 - p.1) ∧ x.toNatClampNeg < n := by
  have h3 := ab_n_int x
  unfold ab_in at hp
  have h4 : x.toNatClampNeg = x.toInt.toNat := rfl
  have h5 : ¬ x < 0 := by rw [ab_ltn, ab_z]; omega
  refine ⟨fun q => q.elim h5 (fun w => ?_), ?_, ?_, ?_⟩ <;> omega
theorem ab_ald_ok {t : Nat} (ht : t < 3) (hs : ab_gs g s lo st h) : ab_ok g (ab_ald 0 t k s) (pv_ald t k lo st h) := by
  unfold ab_ald
  split
  · next i a r hst =>
    obtain ⟨vi, va, st2, rfl, hi, ha, h4⟩ := ab_st_2 hs hst
    split
    · next p b hp hb =>
      obtain ⟨x', rfl, hx'⟩ := ab_iv_ok hs.1 hi hp
      have := ab_rv_ok ha hb
      subst this
      split
      · next t' n df es hcell =>
        obtain ⟨e, he1, he2⟩ := ab2_get hs.2.2.2 hcell
        cases hc : (t' == t && (Nat.ble 2147483648 p.1 && Nat.blt p.2 (n + 2147483648))) with
        | false => exact ab_no
        | true =>
          simp only [Bool.and_eq_true, beq_iff_eq, Nat.ble_eq, Nat.blt_eq] at hc
          obtain ⟨j1, j2, j3, j4⟩ := ab_idx hx' hc.2.1 hc.2.2
          match e, he1, he2 with
          | .inl (u, m, .inl f), he1, he2 =>
            obtain ⟨rfl, rfl, k1, k2⟩ := he2
            rw [cond_true]
            unfold pv_ald
            simp only [he1]
            rw [if_pos hc.1, if_neg j1]
            exact ab_psh_ok hs (ab_gv0 (ab_ldr_ok (k2 _ j4) j2 j3)) h4
          | .inl (u, m, .inr (.inl f)), he1, he2 =>
            have := he2.2.2.1
            omega
          | .inl (u, m, .inr (.inr f)), he1, he2 => exact he2.elim
          | .inr o, he1, he2 => exact he2.elim
      · exact ab_no
    · exact ab_no
  · exact ab_no
end ABX
