section WG2
variable {d : Nat} {rows : List pv_R} {k : Nat} {lo : pv_L} {st : List Value} {h : pv_H} {Q : Option Value → pv_H → Prop}
theorem wG_put {pc idx len ci j a : Nat} {ps : List Nat} {v : Value} {r fs : List Value} (hr : rows[k]? = some (pc, .putfield idx, len, [ci, j], ps)) (ha : h[a]? = some (.inr (ci, fs))) (hj : j < fs.length) (hn : narrow (pv_tyX ci j) v = v) (hf : fits (pv_tyX ci j) v = true) (kk : wG d rows (k + 1) lo r (h.set a (.inr (ci, fs.set j v))) Q) : wG d rows k lo (v :: .ref a :: r) h Q :=
  wG_step hr rfl rfl (by simp [pv_x, ha, hj, hn, hf]) kk
theorem wG_ild {pc len a n : Nat} {xs ps : List Nat} {i : Int32} {f : Nat → Int32} {r : List Value} (hr : rows[k]? = some (pc, .iaload, len, xs, ps)) (ha : h[a]? = some (.inl (0, n, .inl f))) (hi : vp_in i n) (kk : wG d rows (k + 1) lo (.int (f i.toNatClampNeg) :: r) h Q) : wG d rows k lo (.int i :: .ref a :: r) h Q := by
  have hi' : ¬ (i < 0 ∨ n ≤ i.toNatClampNeg) := hi
  exact wG_step hr rfl rfl (by simp only [pv_x, pv_ald, ha, if_true, if_neg hi']) kk
theorem wG_bld {pc len a n t : Nat} {ps : List Nat} {i : Int32} {f : Nat → Int32} {r : List Value} (hr : rows[k]? = some (pc, .baload, len, [t], ps)) (ht : t = 1 ∨ t = 2) (ha : h[a]? = some (.inl (t, n, .inl f))) (hi : vp_in i n) (kk : wG d rows (k + 1) lo (.int (f i.toNatClampNeg) :: r) h Q) : wG d rows k lo (.int i :: .ref a :: r) h Q := by
  have hi' : ¬ (i < 0 ∨ n ≤ i.toNatClampNeg) := hi
  exact wG_step hr rfl rfl (by simp only [pv_x, if_pos ht, pv_ald, ha, if_true, if_neg hi']) kk
theorem wG_ist {pc len a n : Nat} {xs ps : List Nat} {i x : Int32} {f : Nat → Int32} {r : List Value} (hr : rows[k]? = some (pc, .iastore, len, xs, ps)) (ha : h[a]? = some (.inl (0, n, .inl f))) (hi : vp_in i n) (kk : wG d rows (k + 1) lo r (h.set a (.inl (0, n, .inl (upd f i.toNatClampNeg x)))) Q) : wG d rows k lo (.int x :: .int i :: .ref a :: r) h Q := by
  have hi' : ¬ (i < 0 ∨ n ≤ i.toNatClampNeg) := hi
  exact wG_step hr rfl rfl (by simp only [pv_x, pv_ast, ha, if_true, if_neg hi']) kk
theorem wG_zst {pc len a n : Nat} {ps : List Nat} {i x : Int32} {f : Nat → Int32} {r : List Value} (hr : rows[k]? = some (pc, .bastore, len, [1], ps)) (ha : h[a]? = some (.inl (1, n, .inl f))) (hi : vp_in i n) (kk : wG d rows (k + 1) lo r (h.set a (.inl (1, n, .inl (upd f i.toNatClampNeg (vp_nar .boolean x))))) Q) : wG d rows k lo (.int x :: .int i :: .ref a :: r) h Q := by
  have hi' : ¬ (i < 0 ∨ n ≤ i.toNatClampNeg) := hi
  exact wG_step hr rfl rfl (by simp only [pv_x, pv_ast, ha, if_true, if_neg hi']) kk
end WG2
theorem pc_lt (x y : Int32) : (pv_cond .lt x y = true) = (x.toInt < y.toInt) := by simp [pv_cond, Int32.lt_iff_toInt_lt]
theorem pc_nlt (x y : Int32) : (pv_cond .lt x y = false) = (y.toInt ≤ x.toInt) := by simp [pv_cond, Int32.lt_iff_toInt_lt]
theorem pc_ge (x y : Int32) : (pv_cond .ge x y = true) = (y.toInt ≤ x.toInt) := by simp [pv_cond, Int32.le_iff_toInt_le]
theorem pc_nge (x y : Int32) : (pv_cond .ge x y = false) = (x.toInt < y.toInt) := by simp [pv_cond, Int32.le_iff_toInt_le]
theorem pc_gt (x y : Int32) : (pv_cond .gt x y = true) = (y.toInt < x.toInt) := by simp [pv_cond, Int32.lt_iff_toInt_lt]
theorem pc_ngt (x y : Int32) : (pv_cond .gt x y = false) = (x.toInt ≤ y.toInt) := by simp [pv_cond, Int32.lt_iff_toInt_lt]
theorem pc_le (x y : Int32) : (pv_cond .le x y = true) = (x.toInt ≤ y.toInt) := by simp [pv_cond, Int32.le_iff_toInt_le]
theorem pc_nle (x y : Int32) : (pv_cond .le x y = false) = (y.toInt < x.toInt) := by simp [pv_cond, Int32.le_iff_toInt_le]
theorem pc_eq (x y : Int32) : (pv_cond .eq x y = true) = (x.toInt = y.toInt) := by simp [pv_cond, Int32.toInt_inj]
theorem pc_neq (x y : Int32) : (pv_cond .eq x y = false) = (x.toInt ≠ y.toInt) := by simp [pv_cond, Int32.toInt_inj]
theorem pc_ne (x y : Int32) : (pv_cond .ne x y = true) = (x.toInt ≠ y.toInt) := by simp [pv_cond, Int32.toInt_inj]
theorem pc_nne (x y : Int32) : (pv_cond .ne x y = false) = (x.toInt = y.toInt) := by simp [pv_cond, Int32.toInt_inj]
