def fr_len (vl : List (Nat × Nat × Int32)) (a : Nat) : Nat := match vl.find? (fun t => t.1 == a) with
  | some t => t.2.1
  | none => 0
def fr_val (vl : List (Nat × Nat × Int32)) (a : Nat) : Int32 := match vl.find? (fun t => t.1 == a) with
  | some t => t.2.2
  | none => 0
def fr_ok (vl : List (Nat × Nat × Int32)) (f : Nat → Nat → Int32) : Prop := ∀ a j, j < fr_len vl a → f a j = fr_val vl a
theorem fr_at {vl : List (Nat × Nat × Int32)} {f : Nat → Nat → Int32} (h : ∀ t ∈ vl, ∀ j, j < t.2.1 → f t.1 j = t.2.2) : fr_ok vl f := by
  intro a j hj
  unfold fr_len at hj
  unfold fr_val
  split at hj
  · next t ht =>
    have h1 := List.mem_of_find?_eq_some ht
    have h2 := List.find?_some ht
    simp only [beq_iff_eq] at h2
    rw [← h2]
    exact h t h1 j hj
  · omega
section WG3
variable {d : Nat} {rows : List pv_R} {k : Nat} {lo : pv_L} {st : List Value} {h : pv_H} {Q : Option Value → pv_H → Prop} {vl : List (Nat × Nat × Int32)} {F : Nat → Nat → Int32}
theorem wG_ildF (hF : fr_ok vl F) {pc len a b n : Nat} {xs ps : List Nat} {i : Int32} {r : List Value} (hr : rows[k]? = some (pc, .iaload, len, xs, ps)) (ha : h[a]? = some (.inl (0, n, .inl (F b)))) (hn : fr_len vl b = n) (hi : vp_in i n) (kk : wG d rows (k + 1) lo (.int (fr_val vl b) :: r) h Q) : wG d rows k lo (.int i :: .ref a :: r) h Q := by
  have hlt : i.toNatClampNeg < fr_len vl b := by rw [hn]; exact Nat.not_le.mp fun q => hi (Or.inr q)
  refine wG_ild hr ha hi ?_
  rw [hF b _ hlt]
  exact kk
theorem wG_bldF (hF : fr_ok vl F) {pc len a b n t : Nat} {ps : List Nat} {i : Int32} {r : List Value} (hr : rows[k]? = some (pc, .baload, len, [t], ps)) (ht : t = 1 ∨ t = 2) (ha : h[a]? = some (.inl (t, n, .inl (F b)))) (hn : fr_len vl b = n) (hi : vp_in i n) (kk : wG d rows (k + 1) lo (.int (fr_val vl b) :: r) h Q) : wG d rows k lo (.int i :: .ref a :: r) h Q := by
  have hlt : i.toNatClampNeg < fr_len vl b := by rw [hn]; exact Nat.not_le.mp fun q => hi (Or.inr q)
  refine wG_bld hr ht ha hi ?_
  rw [hF b _ hlt]
  exact kk
/-- a switch, by its ways -/
theorem wG_tsw {pc len dd : Nat} {ts ps : List Nat} {df lo9 hi9 : Int} {offs : Array Int} {x : Int32} {r : List Value} (hr : rows[k]? = some (pc, .tableswitch df lo9 hi9 offs, len, dd :: ts, ps)) (hlen : hi9 - lo9 < (ts.length : Int)) (k1 : x.toInt < lo9 ∨ hi9 < x.toInt → wG d rows dd lo r h Q) (k2 : ∀ (n t : Nat), ts[n]? = some t → x.toInt = lo9 + n → lo9 + n ≤ hi9 → wG d rows t lo r h Q) : wG d rows k lo (.int x :: r) h Q := by
  by_cases hx : x.toInt < lo9 ∨ hi9 < x.toInt
  · exact wG_step hr rfl rfl (by simp only [pv_x, if_pos hx]) (k1 hx)
  · have hlt : (x.toInt - lo9).toNat < ts.length := by omega
    have ht : ts[(x.toInt - lo9).toNat]? = some ts[(x.toInt - lo9).toNat] := List.getElem?_eq_getElem hlt
    exact wG_step hr rfl rfl (by simp only [pv_x, if_neg hx, ht]) (k2 _ _ ht (by omega) (by omega))
end WG3
theorem li_hz (y : UInt64) (z : Int64) : lg_cmp (((0 : Int64).toUInt64 >>> y).toInt64 &&& z) (Int64.ofNat ((0 : Fin 2) : Nat)) = 0 := by
  have h0 : ((0 : Int64).toUInt64 >>> y).toInt64 = 0 := by
    apply Int64.toBitVec_inj.mp
    simp
  rw [h0]
  have h1 : (0 : Int64) &&& z = 0 := by
    apply Int64.toBitVec_inj.mp
    simp
  rw [h1]
  decide
theorem i_add {a b : Int32} (h1 : -2147483648 ≤ a.toInt + b.toInt) (h2 : a.toInt + b.toInt ≤ 2147483647) : (a + b).toInt = a.toInt + b.toInt := by
  rw [Int32.toInt_add]
  exact Int.bmod_eq_of_le (by omega) (by omega)
theorem i_sub {a b : Int32} (h1 : -2147483648 ≤ a.toInt - b.toInt) (h2 : a.toInt - b.toInt ≤ 2147483647) : (a - b).toInt = a.toInt - b.toInt := by
  rw [Int32.toInt_sub]
  exact Int.bmod_eq_of_le (by omega) (by omega)
theorem i_mul {a b : Int32} (h1 : -2147483648 ≤ a.toInt * b.toInt) (h2 : a.toInt * b.toInt ≤ 2147483647) : (a * b).toInt = a.toInt * b.toInt := by
  rw [Int32.toInt_mul]
  exact Int.bmod_eq_of_le (by omega) (by omega)
/-- a CELL's number, as the two write it -/
theorem i_at1 (a b : Int32) : 0 ≤ a.toInt → a.toInt ≤ 7 → 0 ≤ b.toInt → b.toInt ≤ 5 → (a * (Int8.ofInt 6).toInt32 + b).toInt = 6 * a.toInt + b.toInt := by
  intro h1 h2 h3 h4
  have e : ((Int8.ofInt 6).toInt32).toInt = 6 := by decide
  have m : (a * (Int8.ofInt 6).toInt32).toInt = a.toInt * 6 := by rw [i_mul] <;> rw [e] <;> omega
  rw [i_add] <;> rw [m] <;> omega
theorem i_at2 (a b : Int32) : 0 ≤ a.toInt → a.toInt ≤ 7 → 0 ≤ b.toInt → b.toInt ≤ 5 → ((Int8.ofInt 6).toInt32 * a + b).toInt = 6 * a.toInt + b.toInt := by
  intro h1 h2 h3 h4
  have e : ((Int8.ofInt 6).toInt32).toInt = 6 := by decide
  have m : ((Int8.ofInt 6).toInt32 * a).toInt = 6 * a.toInt := by rw [i_mul] <;> rw [e] <;> omega
  rw [i_add] <;> rw [m] <;> omega
