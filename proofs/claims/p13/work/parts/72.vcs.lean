/-! WHAT THE CONDITIONS SAY IS SO: numbers, locals, heap -/
theorem iI_to {z : Int} (h : rng z) : (Int32.ofInt z).toInt = z := by
  rw [Int32.toInt_ofInt]
  obtain ⟨h1, h2⟩ := h
  have e : Int32.size = 4294967296 := rfl
  rw [e]
  exact Int.bmod_eq_of_le (by omega) (by omega)
theorem iL_to {z : Int} (h : rngL z) : (Int64.ofInt z).toInt = z := by
  rw [Int64.toInt_ofInt]
  obtain ⟨h1, h2⟩ := h
  have e : Int64.size = 18446744073709551616 := rfl
  rw [e]
  exact Int.bmod_eq_of_le (by omega) (by omega)
theorem i_rng (x : Int32) : rng x.toInt := ⟨Int32.le_toInt x, by have := Int32.toInt_lt x; omega⟩
theorem l_rng (x : Int64) : rngL x.toInt := ⟨Int64.le_toInt x, by have := Int64.toInt_lt x; omega⟩
theorem wI_rng (z : Int) : rng (wI z) := i_rng _
theorem wL_rng (z : Int) : rngL (wL z) := l_rng _
theorem wI_of (z : Int) : Int32.ofInt (wI z) = Int32.ofInt z := Int32.ofInt_toInt _
theorem wL_of (z : Int) : Int64.ofInt (wL z) = Int64.ofInt z := Int64.ofInt_toInt _
theorem wI_id {z : Int} (h : rng z) : wI z = z := iI_to h
theorem wL_id {z : Int} (h : rngL z) : wL z = z := iL_to h
theorem rng_L {z : Int} (h : rng z) : rngL z := ⟨by have := h.1; omega, by have := h.2; omega⟩
theorem iI_clamp {z : Int} (h0 : 0 ≤ z) (h1 : z < 2147483648) : (Int32.ofInt z).toNatClampNeg = z.toNat := by
  show (Int32.ofInt z).toInt.toNat = _
  rw [iI_to ⟨by omega, h1⟩]
theorem iI_in {z : Int} {n : Nat} (h0 : 0 ≤ z) (h1 : z < n) (h2 : (n : Int) < 2147483648) : ¬ (Int32.ofInt z < 0 ∨ n ≤ (Int32.ofInt z).toNatClampNeg) := by
  rw [iI_clamp h0 (by omega), Int32.lt_iff_toInt_lt, iI_to ⟨by omega, by omega⟩]
  have : (0 : Int32).toInt = 0 := rfl
  omega
theorem bif_p {b : Bool} {P : Prop} (h : bif b then P else False) : b = true ∧ P := by
  cases b
  · exact h.elim
  · exact ⟨rfl, h⟩
theorem qsm_p {m : Nat} {n : Int} (h : qsm m n = true) : -(m : Int) ≤ n ∧ n < m := by
  cases n with
  | ofNat a => have := Nat.lt_of_lt_of_le (Nat.le_of_ble_eq_true h) (Nat.le_refl _); simp only [Int.ofNat_eq_natCast]; omega
  | negSucc a => have := Nat.lt_of_lt_of_le (Nat.le_of_ble_eq_true h) (Nat.le_refl _); omega
theorem blt_p {a b : Nat} (h : Nat.blt a b = true) : a < b := Nat.le_of_ble_eq_true h
theorem beq_p {a b : Nat} (h : Nat.beq a b = true) : a = b := Nat.eq_of_beq_eq_true h
theorem qok_sm (n : Int) : qok (.inl (qsm 2147483648 n, n)) := by
  cases h : qsm 2147483648 n
  · trivial
  · have := qsm_p h
    exact ⟨by omega, by omega⟩
theorem qput_p {md t : Bool} {x : Int} {P : Int → Prop} (hx : qok (.inl (t, x))) (h : qput md t x P) : ∃ z, rng z ∧ Int32.ofInt z = Int32.ofInt x ∧ P z := by
  cases t
  · cases md
    · exact ⟨x, h.1, rfl, h.2⟩
    · exact ⟨wI x, wI_rng x, wI_of x, h⟩
  · exact ⟨x, hx, rfl, h⟩
theorem qbr_p {c : Jvm.ClassFile.Cond} {a b : Int} {P R : Prop} (h : qbr c a b P R) : (qc c a b → P) ∧ (¬ qc c a b → R) := by
  cases c
  · exact ⟨h.1, h.2⟩
  · exact ⟨h.1, fun q => h.2 (Decidable.byContradiction q)⟩
  · exact ⟨h.1, fun q => h.2 (Int.not_lt.mp q)⟩
  · exact ⟨h.1, fun q => h.2 (Int.not_le.mp q)⟩
  · exact ⟨h.1, fun q => h.2 (Int.not_lt.mp q)⟩
  · exact ⟨h.1, fun q => h.2 (Int.not_le.mp q)⟩
theorem qv_cat (v : qV) : (qv v).category = qcat v := by
  rcases v with ⟨b, z⟩ | z | n <;> rfl
theorem qcats_p : ∀ st : List qV, pv_cat (st.map qv) = qcats st
  | [] => rfl
  | v :: st => by
    have := qcats_p st
    simp only [pv_cat, List.map_cons, List.sum_cons] at this ⊢
    rw [qv_cat, this]
    rfl
theorem qget_p : ∀ (lo : qL) (i : Nat), pv_get (ql lo) i = (qget lo i).map qv
  | [], _ => rfl
  | (j, v) :: lo, i => by
    show (if j = i then some (qv v) else pv_get (ql lo) i) = _
    unfold qget
    by_cases h : j = i
    · rw [if_pos h, h, Nat.beq_refl]; rfl
    · have : Nat.beq j i = false := by
        cases hb : Nat.beq j i
        · rfl
        · exact absurd (beq_p hb) h
      rw [if_neg h, this, qget_p lo i]; rfl
theorem qget_ok : ∀ {lo : qL} {i : Nat} {v : qV}, (∀ q ∈ lo, qok q.2) → qget lo i = some v → qok v
  | (j, w) :: lo, i, v, h, e => by
    unfold qget at e
    cases hb : Nat.beq j i
    · rw [hb] at e; exact qget_ok (fun q hq => h q (List.mem_cons_of_mem _ hq)) e
    · rw [hb] at e; cases e; exact h _ List.mem_cons_self
theorem ql_filter (p : Nat × qV → Bool) (p' : Nat × Value → Bool) (h : ∀ q : Nat × qV, p' (q.1, qv q.2) = p q) : ∀ lo : qL, ql (lo.filter p) = (ql lo).filter p'
  | [] => rfl
  | q :: lo => by
    show (List.map _ (List.filter p (q :: lo))) = List.filter p' ((q.1, qv q.2) :: ql lo)
    rw [List.filter_cons, List.filter_cons, h q]
    cases p q
    · exact ql_filter p p' h lo
    · show (q.1, qv q.2) :: ql (lo.filter p) = _
      rw [ql_filter p p' h lo]; rfl
theorem qset1_p (lo : qL) (i : Nat) (v : qV) : ql (qset1 lo i v) = pv_set1 (ql lo) i (qv v) := by
  show (i, qv v) :: ql (lo.filter _) = (i, qv v) :: (ql lo).filter _
  congr 1
  refine ql_filter _ _ (fun q => ?_) lo
  simp only [qv_cat]
theorem qset2_p (lo : qL) (i : Nat) (v : qV) : ql (qset2 lo i v) = pv_set2 (ql lo) i (qv v) := by
  show (i, qv v) :: ql (lo.filter _) = (i, qv v) :: (ql lo).filter _
  congr 1
  refine ql_filter _ _ (fun q => ?_) lo
  simp only [qv_cat]
theorem qset1_ok {lo : qL} {i : Nat} {v : qV} (h : ∀ q ∈ lo, qok q.2) (hv : qok v) : ∀ q ∈ qset1 lo i v, qok q.2 := by
  intro q hq
  rcases List.mem_cons.mp hq with rfl | hq
  · exact hv
  · exact h q (List.mem_filter.mp hq).1
theorem qset2_ok {lo : qL} {i : Nat} {v : qV} (h : ∀ q ∈ lo, qok q.2) (hv : qok v) : ∀ q ∈ qset2 lo i v, qok q.2 := by
  intro q hq
  rcases List.mem_cons.mp hq with rfl | hq
  · exact hv
  · exact h q (List.mem_filter.mp hq).1
theorem qargsL_p : ∀ (vs : List qV) (i : Nat), ql (qargsL i vs) = lv_args i (vs.map qv)
  | [], _ => rfl
  | v :: vs, i => by
    show (i, qv v) :: ql (qargsL _ vs) = (i, qv v) :: lv_args (if (qv v).category = 2 then i + 2 else i + 1) (vs.map qv)
    rw [qargsL_p vs, qv_cat]
    congr 2
    rcases v with ⟨b, z⟩ | z | n <;> rfl
theorem qargsL_ok : ∀ {vs : List qV} {i : Nat}, (∀ v ∈ vs, qok v) → ∀ q ∈ qargsL i vs, qok q.2
  | v :: vs, i, h, q, hq => by
    rcases List.mem_cons.mp hq with rfl | hq
    · exact h _ List.mem_cons_self
    · exact qargsL_ok (fun w hw => h w (List.mem_cons_of_mem _ hw)) q hq
/-! the heap -/
theorem qmk_get (A : qA) : ∀ (L : List qY) (r0 i : Nat), (qmk A r0 L)[i]? = (L[i]?).map (qce A (r0 + i))
  | [], _, _ => rfl
  | y :: L, r0, 0 => rfl
  | y :: L, r0, i + 1 => by
    show (qmk A (r0 + 1) L)[i]? = (L[i]?).map _
    rw [qmk_get A L (r0 + 1) i, show r0 + 1 + i = r0 + (i + 1) by omega]
theorem qH_get (L : List qY) (A : qA) (r : Nat) : (qH L A)[r]? = (L[r]?).map (qce A r) := by
  unfold qH
  rw [qmk_get, Nat.zero_add]
theorem qH_at {L : List qY} {A : qA} {r : Nat} {y : qY} (h : L[r]? = some y) : (qH L A)[r]? = some (qce A r y) := by rw [qH_get, h]; rfl
theorem qfs_get (A : qA) (r : Nat) : ∀ (ks : List (Nat × Nat)) (j0 i : Nat), (qfs A r j0 ks)[i]? = (ks[i]?).map (qfv A r (j0 + i))
  | [], _, _ => rfl
  | y :: L, r0, 0 => rfl
  | y :: L, r0, i + 1 => by
    show (qfs A r (r0 + 1) L)[i]? = (L[i]?).map _
    rw [qfs_get A r L (r0 + 1) i, show r0 + 1 + i = r0 + (i + 1) by omega]
theorem qfs_at {A : qA} {r j : Nat} {k : Nat × Nat} {ks : List (Nat × Nat)} (h : ks[j]? = some k) : (qfs A r 0 ks)[j]? = some (qfv A r j k) := by rw [qfs_get, h, Nat.zero_add]; rfl
theorem qfv_same {A A' : qA} {b : Nat} (h : A' b = A b) (j : Nat) (k : Nat × Nat) : qfv A' b j k = qfv A b j k := by
  unfold qfv; rw [h]
theorem qfs_same {A A' : qA} {b : Nat} (h : A' b = A b) : ∀ (ks : List (Nat × Nat)) (j : Nat), qfs A' b j ks = qfs A b j ks
  | [], _ => rfl
  | k :: ks, j => by
    show qfv A' b j k :: qfs A' b (j + 1) ks = _
    rw [qfv_same h, qfs_same h ks]; rfl
theorem qce_same {A A' : qA} {b : Nat} (h : A' b = A b) (y : qY) : qce A' b y = qce A b y := by
  obtain ⟨t, a, n, ks⟩ := y
  rcases t with _ | _ | t
  · show Sum.inl (a, n, Sum.inl (fun j : Nat => Int32.ofInt (A' b j))) = _
    rw [h]; rfl
  · show Sum.inl (a, n, Sum.inr (Sum.inl (fun j : Nat => Int64.ofInt (A' b j)))) = _
    rw [h]; rfl
  · show Sum.inr (a, qfs A' b 0 ks) = _
    rw [qfs_same h]; rfl
theorem qH_set {L : List qY} {A A' : qA} {r : Nat} {y : qY} {e : va_E} (hy : L[r]? = some y) (he : qce A' r y = e) (ho : ∀ b, b ≠ r → A' b = A b) : (qH L A).set r e = qH L A' := by
  apply List.ext_getElem?
  intro i
  rw [List.getElem?_set, qH_get, qH_get]
  by_cases hi : r = i
  · subst hi
    have hl : r < (qH L A).length := (List.getElem?_eq_some_iff.mp (qH_at (A := A) hy)).1
    rw [if_pos rfl, if_pos hl, hy, ← he]; rfl
  · rw [if_neg hi]
    cases L[i]? with
    | none => rfl
    | some y' => show some _ = some _; rw [qce_same (ho i (fun q => hi q.symm))]
theorem qu_ne {A : qA} {r b : Nat} {j v : Int} (h : b ≠ r) : qu A r j v b = A b := by
  funext i
  exact if_neg (fun q => h q.1)
theorem qu_at (A : qA) (r : Nat) (j v : Int) : qu A r j v r j = v := if_pos ⟨rfl, rfl⟩
theorem qu_nj {A : qA} {r : Nat} {j v i : Int} (h : i ≠ j) : qu A r j v r i = A r i := if_neg (fun q => h q.2)
theorem qu_is (A : qA) (r : Nat) (j v : Int) (b : Nat) (i : Int) : qu A r j v b i = if b = r ∧ i = j then v else A b i := rfl
theorem qu_upd {A : qA} {r : Nat} {j v : Int} {x : Int32} (h0 : 0 ≤ j) (hx : Int32.ofInt v = x) : upd (fun k : Nat => Int32.ofInt (A r k)) j.toNat x = fun k : Nat => Int32.ofInt (qu A r j v r k) := by
  funext k
  unfold upd
  by_cases h : k = j.toNat
  · rw [if_pos h, ← hx, show ((k : Nat) : Int) = j by omega, qu_at]
  · rw [if_neg h, qu_nj (by omega)]
theorem qu_updL {A : qA} {r : Nat} {j v : Int} {x : Int64} (h0 : 0 ≤ j) (hx : Int64.ofInt v = x) : vp_updL (fun k : Nat => Int64.ofInt (A r k)) j.toNat x = fun k : Nat => Int64.ofInt (qu A r j v r k) := by
  funext k
  unfold vp_updL
  by_cases h : k = j.toNat
  · rw [if_pos h, ← hx, show ((k : Nat) : Int) = j by omega, qu_at]
  · rw [if_neg h, qu_nj (by omega)]
theorem qfs_set {A : qA} {r j : Nat} {k : Nat × Nat} {ks : List (Nat × Nat)} {z : Int} {v : Value} (hk : ks[j]? = some k) (hv : qfv (qu A r (fd j) z) r j k = v) : (qfs A r 0 ks).set j v = qfs (qu A r (fd j) z) r 0 ks := by
  apply List.ext_getElem?
  intro i
  rw [List.getElem?_set, qfs_get, qfs_get, Nat.zero_add]
  by_cases hi : j = i
  · subst hi
    have hl : j < (qfs A r 0 ks).length := (List.getElem?_eq_some_iff.mp (qfs_at (A := A) (r := r) hk)).1
    rw [if_pos rfl, if_pos hl, hk, ← hv]; rfl
  · rw [if_neg hi]
    cases ks[i]? with
    | none => rfl
    | some k' =>
      show some _ = some _
      congr 1
      unfold qfv
      rw [qu_nj (by unfold fd; omega)]
theorem qokA_qu {L : List qY} {A : qA} {r : Nat} {j v : Int} (hA : qokA L A) (h1 : rngL v) (h2 : qlng L r j = false → rng v) : qokA L (qu A r j v) := by
  intro b i
  rw [qu_is]
  by_cases h : b = r ∧ i = j
  · rw [if_pos h]; obtain ⟨rfl, rfl⟩ := h; exact ⟨h1, h2⟩
  · rw [if_neg h]; exact hA b i
theorem qlng_0 {L : List qY} {a t n : Nat} {ks : List (Nat × Nat)} {j : Int} (h : L[a]? = some (0, t, n, ks)) : qlng L a j = false := by unfold qlng; rw [h]; rfl
