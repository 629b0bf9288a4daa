/-! NUMBERS IN THE CALCULUS: every int on the stack is the image of an integer; what the heap holds, by places -/
def rng (z : Int) : Prop := -2147483648 ≤ z ∧ z < 2147483648
theorem iI_to {z : Int} (h : rng z) : (Int32.ofInt z).toInt = z := by
  rw [Int32.toInt_ofInt]
  obtain ⟨h1, h2⟩ := h
  have e : Int32.size = 4294967296 := rfl
  rw [e]
  exact Int.bmod_eq_of_le (by omega) (by omega)
theorem iI_of (x : Int32) : x = Int32.ofInt x.toInt := (Int32.ofInt_toInt x).symm
theorem iI_rng (x : Int32) : rng x.toInt := ⟨Int32.le_toInt x, by have := Int32.toInt_lt x; omega⟩
theorem iI_clamp {z : Int} (h0 : 0 ≤ z) (h1 : z < 2147483648) : (Int32.ofInt z).toNatClampNeg = z.toNat := by
  show (Int32.ofInt z).toInt.toNat = _
  rw [iI_to ⟨by omega, h1⟩]
theorem iI_in {z : Int} {n : Nat} (h0 : 0 ≤ z) (h1 : z < n) (h2 : (n : Int) < 2147483648) : vp_in (Int32.ofInt z) n := by
  rw [vp_in_iff, iI_to ⟨by omega, by omega⟩]
  omega
def cI : Jvm.ClassFile.Cond → Int → Int → Prop
  | .eq, a, b => a = b
  | .ne, a, b => a ≠ b
  | .lt, a, b => a < b
  | .ge, a, b => b ≤ a
  | .gt, a, b => b < a
  | .le, a, b => a ≤ b
theorem pcI {cd : Jvm.ClassFile.Cond} {a b : Int} (ha : rng a) (hb : rng b) : pv_cond cd (Int32.ofInt a) (Int32.ofInt b) = true ↔ cI cd a b := by
  cases cd
  · rw [pc_eq, iI_to ha, iI_to hb]; exact Iff.rfl
  · rw [pc_ne, iI_to ha, iI_to hb]; exact Iff.rfl
  · rw [pc_lt, iI_to ha, iI_to hb]; exact Iff.rfl
  · rw [pc_ge, iI_to ha, iI_to hb]; exact Iff.rfl
  · rw [pc_gt, iI_to ha, iI_to hb]; exact Iff.rfl
  · rw [pc_le, iI_to ha, iI_to hb]; exact Iff.rfl
def arr (t : Nat) (h : pv_H) (a n : Nat) (Z : Int → Int) : Prop := ∃ F : Nat → Int32, h[a]? = some (.inl (t, n, .inl F)) ∧ ∀ j : Nat, j < n → F j = Int32.ofInt (Z j)
def u2 (A : Nat → Int → Int) (a : Nat) (z v : Int) : Nat → Int → Int := fun b j => if b = a ∧ j = z then v else A b j
def hp (O : List (Nat × Nat × List Value)) (L : List (Nat × Nat × Nat)) (N : Nat) (h : pv_H) (A : Nat → Int → Int) : Prop := h.length = N ∧ (∀ o ∈ O, h[o.1]? = some (.inr o.2)) ∧ (∀ p ∈ L, arr p.2.1 h p.1 p.2.2 (A p.1))
theorem u2_at (A : Nat → Int → Int) (a : Nat) (z v : Int) : u2 A a z v a z = v := if_pos ⟨rfl, rfl⟩
theorem u2_ne {A : Nat → Int → Int} {a b : Nat} {z v j : Int} (h : ¬ (b = a ∧ j = z)) : u2 A a z v b j = A b j := if_neg h
theorem hp_ext {O : List (Nat × Nat × List Value)} {L : List (Nat × Nat × Nat)} {N : Nat} {h : pv_H} {A A' : Nat → Int → Int} (H : hp O L N h A) (e : ∀ p ∈ L, ∀ j : Nat, j < p.2.2 → A p.1 j = A' p.1 j) : hp O L N h A' := by
  refine ⟨H.1, H.2.1, fun p hp => ?_⟩
  obtain ⟨F, e1, e2⟩ := H.2.2 p hp
  exact ⟨F, e1, fun j hj => by rw [e2 j hj, e p hp j hj]⟩
section WGI
variable {d : Nat} {rows : List pv_R} {k : Nat} {lo : pv_L} {st : List Value} {h : pv_H} {Q : Option Value → pv_H → Prop} {O : List (Nat × Nat × List Value)} {L : List (Nat × Nat × Nat)} {N : Nat} {A : Nat → Int → Int}
theorem wG_c2 {pc len t : Nat} {ps : List Nat} {cd : Jvm.ClassFile.Cond} {off : Int} {a b : Int} {r : List Value} (hr : rows[k]? = some (pc, .if_icmp cd off, len, [t], ps)) (ha : rng a) (hb : rng b) (k1 : cI cd a b → wG d rows t lo r h Q) (k2 : ¬ cI cd a b → wG d rows (k + 1) lo r h Q) : wG d rows k lo (.int (Int32.ofInt b) :: .int (Int32.ofInt a) :: r) h Q :=
  wG_b2 hr (fun q => k1 ((pcI ha hb).mp q)) (fun q => k2 (fun z => by rw [(pcI ha hb).mpr z] at q; cases q))
theorem wG_c2t {pc len t : Nat} {ps : List Nat} {cd : Jvm.ClassFile.Cond} {off : Int} {a b : Int} {r : List Value} (hr : rows[k]? = some (pc, .if_icmp cd off, len, [t], ps)) (ha : rng a) (hb : rng b) (hc : cI cd a b) (k1 : wG d rows t lo r h Q) : wG d rows k lo (.int (Int32.ofInt b) :: .int (Int32.ofInt a) :: r) h Q := wG_c2 hr ha hb (fun _ => k1) (fun q => absurd hc q)
theorem wG_c2f {pc len t : Nat} {ps : List Nat} {cd : Jvm.ClassFile.Cond} {off : Int} {a b : Int} {r : List Value} (hr : rows[k]? = some (pc, .if_icmp cd off, len, [t], ps)) (ha : rng a) (hb : rng b) (hc : ¬ cI cd a b) (k1 : wG d rows (k + 1) lo r h Q) : wG d rows k lo (.int (Int32.ofInt b) :: .int (Int32.ofInt a) :: r) h Q := wG_c2 hr ha hb (fun q => absurd q hc) (fun _ => k1)
theorem wG_c1 {pc len t : Nat} {ps : List Nat} {cd : Jvm.ClassFile.Cond} {off : Int} {a : Int} {r : List Value} (hr : rows[k]? = some (pc, .ifCond cd off, len, [t], ps)) (ha : rng a) (k1 : cI cd a 0 → wG d rows t lo r h Q) (k2 : ¬ cI cd a 0 → wG d rows (k + 1) lo r h Q) : wG d rows k lo (.int (Int32.ofInt a) :: r) h Q := by
  have hb : rng 0 := ⟨by decide, by decide⟩
  exact wG_b1 hr (fun q => k1 ((pcI ha hb).mp q)) (fun q => k2 (fun z => by
    have q' : pv_cond cd (Int32.ofInt a) (Int32.ofInt 0) = false := q
    rw [(pcI ha hb).mpr z] at q'; cases q'))
theorem wG_c1t {pc len t : Nat} {ps : List Nat} {cd : Jvm.ClassFile.Cond} {off : Int} {a : Int} {r : List Value} (hr : rows[k]? = some (pc, .ifCond cd off, len, [t], ps)) (ha : rng a) (hc : cI cd a 0) (k1 : wG d rows t lo r h Q) : wG d rows k lo (.int (Int32.ofInt a) :: r) h Q := wG_c1 hr ha (fun _ => k1) (fun q => absurd hc q)
theorem wG_c1f {pc len t : Nat} {ps : List Nat} {cd : Jvm.ClassFile.Cond} {off : Int} {a : Int} {r : List Value} (hr : rows[k]? = some (pc, .ifCond cd off, len, [t], ps)) (ha : rng a) (hc : ¬ cI cd a 0) (k1 : wG d rows (k + 1) lo r h Q) : wG d rows k lo (.int (Int32.ofInt a) :: r) h Q := wG_c1 hr ha (fun q => absurd q hc) (fun _ => k1)
theorem wG_iadd {pc len : Nat} {xs ps : List Nat} {a b : Int} {r : List Value} (hr : rows[k]? = some (pc, .iadd, len, xs, ps)) (kk : wG d rows (k + 1) lo (.int (Int32.ofInt (a + b)) :: r) h Q) : wG d rows k lo (.int (Int32.ofInt b) :: .int (Int32.ofInt a) :: r) h Q :=
  wG_step hr rfl rfl (k' := k + 1) (lo' := lo) (st' := .int (Int32.ofInt (a + b)) :: r) (h1 := h) (by rw [Int32.ofInt_add]; rfl) kk
theorem wG_isub {pc len : Nat} {xs ps : List Nat} {a b : Int} {r : List Value} (hr : rows[k]? = some (pc, .isub, len, xs, ps)) (kk : wG d rows (k + 1) lo (.int (Int32.ofInt (a - b)) :: r) h Q) : wG d rows k lo (.int (Int32.ofInt b) :: .int (Int32.ofInt a) :: r) h Q :=
  wG_step hr rfl rfl (k' := k + 1) (lo' := lo) (st' := .int (Int32.ofInt (a - b)) :: r) (h1 := h) (by rw [Int32.ofInt_sub]; rfl) kk
theorem wG_imul {pc len : Nat} {xs ps : List Nat} {a b : Int} {r : List Value} (hr : rows[k]? = some (pc, .imul, len, xs, ps)) (kk : wG d rows (k + 1) lo (.int (Int32.ofInt (a * b)) :: r) h Q) : wG d rows k lo (.int (Int32.ofInt b) :: .int (Int32.ofInt a) :: r) h Q :=
  wG_step hr rfl rfl (k' := k + 1) (lo' := lo) (st' := .int (Int32.ofInt (a * b)) :: r) (h1 := h) (by rw [Int32.ofInt_mul]; rfl) kk
theorem wG_iinc {pc len i : Nat} {xs ps : List Nat} {a n : Int} {l1 : pv_L} (hr : rows[k]? = some (pc, .iinc i n, len, xs, ps)) (hg : pv_get lo i = some (.int (Int32.ofInt a))) (hl : pv_set1 lo i (.int (Int32.ofInt (a + n))) = l1) (kk : wG d rows (k + 1) l1 st h Q) : wG d rows k lo st h Q := by
  subst hl
  exact wG_step hr rfl rfl (by simp only [pv_x, hg]; rw [← Int32.ofInt_add]) kk
theorem wG_bip {pc len : Nat} {xs ps : List Nat} {n : Int} (hr : rows[k]? = some (pc, .bipush n, len, xs, ps)) (e : (Int8.ofInt n).toInt32 = Int32.ofInt n) (kk : wG d rows (k + 1) lo (.int (Int32.ofInt n) :: st) h Q) : wG d rows k lo st h Q :=
  wG_step hr rfl rfl (k' := k + 1) (lo' := lo) (st' := .int (Int32.ofInt n) :: st) (h1 := h) (by rw [← e]; rfl) kk
theorem wG_sip {pc len : Nat} {xs ps : List Nat} {n : Int} (hr : rows[k]? = some (pc, .sipush n, len, xs, ps)) (e : (Int16.ofInt n).toInt32 = Int32.ofInt n) (kk : wG d rows (k + 1) lo (.int (Int32.ofInt n) :: st) h Q) : wG d rows k lo st h Q :=
  wG_step hr rfl rfl (k' := k + 1) (lo' := lo) (st' := .int (Int32.ofInt n) :: st) (h1 := h) (by rw [← e]; rfl) kk
theorem wG_ldc {pc len idx v : Nat} {ps : List Nat} (hr : rows[k]? = some (pc, .ldc idx, len, [v], ps)) (kk : wG d rows (k + 1) lo (.int (Int32.ofInt v) :: st) h Q) : wG d rows k lo st h Q :=
  wG_step hr rfl rfl (k' := k + 1) (lo' := lo) (st' := .int (Int32.ofInt v) :: st) (h1 := h) (by rw [Int32.ofInt_eq_ofNat]; rfl) kk
theorem wG_fld (H : hp O L N h A) (i : Nat) {b ci j pc idx len : Nat} {ps : List Nat} {fs r : List Value} {v : Value} (hi : O[i]? = some (b, ci, fs)) (hr : rows[k]? = some (pc, .getfield idx, len, [ci, j], ps)) (hj : fs[j]? = some v) (kk : wG d rows (k + 1) lo (v :: r) h Q) : wG d rows k lo (.ref b :: r) h Q := by
  have e := H.2.1 _ (List.mem_of_getElem? hi)
  exact wG_step hr rfl rfl (by simp only [pv_x, e, if_true, hj]) kk
theorem wG_lda (H : hp O L N h A) (i : Nat) {a n pc len : Nat} {xs ps : List Nat} {z : Int} {r : List Value} (hi : L[i]? = some (a, 0, n)) (hr : rows[k]? = some (pc, .iaload, len, xs, ps)) (hz : 0 ≤ z ∧ z < n ∧ (n : Int) < 2147483648) (kk : wG d rows (k + 1) lo (.int (Int32.ofInt (A a z)) :: r) h Q) : wG d rows k lo (.int (Int32.ofInt z) :: .ref a :: r) h Q := by
  obtain ⟨F, e1, e2⟩ := H.2.2 _ (List.mem_of_getElem? hi)
  refine wG_ild hr e1 (iI_in hz.1 hz.2.1 hz.2.2) ?_
  rw [iI_clamp hz.1 (by omega), e2 _ (by show z.toNat < n; omega), Int.toNat_of_nonneg hz.1]
  exact kk
theorem wG_ldb (H : hp O L N h A) (i : Nat) {a n t pc len : Nat} {ps : List Nat} {z : Int} {r : List Value} (hi : L[i]? = some (a, t, n)) (hr : rows[k]? = some (pc, .baload, len, [t], ps)) (ht : t = 1 ∨ t = 2) (hz : 0 ≤ z ∧ z < n ∧ (n : Int) < 2147483648) (kk : wG d rows (k + 1) lo (.int (Int32.ofInt (A a z)) :: r) h Q) : wG d rows k lo (.int (Int32.ofInt z) :: .ref a :: r) h Q := by
  obtain ⟨F, e1, e2⟩ := H.2.2 _ (List.mem_of_getElem? hi)
  refine wG_bld hr ht e1 (iI_in hz.1 hz.2.1 hz.2.2) ?_
  rw [iI_clamp hz.1 (by omega), e2 _ (by show z.toNat < n; omega), Int.toNat_of_nonneg hz.1]
  exact kk
theorem hp_st (H : hp O L N h A) {a n t : Nat} {z v : Int} {F : Nat → Int32} (e1 : h[a]? = some (.inl (t, n, .inl F))) (e2 : ∀ j : Nat, j < n → F j = Int32.ofInt (A a j)) (hz : 0 ≤ z ∧ z < n) (hx : (O.all (fun o => o.1 != a) && L.all (fun p => p.1 != a || p.2 == (t, n))) = true) : hp O L N (h.set a (.inl (t, n, .inl (upd F z.toNat (Int32.ofInt v))))) (u2 A a z v) := by
  simp only [Bool.and_eq_true, List.all_eq_true, bne_iff_ne, Bool.or_eq_true, beq_iff_eq] at hx
  have hl := (List.getElem?_eq_some_iff.mp e1).1
  refine ⟨by rw [List.length_set]; exact H.1, fun o ho => ?_, fun p hp => ?_⟩
  · rw [List.getElem?_set_ne (fun q => hx.1 o ho q.symm)]
    exact H.2.1 o ho
  · by_cases hpa : p.1 = a
    · have h2 : p.2 = (t, n) := by
        rcases hx.2 p hp with q | q
        · exact absurd hpa q
        · exact q
      refine ⟨upd F z.toNat (Int32.ofInt v), ?_, fun j hj => ?_⟩
      · rw [hpa, h2, List.getElem?_set_self hl]
      · rw [h2] at hj
        rw [hpa]
        by_cases hjz : (j : Int) = z
        · have : j = z.toNat := by omega
          subst this
          unfold u2 upd
          rw [if_pos rfl, if_pos ⟨rfl, hjz⟩]
        · have : ¬ j = z.toNat := by omega
          unfold u2 upd
          rw [if_neg this, if_neg (fun q => hjz q.2)]
          exact e2 j hj
    · obtain ⟨G, g1, g2⟩ := H.2.2 p hp
      refine ⟨G, ?_, fun j hj => ?_⟩
      · rw [List.getElem?_set_ne (fun q => hpa q.symm)]; exact g1
      · rw [u2_ne (fun q => hpa q.1)]; exact g2 j hj
theorem wG_sta (H : hp O L N h A) (i : Nat) {a n pc len : Nat} {xs ps : List Nat} {z v : Int} {r : List Value} (hi : L[i]? = some (a, 0, n)) (hr : rows[k]? = some (pc, .iastore, len, xs, ps)) (hz : 0 ≤ z ∧ z < n ∧ (n : Int) < 2147483648) (hx : (O.all (fun o => o.1 != a) && L.all (fun p => p.1 != a || p.2 == (0, n))) = true) (kk : ∀ h', hp O L N h' (u2 A a z v) → wG d rows (k + 1) lo r h' Q) : wG d rows k lo (.int (Int32.ofInt v) :: .int (Int32.ofInt z) :: .ref a :: r) h Q := by
  obtain ⟨F, e1, e2⟩ := H.2.2 _ (List.mem_of_getElem? hi)
  refine wG_ist hr e1 (iI_in hz.1 hz.2.1 hz.2.2) ?_
  rw [iI_clamp hz.1 (by omega)]
  exact kk _ (hp_st H e1 e2 ⟨hz.1, hz.2.1⟩ hx)
theorem wG_stf (H : hp O L N h A) (i : Nat) {b ci j pc idx len : Nat} {ps : List Nat} {fs r : List Value} {v : Int32} (hi : O[i]? = some (b, ci, fs)) (hr : rows[k]? = some (pc, .putfield idx, len, [ci, j], ps)) (hj : j < fs.length) (ht : pv_tyX ci j = .int) (hx : (((List.range O.length).all (fun m => m == i || (match O[m]? with | some o => o.1 != b | none => true))) && L.all (fun p => p.1 != b)) = true) (kk : ∀ h', hp (O.set i (b, ci, fs.set j (.int v))) L N h' A → wG d rows (k + 1) lo r h' Q) : wG d rows k lo (.int v :: .ref b :: r) h Q := by
  have e := H.2.1 _ (List.mem_of_getElem? hi)
  refine wG_put hr e hj (by rw [ht]; rfl) (by rw [ht]; rfl) (kk _ ?_)
  simp only [Bool.and_eq_true, List.all_eq_true, bne_iff_ne, Bool.or_eq_true, beq_iff_eq, List.mem_range] at hx
  have hl := (List.getElem?_eq_some_iff.mp e).1
  refine ⟨by rw [List.length_set]; exact H.1, fun o ho => ?_, fun p hp => ?_⟩
  · obtain ⟨m, hm⟩ := List.mem_iff_getElem?.mp ho
    by_cases hmi : m = i
    · subst hmi
      rw [List.getElem?_set_self (List.getElem?_eq_some_iff.mp hi).1] at hm
      cases hm
      exact List.getElem?_set_self hl
    · rw [List.getElem?_set_ne (fun q => hmi q.symm)] at hm
      have h3 := hx.1 m (List.getElem?_eq_some_iff.mp hm).1
      rw [hm] at h3
      rcases h3 with q | q
      · exact absurd q hmi
      · rw [List.getElem?_set_ne (fun z => (bne_iff_ne.mp q) z.symm)]
        exact H.2.1 o (List.mem_of_getElem? hm)
  · obtain ⟨G, g1, g2⟩ := H.2.2 p hp
    refine ⟨G, ?_, g2⟩
    rw [List.getElem?_set_ne (fun q => hx.2 p hp q.symm)]; exact g1
theorem wG_cv (H : hp O L N h A) (i : Nat) {b ci j n pc idx len : Nat} {ps : List Nat} {fs r : List Value} (hi : O[i]? = some (b, ci, fs)) (hr : rows[k]? = some (pc, .invokevirtual idx, len, [j, n, ci], ps)) (hd : st.drop n = .ref b :: r) (hc : pv_cat r ≤ 8) (kk : wR d j (.ref b :: (st.take n).reverse) h (fun v h1 => wG d rows (k + 1) lo (v.toList ++ r) h1 Q)) : wG d rows k lo st h Q := by
  have e := H.2.1 _ (List.mem_of_getElem? hi)
  refine wG_call hr rfl ?_ kk
  simp only [pv_inv, hd, e]
  rw [if_pos ⟨trivial, hc⟩]
end WGI
