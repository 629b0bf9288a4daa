section QXOK
variable {L : List qY} {T : List (Nat × Nat × Nat)} {md : Bool} {d : Nat} {rows : List pv_R} {Q : Option Value → pv_H → Prop} {nx : Nat → qL → List qV → qA → Prop}
def qgood (L : List qY) (d : Nat) (rows : List pv_R) (Q : Option Value → pv_H → Prop) (nx : Nat → qL → List qV → qA → Prop) : Prop := ∀ k lo st A, qokA L A → qokl lo → qoks st → nx k lo st A → wG d rows k (ql lo) (st.map qv) (qH L A) Q
variable {k : Nat} {lo : qL} {st : List qV} {A : qA} {pc len : Nat} {xs ps : List Nat} {i : Instr}
theorem qlod0 {n : Nat} (hn : qgood L d rows Q nx) (hr : rows[k]? = some (pc, i, len, xs, ps)) (hA : qokA L A) (hl : qokl lo) (hs : qoks st) (hx : qlod 0 lo n k st A nx) (h1 : ∀ s, pv_ret i xs s = none) (h2 : ∀ s h, pv_inv i xs s h = none) (h3 : ∀ l s h, pv_x i xs k l s h = pv_lod l n k 0 s h) : wG d rows k (ql lo) (st.map qv) (qH L A) Q := by
  unfold qlod at hx
  split at hx
  · next z e _ =>
    refine wG_step hr (h1 _) (h2 _ _) (k' := k + 1) (lo' := ql lo) (st' := qv (.inl z) :: st.map qv) (h1 := qH L A) ?_ (hn _ _ _ _ hA hl (qoks_c (qget_ok hl.1 e) hs) hx)
    rw [h3]; unfold pv_lod; rw [qget_p, e]; rfl
  · next e h => cases h
  · next e h => cases h
  · exact hx.elim
theorem qlod1 {n : Nat} (hn : qgood L d rows Q nx) (hr : rows[k]? = some (pc, i, len, xs, ps)) (hA : qokA L A) (hl : qokl lo) (hs : qoks st) (hx : qlod 1 lo n k st A nx) (h1 : ∀ s, pv_ret i xs s = none) (h2 : ∀ s h, pv_inv i xs s h = none) (h3 : ∀ l s h, pv_x i xs k l s h = pv_lod l n k 1 s h) : wG d rows k (ql lo) (st.map qv) (qH L A) Q := by
  unfold qlod at hx
  split at hx
  · next e h => cases h
  · next z e _ =>
    refine wG_step hr (h1 _) (h2 _ _) (k' := k + 1) (lo' := ql lo) (st' := qv (nl z) :: st.map qv) (h1 := qH L A) ?_ (hn _ _ _ _ hA hl (qoks_c (qget_ok hl.1 e) hs) hx)
    rw [h3]; unfold pv_lod; rw [qget_p, e]; rfl
  · next e h => cases h
  · exact hx.elim
theorem qlod2 {n : Nat} (hn : qgood L d rows Q nx) (hr : rows[k]? = some (pc, i, len, xs, ps)) (hA : qokA L A) (hl : qokl lo) (hs : qoks st) (hx : qlod 2 lo n k st A nx) (h1 : ∀ s, pv_ret i xs s = none) (h2 : ∀ s h, pv_inv i xs s h = none) (h3 : ∀ l s h, pv_x i xs k l s h = pv_lod l n k 2 s h) : wG d rows k (ql lo) (st.map qv) (qH L A) Q := by
  unfold qlod at hx
  split at hx
  · next e h => cases h
  · next e h => cases h
  · next z e _ =>
    refine wG_step hr (h1 _) (h2 _ _) (k' := k + 1) (lo' := ql lo) (st' := qv (rf z) :: st.map qv) (h1 := qH L A) ?_ (hn _ _ _ _ hA hl (qoks_c (qget_ok hl.1 e) hs) hx)
    rw [h3]; unfold pv_lod; rw [qget_p, e]; rfl
  · exact hx.elim
theorem qsto0 {n : Nat} (hn : qgood L d rows Q nx) (hr : rows[k]? = some (pc, i, len, xs, ps)) (hA : qokA L A) (hl : qokl lo) (hs : qoks st) (hx : qsto 0 lo n k st A nx) (h1 : ∀ s, pv_ret i xs s = none) (h2 : ∀ s h, pv_inv i xs s h = none) (h3 : ∀ l s h, pv_x i xs k l s h = pv_sto l n k 0 s h) : wG d rows k (ql lo) (st.map qv) (qH L A) Q := by
  unfold qsto at hx
  split at hx
  · next z r _ =>
    refine wG_step hr (h1 _) (h2 _ _) (k' := k + 1) (lo' := ql (qset1 lo n (.inl z))) (st' := r.map qv) (h1 := qH L A) ?_ (hn _ _ _ _ hA (qokl_1 hl (qoks_h hs)) (qoks_t hs) hx)
    rw [h3, qset1_p]; rfl
  · next h => cases h
  · next h => cases h
  · exact hx.elim
theorem qsto1 {n : Nat} (hn : qgood L d rows Q nx) (hr : rows[k]? = some (pc, i, len, xs, ps)) (hA : qokA L A) (hl : qokl lo) (hs : qoks st) (hx : qsto 1 lo n k st A nx) (h1 : ∀ s, pv_ret i xs s = none) (h2 : ∀ s h, pv_inv i xs s h = none) (h3 : ∀ l s h, pv_x i xs k l s h = pv_sto l n k 1 s h) : wG d rows k (ql lo) (st.map qv) (qH L A) Q := by
  unfold qsto at hx
  split at hx
  · next h => cases h
  · next z r _ =>
    refine wG_step hr (h1 _) (h2 _ _) (k' := k + 1) (lo' := ql (qset2 lo n (nl z))) (st' := r.map qv) (h1 := qH L A) ?_ (hn _ _ _ _ hA (qokl_2 hl (qoks_h hs)) (qoks_t hs) hx)
    rw [h3, qset2_p]; rfl
  · next h => cases h
  · exact hx.elim
theorem qsto2 {n : Nat} (hn : qgood L d rows Q nx) (hr : rows[k]? = some (pc, i, len, xs, ps)) (hA : qokA L A) (hl : qokl lo) (hs : qoks st) (hx : qsto 2 lo n k st A nx) (h1 : ∀ s, pv_ret i xs s = none) (h2 : ∀ s h, pv_inv i xs s h = none) (h3 : ∀ l s h, pv_x i xs k l s h = pv_sto l n k 2 s h) : wG d rows k (ql lo) (st.map qv) (qH L A) Q := by
  unfold qsto at hx
  split at hx
  · next h => cases h
  · next h => cases h
  · next z r _ =>
    refine wG_step hr (h1 _) (h2 _ _) (k' := k + 1) (lo' := ql (qset1 lo n (rf z))) (st' := r.map qv) (h1 := qH L A) ?_ (hn _ _ _ _ hA (qokl_1 hl (qoks_h hs)) (qoks_t hs) hx)
    rw [h3, qset1_p]; rfl
  · exact hx.elim
theorem qi2_ok {t : Bool} {f : Int → Int → Int} {g : Int32 → Int32 → Int32} (hn : qgood L d rows Q nx) (hr : rows[k]? = some (pc, i, len, xs, ps)) (hA : qokA L A) (hl : qokl lo) (hs : qoks st) (hx : qi2 t f k lo st A nx) (h1 : ∀ s, pv_ret i xs s = none) (h2 : ∀ s h, pv_inv i xs s h = none) (h3 : ∀ l s h, pv_x i xs k l s h = pv_i2 g k l s h) (hg : ∀ x y, g (Int32.ofInt x) (Int32.ofInt y) = Int32.ofInt (f x y)) (ht : t = true → ∀ x y, rng (f x y)) : wG d rows k (ql lo) (st.map qv) (qH L A) Q := by
  unfold qi2 at hx
  split at hx
  · next b y b' x r =>
    refine wG_step hr (h1 _) (h2 _ _) (k' := k + 1) (lo' := ql lo) (st' := qv (.inl (t, f x y)) :: r.map qv) (h1 := qH L A) ?_ (hn _ _ _ _ hA hl (qoks_c ?_ (qoks_t (qoks_t hs))) (hx _ rfl))
    · rw [h3]
      show some (k + 1, ql lo, Value.int (g (Int32.ofInt x) (Int32.ofInt y)) :: r.map qv, qH L A) = _
      rw [hg]; rfl
    · cases t
      · trivial
      · exact ht rfl x y
  · exact hx.elim
theorem qj2_ok {f : Int → Int → Int} {g : Int64 → Int64 → Int64} (hn : qgood L d rows Q nx) (hr : rows[k]? = some (pc, i, len, xs, ps)) (hA : qokA L A) (hl : qokl lo) (hs : qoks st) (hx : qj2 f k lo st A nx) (h1 : ∀ s, pv_ret i xs s = none) (h2 : ∀ s h, pv_inv i xs s h = none) (h3 : ∀ l s h, pv_x i xs k l s h = pv_l2 g k l s h) (hg : ∀ x y, g (Int64.ofInt x) (Int64.ofInt y) = Int64.ofInt (f x y)) (ht : ∀ x y, rngL (f x y)) : wG d rows k (ql lo) (st.map qv) (qH L A) Q := by
  unfold qj2 at hx
  split at hx
  · next y x r =>
    refine wG_step hr (h1 _) (h2 _ _) (k' := k + 1) (lo' := ql lo) (st' := qv (nl (f x y)) :: r.map qv) (h1 := qH L A) ?_ (hn _ _ _ _ hA hl (qoks_c (show qok (nl (f x y)) from ht x y) (qoks_t (qoks_t hs))) (hx _ rfl))
    rw [h3]
    show some (k + 1, ql lo, Value.long (g (Int64.ofInt x) (Int64.ofInt y)) :: r.map qv, qH L A) = _
    rw [hg]; rfl
  · exact hx.elim
theorem qjs_ok {f : Int → Int → Int} {g : Int64 → Int32 → Int64} (hn : qgood L d rows Q nx) (hr : rows[k]? = some (pc, i, len, xs, ps)) (hA : qokA L A) (hl : qokl lo) (hs : qoks st) (hx : qjs f k lo st A nx) (h1 : ∀ s, pv_ret i xs s = none) (h2 : ∀ s h, pv_inv i xs s h = none) (h3 : ∀ l s h, pv_x i xs k l s h = pv_lsh g k l s h) (hg : ∀ x y, g (Int64.ofInt x) (Int32.ofInt y) = Int64.ofInt (f x y)) (ht : ∀ x y, rngL (f x y)) : wG d rows k (ql lo) (st.map qv) (qH L A) Q := by
  unfold qjs at hx
  split at hx
  · next b y x r =>
    refine wG_step hr (h1 _) (h2 _ _) (k' := k + 1) (lo' := ql lo) (st' := qv (nl (f x y)) :: r.map qv) (h1 := qH L A) ?_ (hn _ _ _ _ hA hl (qoks_c (show qok (nl (f x y)) from ht x y) (qoks_t (qoks_t hs))) (hx _ rfl))
    rw [h3]
    show some (k + 1, ql lo, Value.long (g (Int64.ofInt x) (Int32.ofInt y)) :: r.map qv, qH L A) = _
    rw [hg]; rfl
  · exact hx.elim
/-- arrays -/
theorem qald_ok {t : Nat} (hn : qgood L d rows Q nx) (hr : rows[k]? = some (pc, i, len, xs, ps)) (hA : qokA L A) (hl : qokl lo) (hs : qoks st) (hx : qald L t k lo st A nx) (h1 : ∀ s, pv_ret i xs s = none) (h2 : ∀ s h, pv_inv i xs s h = none) (h3 : ∀ l s h, pv_x i xs k l s h = pv_ald t k l s h) : wG d rows k (ql lo) (st.map qv) (qH L A) Q := by
  unfold qald at hx
  split at hx
  · next b z a r =>
    split at hx
    · next t' n ks e =>
      obtain ⟨hb, ⟨hz0, hz1⟩, hx2⟩ := bif_p hx
      clear hx
      simp only [Bool.and_eq_true] at hb
      have ht := beq_p hb.1
      have hn' := blt_p hb.2
      subst ht
      refine wG_step hr (h1 _) (h2 _ _) (k' := k + 1) (lo' := ql lo) (st' := qv (ni (A a z)) :: r.map qv) (h1 := qH L A) ?_ (hn _ _ _ _ hA hl (qoks_c (show qok (ni (A a z)) from (hA a z).2 (qlng_0 e)) (qoks_t (qoks_t hs))) (hx2 _ ((hA a z).2 (qlng_0 e)) rfl))
      rw [h3]
      show (match (qH L A)[a]? with
        | some (.inl (t'', n, .inl f)) => if t'' = t' then (if Int32.ofInt z < 0 ∨ n ≤ (Int32.ofInt z).toNatClampNeg then none else some (k + 1, ql lo, Value.int (f (Int32.ofInt z).toNatClampNeg) :: r.map qv, qH L A)) else none
        | _ => none) = _
      rw [qH_at e]
      show (if t' = t' then (if Int32.ofInt z < 0 ∨ n ≤ (Int32.ofInt z).toNatClampNeg then none else some (k + 1, ql lo, Value.int (Int32.ofInt (A a ((Int32.ofInt z).toNatClampNeg : Nat))) :: r.map qv, qH L A)) else none) = _
      rw [if_pos rfl, if_neg (iI_in hz0 hz1 (by omega)), iI_clamp hz0 (by omega), show ((z.toNat : Nat) : Int) = z by omega]; rfl
    · exact hx.elim
  · exact hx.elim
theorem qstA {t n : Nat} {ks : List (Nat × Nat)} {a : Nat} {z v : Int} {x : Int32} (e : L[a]? = some (0, t, n, ks)) (h0 : 0 ≤ z) (h1 : z < n) (h2 : n < 2147483648) (hx : Int32.ofInt v = x) : (qH L A).set a (.inl (t, n, .inl (upd (fun j : Nat => Int32.ofInt (A a j)) (Int32.ofInt z).toNatClampNeg x))) = qH L (qu A a z v) := by
  refine qH_set e ?_ (fun b hb => qu_ne hb)
  rw [iI_clamp h0 (by omega), qu_upd h0 hx]; rfl
theorem qast_ok {t : Nat} {g : Int32 → Int32} {b : Bool} {y z v : Int} {a n : Nat} {ks : List (Nat × Nat)} {r : List qV} (hn : qgood L d rows Q nx) (hr : rows[k]? = some (pc, i, len, xs, ps)) (hA : qokA L A) (hl : qokl lo) (hs : qoks r) (e : L[a]? = some (0, t, n, ks)) (h0 : 0 ≤ z) (h9 : z < n) (hn9 : n < 2147483648) (hv : rng v) (hg : Int32.ofInt v = g (Int32.ofInt y)) (hx : nx (k + 1) lo r (qu A a z v)) (h1 : ∀ s, pv_ret i xs s = none) (h2 : ∀ s h, pv_inv i xs s h = none) (h3 : ∀ l s h, pv_x i xs k l s h = pv_ast t g k l s h) : wG d rows k (ql lo) (.int (Int32.ofInt y) :: .int (Int32.ofInt z) :: .ref a :: r.map qv) (qH L A) Q := by
  refine wG_step hr (h1 _) (h2 _ _) (k' := k + 1) (lo' := ql lo) (st' := r.map qv) (h1 := qH L (qu A a z v)) ?_ (hn _ _ _ _ (qokA_qu hA (rng_L hv) (fun _ => hv)) hl hs hx)
  rw [h3]
  show (match (qH L A)[a]? with
    | some (.inl (t'', n, .inl f)) => if t'' = t then (if Int32.ofInt z < 0 ∨ n ≤ (Int32.ofInt z).toNatClampNeg then none else some (k + 1, ql lo, r.map qv, (qH L A).set a (.inl (t'', n, .inl (upd f (Int32.ofInt z).toNatClampNeg (g (Int32.ofInt y))))))) else none
    | _ => none) = _
  rw [qH_at e]
  show (if t = t then (if Int32.ofInt z < 0 ∨ n ≤ (Int32.ofInt z).toNatClampNeg then none else some (k + 1, ql lo, r.map qv, (qH L A).set a (.inl (t, n, .inl (upd (fun j : Nat => Int32.ofInt (A a j)) (Int32.ofInt z).toNatClampNeg (g (Int32.ofInt y))))))) else none) = _
  rw [if_pos rfl, if_neg (iI_in h0 h9 (by omega)), qstA e h0 h9 hn9 hg]
/-- fields -/
theorem qgf_ok {idx : Nat} (hn : qgood L d rows Q nx) (hr : rows[k]? = some (pc, .getfield idx, len, xs, ps)) (hA : qokA L A) (hl : qokl lo) (hs : qoks st) (hx : qgf L T xs k lo st A nx) : wG d rows k (ql lo) (st.map qv) (qH L A) Q := by
  unfold qgf at hx
  split at hx
  · next ci j a r =>
    split at hx
    · next ci' n ks e =>
      obtain ⟨hb, hx2⟩ := bif_p hx
      clear hx
      have hb2 := beq_p hb
      clear hb
      subst hb2
      have key : ∀ (kd : Nat × Nat) (w : qV), ks[j]? = some kd → qfv A a j kd = qv w → qok w → nx (k + 1) lo (w :: r) A → wG d rows k (ql lo) ((rf a :: r).map qv) (qH L A) Q := by
        intro kd w h1 h2 h3 h4
        refine wG_step hr rfl rfl (k' := k + 1) (lo' := ql lo) (st' := qv w :: r.map qv) (h1 := qH L A) ?_ (hn _ _ _ _ hA hl (qoks_c h3 (qoks_t hs)) h4)
        show (match (qH L A)[a]? with
          | some (.inr (c', fs)) => if c' = ci' then (match fs[j]? with
            | some v => some (k + 1, ql lo, v :: r.map qv, qH L A)
            | none => none) else none
          | _ => none) = _
        rw [qH_at e]
        show (if ci' = ci' then (match (qfs A a 0 ks)[j]? with
            | some v => some (k + 1, ql lo, v :: r.map qv, qH L A)
            | none => none) else none) = _
        rw [if_pos rfl, qfs_at h1, h2]
      split at hx2
      · next u9 h1 =>
        cases hq : qlng L a (fd j)
        · rw [hq] at hx2
          exact key (0, u9) (ni (A a (fd j))) h1 rfl ((hA a (fd j)).2 hq) (hx2 _ ((hA a (fd j)).2 hq) rfl)
        · rw [hq] at hx2; exact hx2.elim
      · next u9 h1 => exact key (1, u9) (nl (A a (fd j))) h1 rfl (hA a (fd j)).1 (hx2 _ rfl)
      · next u9 h1 =>
        split at hx2
        · next m e2 =>
          refine key (2, u9) (rf m) h1 ?_ trivial hx2.2
          have h9 : A a (j : Int) = m := hx2.1
          unfold qfv
          rw [h9, if_neg (by omega)]; rfl
        · exact hx2.elim
      · next u9 m n0 n1 n2 h1 =>
        refine key (u9, m) (rf m) h1 ?_ trivial hx2
        rcases u9 with _ | _ | _ | u9
        · exact absurd rfl n0
        · exact absurd rfl n1
        · exact absurd rfl n2
        · rfl
      · exact hx2.elim
    · exact hx.elim
  · exact hx.elim
theorem qpf_ok {idx : Nat} (hn : qgood L d rows Q nx) (hr : rows[k]? = some (pc, .putfield idx, len, xs, ps)) (hA : qokA L A) (hl : qokl lo) (hs : qoks st) (hx : qpf L md xs k lo st A nx) : wG d rows k (ql lo) (st.map qv) (qH L A) Q := by
  unfold qpf at hx
  split at hx
  · next ci j v a r =>
    split at hx
    · next ci' n ks e =>
      obtain ⟨hb, hx2⟩ := bif_p hx
      clear hx
      have hb2 := beq_p hb
      clear hb
      subst hb2
      have key : ∀ (kd : Nat × Nat) (z : Int), ks[j]? = some kd → qfv (qu A a (fd j) z) a j kd = qv v → narrow (pv_tyX ci' j) (qv v) = qv v → fits (pv_tyX ci' j) (qv v) = true → qokA L (qu A a (fd j) z) → nx (k + 1) lo r (qu A a (fd j) z) → wG d rows k (ql lo) ((v :: rf a :: r).map qv) (qH L A) Q := by
        intro kd z h1 h2 h3 h4 h5 h6
        refine wG_step hr rfl rfl (k' := k + 1) (lo' := ql lo) (st' := r.map qv) (h1 := qH L (qu A a (fd j) z)) ?_ (hn _ _ _ _ h5 hl (qoks_t (qoks_t hs)) h6)
        show (match (qH L A)[a]? with
          | some (.inr (c', fs)) => if c' = ci' ∧ j < fs.length ∧ narrow (pv_tyX ci' j) (qv v) = qv v ∧ fits (pv_tyX ci' j) (qv v) = true then some (k + 1, ql lo, r.map qv, (qH L A).set a (.inr (c', fs.set j (qv v)))) else none
          | _ => none) = _
        rw [qH_at e]
        show (if ci' = ci' ∧ j < (qfs A a 0 ks).length ∧ narrow (pv_tyX ci' j) (qv v) = qv v ∧ fits (pv_tyX ci' j) (qv v) = true then some (k + 1, ql lo, r.map qv, (qH L A).set a (.inr (ci', (qfs A a 0 ks).set j (qv v)))) else none) = _
        rw [if_pos ⟨rfl, (List.getElem?_eq_some_iff.mp (qfs_at (A := A) (r := a) h1)).1, h3, h4⟩, qfs_set h1 h2]
        rw [qH_set (A' := qu A a (fd j) z) (e := .inr (ci', qfs (qu A a (fd j) z) a 0 ks)) e rfl (fun b hb => qu_ne hb)]
      have ty : ∀ m, qty ci' j = m → (m = 0 → pv_tyX ci' j = .int) ∧ (m = 1 → pv_tyX ci' j = .long) ∧ (m = 2 → ∃ o, pv_tyX ci' j = .object o) := by
        intro m hm
        subst hm
        unfold qty
        split
        · next h => exact ⟨fun _ => h, fun q => absurd q (by decide), fun q => absurd q (by decide)⟩
        · next h => exact ⟨fun q => absurd q (by decide), fun _ => h, fun q => absurd q (by decide)⟩
        · next o h => exact ⟨fun q => absurd q (by decide), fun q => absurd q (by decide), fun _ => ⟨o, h⟩⟩
        · exact ⟨fun q => absurd q (by decide), fun q => absurd q (by decide), fun q => absurd q (by decide)⟩
      split at hx2
      · next u9 t x h1 h2 =>
        obtain ⟨z, z1, z2, z3⟩ := qput_p (qoks_h hs) hx2
        have ht := (ty _ h2).1 rfl
        refine key (0, u9) z h1 ?_ (by rw [ht]; rfl) (by rw [ht]; rfl) (qokA_qu hA (rng_L z1) (fun _ => z1)) (z3 _ rfl)
        show Value.int (Int32.ofInt (qu A a (fd j) z a (fd j))) = _
        rw [qu_at, z2]; rfl
      · next u9 z h1 h2 =>
        obtain ⟨hb, hx3⟩ := bif_p hx2
        have ht := (ty _ h2).2.1 rfl
        refine key (1, u9) z h1 ?_ (by rw [ht]; rfl) (by rw [ht]; rfl) (qokA_qu hA (qoks_h hs) (fun q => by rw [hb] at q; cases q)) (hx3 _ rfl)
        show Value.long (Int64.ofInt (qu A a (fd j) z a (fd j))) = _
        rw [qu_at]; rfl
      · next u9 m h1 h2 =>
        obtain ⟨hb, hx3⟩ := bif_p hx2
        have hb9 := blt_p hb
        obtain ⟨o, ht⟩ := (ty _ h2).2.2 rfl
        have hr9 : rng (m : Int) := ⟨by omega, by omega⟩
        refine key (2, u9) m h1 ?_ (by rw [ht]; rfl) (by rw [ht]; rfl) (qokA_qu hA (rng_L hr9) (fun _ => hr9)) (hx3 _ rfl)
        show (if qu A a (fd j) m a (fd j) < 0 then Value.null else Value.ref (qu A a (fd j) m a (fd j)).toNat) = _
        rw [qu_at, if_neg (by omega)]; rfl
      · exact hx2.elim
    · exact hx.elim
  · exact hx.elim
end QXOK
