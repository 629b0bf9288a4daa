theorem pv_okM_row {LK : List (List Nat)} {M : pv_M} (h : pv_okM2 LK M = true) : ∃ o, pv_cn[o]? = some M.1.cls ∧ ∀ (k : Nat) (r : pv_R), M.2.2.2.2[k]? = some r → r.2.1 = .nop ∨ pv_okR2 LK M o k r = true := by
  simp only [pv_okM2, Bool.and_eq_true] at h
  obtain ⟨o, -, ho⟩ := List.any_eq_true.mp h.2
  simp only [Bool.and_eq_true, decide_eq_true_eq] at ho
  refine ⟨o, ho.1, fun k r hk => ?_⟩
  have h1 := List.all_eq_true.mp ho.2 k (List.mem_range.mpr (List.getElem?_eq_some_iff.mp hk).1)
  rw [hk] at h1
  simpa using h1
theorem pv_ret_is {i : Instr} {xs : List Nat} {st : List Value} {v : Option Value} (h : pv_ret i xs st = some v) : pv_isR i = true := by
  unfold pv_ret at h
  split at h <;> first | rfl | cases h
theorem pv_inv_is {i : Instr} {xs : List Nat} {st : List Value} {h : pv_H} {v : Nat × List Value × List Value} (hx : pv_inv i xs st h = some v) : pv_isR i = false ∧ pv_isC i xs = true := by
  unfold pv_inv at hx
  split at hx <;> first | exact ⟨rfl, rfl⟩ | cases hx
theorem pv_x_is {i : Instr} {xs : List Nat} {k : Nat} {lo : pv_L} {st : List Value} {h : pv_H} {c' : pv_C} (hx : pv_x i xs k lo st h = some c') : pv_isR i = false ∧ pv_isC i xs = false := by
  cases i with
  | invokestatic idx =>
    simp only [pv_x] at hx
    split at hx <;> first | exact ⟨rfl, rfl⟩ | cases hx
  | invokespecial idx =>
    simp only [pv_x] at hx
    split at hx <;> first | exact ⟨rfl, rfl⟩ | cases hx
  | invokevirtual idx => cases hx
  | ireturn => cases hx
  | lreturn => cases hx
  | return_ => cases hx
  | _ => exact ⟨rfl, rfl⟩
set_option maxHeartbeats 8000000 in
theorem pv_x_len {i : Instr} {xs : List Nat} {k : Nat} {lo : pv_L} {st : List Value} {h : pv_H} {c' : pv_C} (hx : pv_x i xs k lo st h = some c') : h.length ≤ c'.2.2.2.length ∧ pv_sl h ≤ pv_sl c'.2.2.2 := by
  have same : ∀ {k' : Nat} {l' : pv_L} {s' : List Value}, c' = (k', l', s', h) → h.length ≤ c'.2.2.2.length ∧ pv_sl h ≤ pv_sl c'.2.2.2 := by
    intro k' l' s' e; subst e; exact ⟨Nat.le_refl _, Nat.le_refl _⟩
  have put : ∀ {k' : Nat} {l' : pv_L} {s' : List Value} {a : Nat} {e1 e2 : va_E}, h[a]? = some e1 → pv_ce e2 = pv_ce e1 → c' = (k', l', s', h.set a e2) → h.length ≤ c'.2.2.2.length ∧ pv_sl h ≤ pv_sl c'.2.2.2 := by
    intro k' l' s' a e1 e2 h1 h2 e; subst e; exact ⟨by simp, by rw [pv_sl_set h1 h2]; exact Nat.le_refl _⟩
  have app : ∀ {k' : Nat} {l' : pv_L} {s' : List Value} {e2 : va_E}, c' = (k', l', s', h ++ [e2]) → h.length ≤ c'.2.2.2.length ∧ pv_sl h ≤ pv_sl c'.2.2.2 := by
    intro k' l' s' e2 e; subst e; exact ⟨by simp, by rw [pv_sl_app]; omega⟩
  cases i with
  | iload i => obtain ⟨_, _, e⟩ := pv_lod0 hx; exact same e
  | iload_n i => obtain ⟨_, _, e⟩ := pv_lod0 hx; exact same e
  | lload i => obtain ⟨_, _, e⟩ := pv_lod1 hx; exact same e
  | lload_n i => obtain ⟨_, _, e⟩ := pv_lod1 hx; exact same e
  | aload i => obtain ⟨_, _, e⟩ := pv_lod2 hx; exact same e
  | aload_n i => obtain ⟨_, _, e⟩ := pv_lod2 hx; exact same e
  | istore i => obtain ⟨_, _, _, e⟩ := pv_sto0 hx; exact same e
  | istore_n i => obtain ⟨_, _, _, e⟩ := pv_sto0 hx; exact same e
  | lstore i => obtain ⟨_, _, _, e⟩ := pv_sto1 hx; exact same e
  | lstore_n i => obtain ⟨_, _, _, e⟩ := pv_sto1 hx; exact same e
  | astore i => obtain ⟨_, _, _, e⟩ := pv_sto2 hx; exact same e
  | astore_n i => obtain ⟨_, _, _, e⟩ := pv_sto2 hx; exact same e
  | ifCond cd off =>
    obtain ⟨t, x, r, _, _, e⟩ := pv_b1_inv hx
    split at e <;> exact same e
  | if_icmp cd off =>
    obtain ⟨t, x, y, r, _, _, e⟩ := pv_b2_inv hx
    split at e <;> exact same e
  | iaload => obtain ⟨_, _, _, _, _, _, _, _, e⟩ := pv_ald_inv hx; exact same e
  | iastore => obtain ⟨_, _, _, _, _, _, _, ha, _, e⟩ := pv_ast_inv hx; exact put ha (by rfl) e
  | baload =>
    simp only [pv_x] at hx
    split at hx
    · split at hx
      · obtain ⟨_, _, _, _, _, _, _, _, e⟩ := pv_ald_inv hx; exact same e
      · cases hx
    · cases hx
  | bastore =>
    simp only [pv_x] at hx
    split at hx
    · obtain ⟨_, _, _, _, _, _, _, ha, _, e⟩ := pv_ast_inv hx; exact put ha (by rfl) e
    · obtain ⟨_, _, _, _, _, _, _, ha, _, e⟩ := pv_ast_inv hx; exact put ha (by rfl) e
    · cases hx
  | _ =>
    simp only [pv_x, pv_i2, pv_l2, pv_lsh] at hx
    repeat' split at hx
    all_goals first
      | (cases hx; done)
      | (cases hx; exact same rfl)
      | (cases hx; exact app rfl)
      | (cases hx; exact put (by assumption) (by first | rfl | simp [pv_ce]) rfl)
theorem pv_go_len {call : Nat → List Value → pv_H → Option (Option Value × pv_H)} (hcall : ∀ j as h v h', call j as h = some (v, h') → h.length ≤ h'.length ∧ pv_sl h ≤ pv_sl h') {rows : List pv_R} : ∀ (f k : Nat) (lo : pv_L) (st : List Value) (h : pv_H) (v : Option Value) (h' : pv_H), pv_go call rows f k lo st h = some (v, h') → h.length ≤ h'.length ∧ pv_sl h ≤ pv_sl h' := by
  intro f
  induction f with
  | zero => intro k lo st h v h' hx; cases hx
  | succ f ih =>
    intro k lo st h v h' hx
    simp only [pv_go] at hx
    split at hx
    · cases hx
    · split at hx
      · cases hx; exact ⟨Nat.le_refl _, Nat.le_refl _⟩
      · split at hx
        · split at hx
          · next v1 h1 hc =>
            have a1 := hcall _ _ _ _ _ hc
            have a2 := ih _ _ _ _ _ _ hx
            exact ⟨Nat.le_trans a1.1 a2.1, Nat.le_trans a1.2 a2.2⟩
          · cases hx
        · split at hx
          · next hc =>
            have a1 := pv_x_len hc
            have a2 := ih _ _ _ _ _ _ hx
            exact ⟨Nat.le_trans a1.1 a2.1, Nat.le_trans a1.2 a2.2⟩
          · cases hx
theorem pv_run_len {pr : List pv_M} {F : Nat} : ∀ (d j : Nat) (as : List Value) (h : pv_H) (v : Option Value) (h' : pv_H), pv_run pr F d j as h = some (v, h') → h.length ≤ h'.length ∧ pv_sl h ≤ pv_sl h' := by
  intro d
  induction d with
  | zero => intro j as h v h' hx; cases hx
  | succ d ih =>
    intro j as h v h' hx
    simp only [pv_run] at hx
    split at hx
    · split at hx
      · exact pv_go_len ih _ _ _ _ _ _ _ hx
      · cases hx
    · cases hx
