/-! A CALCULUS FOR THE PURE MACHINE -/
theorem pv_go_mono {call call' : Nat → List Value → pv_H → Option (Option Value × pv_H)} (hc : ∀ j as h r, call j as h = some r → call' j as h = some r) {rows : List pv_R} : ∀ (f f' k : Nat) (lo : pv_L) (st : List Value) (h : pv_H) (r : Option Value × pv_H), f ≤ f' → pv_go call rows f k lo st h = some r → pv_go call' rows f' k lo st h = some r := by
  intro f
  induction f with
  | zero => intro f' k lo st h r _ hx; cases hx
  | succ f ih =>
    intro f' k lo st h r hf hx
    obtain ⟨g, rfl⟩ : ∃ g, f' = g + 1 := ⟨f' - 1, by omega⟩
    simp only [pv_go] at hx ⊢
    split at hx
    · cases hx
    · next rr hr =>
      split at hx
      · next v hv => exact hx
      · next hv =>
        split at hx
        · next j as rest hi =>
          split at hx
          · next v1 h1 hcl =>
            rw [hc _ _ _ _ hcl]
            exact ih g _ _ _ _ _ (by omega) hx
          · cases hx
        · next hi =>
          split at hx
          · next k1 l1 s1 h1 hx1 => exact ih g _ _ _ _ _ (by omega) hx
          · cases hx
theorem pv_run_mono {pr : List pv_M} {F F' : Nat} (hF : F ≤ F') : ∀ (d j : Nat) (as : List Value) (h : pv_H) (r : Option Value × pv_H), pv_run pr F d j as h = some r → pv_run pr F' d j as h = some r := by
  intro d
  induction d with
  | zero => intro j as h r hx; cases hx
  | succ d ih =>
    intro j as h r hx
    simp only [pv_run] at hx ⊢
    split at hx
    · next M hj =>
      split at hx
      · next hcat =>
        rw [if_pos hcat]
        exact pv_go_mono ih _ _ _ _ _ _ _ hF hx
      · cases hx
    · cases hx
/-- method j, at depth d, comes to an end that Q holds of -/
def wR (d j : Nat) (as : List Value) (h : pv_H) (Q : Option Value → pv_H → Prop) : Prop := ∃ (F : Nat) (v : Option Value) (h' : pv_H), pv_run pv_prog F d j as h = some (v, h') ∧ Q v h'
/-- a body, from row k on -/
def wG (d : Nat) (rows : List pv_R) (k : Nat) (lo : pv_L) (st : List Value) (h : pv_H) (Q : Option Value → pv_H → Prop) : Prop := ∃ (F f : Nat) (v : Option Value) (h' : pv_H), f ≤ F ∧ pv_go (pv_run pv_prog F d) rows f k lo st h = some (v, h') ∧ Q v h'
theorem wR_in {d j : Nat} {as : List Value} {h : pv_H} {Q : Option Value → pv_H → Prop} {M : pv_M} (hM : pv_prog[j]? = some M) (hc : pv_cat as ≤ M.2.2.1) (k : wG d M.2.2.2.2 0 (lv_args 0 as) [] h Q) : wR (d + 1) j as h Q := by
  obtain ⟨F, f, v, h', hf, hg, hq⟩ := k
  refine ⟨F, v, h', ?_, hq⟩
  simp only [pv_run, hM, if_pos hc]
  exact pv_go_mono (fun _ _ _ _ h => h) _ _ _ _ _ _ _ hf hg
theorem wR_mono {d j : Nat} {as : List Value} {h : pv_H} {Q Q' : Option Value → pv_H → Prop} (hq : ∀ v h, Q v h → Q' v h) (k : wR d j as h Q) : wR d j as h Q' := by
  obtain ⟨F, v, h', h1, h2⟩ := k
  exact ⟨F, v, h', h1, hq _ _ h2⟩
theorem wG_mono {d : Nat} {rows : List pv_R} {k : Nat} {lo : pv_L} {st : List Value} {h : pv_H} {Q Q' : Option Value → pv_H → Prop} (hq : ∀ v h, Q v h → Q' v h) (kk : wG d rows k lo st h Q) : wG d rows k lo st h Q' := by
  obtain ⟨F, f, v, h', h0, h1, h2⟩ := kk
  exact ⟨F, f, v, h', h0, h1, hq _ _ h2⟩
section WG
variable {d : Nat} {rows : List pv_R} {k : Nat} {lo : pv_L} {st : List Value} {h : pv_H} {Q : Option Value → pv_H → Prop}
theorem wG_ret {r : pv_R} {v : Option Value} (hr : rows[k]? = some r) (hv : pv_ret r.2.1 r.2.2.2.1 st = some v) (hq : Q v h) : wG d rows k lo st h Q :=
  ⟨1, 1, v, h, Nat.le_refl _, by simp only [pv_go, hr, hv], hq⟩
theorem wG_step {r : pv_R} {k' : Nat} {lo' : pv_L} {st' : List Value} {h1 : pv_H} (hr : rows[k]? = some r) (hv : pv_ret r.2.1 r.2.2.2.1 st = none) (hi : pv_inv r.2.1 r.2.2.2.1 st h = none) (hx : pv_x r.2.1 r.2.2.2.1 k lo st h = some (k', lo', st', h1)) (kk : wG d rows k' lo' st' h1 Q) : wG d rows k lo st h Q := by
  obtain ⟨F, f, v, h', hf, hg, hq⟩ := kk
  refine ⟨F + 1, f + 1, v, h', by omega, ?_, hq⟩
  simp only [pv_go, hr, hv, hi, hx]
  exact pv_go_mono (fun _ _ _ _ h => pv_run_mono (by omega) _ _ _ _ _ h) _ _ _ _ _ _ _ (Nat.le_refl _) hg
theorem wG_call {r : pv_R} {j : Nat} {as rest : List Value} (hr : rows[k]? = some r) (hv : pv_ret r.2.1 r.2.2.2.1 st = none) (hi : pv_inv r.2.1 r.2.2.2.1 st h = some (j, as, rest)) (kk : wR d j as h (fun v h1 => wG d rows (k + 1) lo (v.toList ++ rest) h1 Q)) : wG d rows k lo st h Q := by
  obtain ⟨F1, v1, h1, hrun, F, f, v, h', hf, hg, hq⟩ := kk
  refine ⟨F1 + F + 1, f + 1, v, h', by omega, ?_, hq⟩
  have hrun' := pv_run_mono (F' := F1 + F + 1) (by omega) _ _ _ _ _ hrun
  simp only [pv_go, hr, hv, hi, hrun']
  exact pv_go_mono (fun _ _ _ _ h => pv_run_mono (by omega) _ _ _ _ _ h) _ _ _ _ _ _ _ (Nat.le_refl _) hg
/-- a branch -/
theorem wG_b2 {pc len t : Nat} {ps : List Nat} {cd : Jvm.ClassFile.Cond} {off : Int} {x y : Int32} {r : List Value} (hr : rows[k]? = some (pc, .if_icmp cd off, len, [t], ps)) (k1 : pv_cond cd x y = true → wG d rows t lo r h Q) (k2 : pv_cond cd x y = false → wG d rows (k + 1) lo r h Q) : wG d rows k lo (.int y :: .int x :: r) h Q := by
  cases hc : pv_cond cd x y with
  | true => exact wG_step (k' := t) (lo' := lo) (st' := r) (h1 := h) hr rfl rfl (by simp [pv_x, pv_b2, hc]) (k1 hc)
  | false => exact wG_step (k' := k + 1) (lo' := lo) (st' := r) (h1 := h) hr rfl rfl (by simp [pv_x, pv_b2, hc]) (k2 hc)
theorem wG_b1 {pc len t : Nat} {ps : List Nat} {cd : Jvm.ClassFile.Cond} {off : Int} {x : Int32} {r : List Value} (hr : rows[k]? = some (pc, .ifCond cd off, len, [t], ps)) (k1 : pv_cond cd x 0 = true → wG d rows t lo r h Q) (k2 : pv_cond cd x 0 = false → wG d rows (k + 1) lo r h Q) : wG d rows k lo (.int x :: r) h Q := by
  cases hc : pv_cond cd x 0 with
  | true => exact wG_step (k' := t) (lo' := lo) (st' := r) (h1 := h) hr rfl rfl (by simp [pv_x, pv_b1, hc]) (k1 hc)
  | false => exact wG_step (k' := k + 1) (lo' := lo) (st' := r) (h1 := h) hr rfl rfl (by simp [pv_x, pv_b1, hc]) (k2 hc)
end WG
