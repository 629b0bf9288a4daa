/-! THE TWO WORLDS BESIDE EACH OTHER -/
/-! THE TWO GARDENS ALIKE: the relation that every call keeps; i: ints of the script behind -/
def lw_R (i : Nat) (A1 A2 : qA) : Prop := GR A1 A2 ∧ RT A1 A2 ∧ SO A2 ∧ CA (1400 * i) A2
theorem lw_up {i : Nat} {A1 A2 B1 B2 : qA} (h : lw_R i A1 A2) (g : GR B1 B2) (t : RT B1 B2) (e4 : B2 4 = A2 4) (e9 : B2 9 = A2 9) : lw_R (i + 7) B1 B2 := ⟨g, t, fun d a b => by rw [e4]; exact h.2.2.1 d a b, fun d a b => by
  have := h.2.2.2 d a b
  rw [e9]
  omega⟩
theorem lw_upc {i : Nat} {A1 A2 B1 B2 : qA} (h : lw_R i A1 A2) (g : GR B1 B2) (t : RT B1 B2) (e4 : B2 4 = A2 4) {M : Int} (c : CA M B2) (hM : M ≤ 1400 * i + 9800) : lw_R (i + 7) B1 B2 := ⟨g, t, fun d a b => by rw [e4]; exact h.2.2.1 d a b, fun d a b => by
  have := c d a b
  omega⟩
theorem hang_SO (c l s n f w : Int) {A2 : qA} {M : Int} (h : SO A2) (hc : CA M A2) (M0 : 0 ≤ M) : SO (fM_hang c l s n f w A2).2 ∧ CA M (fM_hang c l s n f w A2).2 := by
  have key : ∀ k, (0 ≤ s ∧ s ≤ 9) → SO (qu (qu (fM_empties k (qu (qu (qu (qu (qu A2 1 k 1) 4 k s) 3 k n) 5 k f) 6 k w)) 9 k 0) 10 k 0) ∧ CA M (qu (qu (fM_empties k (qu (qu (qu (qu (qu A2 1 k 1) 4 k s) 3 k n) 5 k f) 6 k w)) 9 k 0) 10 k 0) := fun k hs => by
    have e : fM_empties k (qu (qu (qu (qu (qu A2 1 k 1) 4 k s) 3 k n) 5 k f) 6 k w) = qu (qu (qu (qu (qu (qu (qu (qu A2 1 k 1) 4 k s) 3 k n) 5 k f) 6 k w) 7 k (-1)) 8 k 0) 2 k 0 := rfl
    rw [e]
    refine ⟨fun d d0 d1 => ?_, fun d d0 d1 => ?_⟩
    · have := h d d0 d1
      by_cases q : d = k
      · subst q
        have e4 : (qu (qu (qu (qu (qu (qu (qu (qu (qu (qu A2 1 d 1) 4 d s) 3 d n) 5 d f) 6 d w) 7 d (-1)) 8 d 0) 2 d 0) 9 d 0) 10 d 0) 4 d = s := by simp [qu_is]
        rw [e4]; exact hs
      · simp only [qu_nn q]; exact this
    · have := hc d d0 d1
      by_cases q : d = k
      · subst q
        have e4 : (qu (qu (qu (qu (qu (qu (qu (qu (qu (qu A2 1 d 1) 4 d s) 3 d n) 5 d f) 6 d w) 7 d (-1)) 8 d 0) 2 d 0) 9 d 0) 10 d 0) 9 d = 0 := by simp [qu_is]
        rw [e4]; exact ⟨Int.le_refl _, M0⟩
      · simp only [qu_nn q]; exact this
  unfold fM_hang
  simp only [qlet]
  by_cases h1 : (0 ≤ c ∧ c ≤ 7) ∧ (0 ≤ l ∧ l ≤ 5)
  · rw [if_pos h1]
    by_cases h2 : 0 ≤ s ∧ s ≤ 9
    · rw [if_pos h2]
      repeat' split
      all_goals first | exact ⟨h, hc⟩ | exact key _ h2
    · rw [if_neg h2]; exact ⟨h, hc⟩
  · rw [if_neg h1]; exact ⟨h, hc⟩
theorem lw_WY {A1 : qA} (hi : iva IC A1) : WY A1 := fun d d0 d1 => iva_at hi 1 rfl (i := d) d0 d1
def lw_ty (t : Bool) (w : Value) : Prop := bif t then ∃ y, w = .long y else ∃ x, w = .int x
theorem lw_ty_c {t : Bool} {w : Value} (h : lw_ty t w) : (∀ B, pv_v B w = w) ∧ w.category = (bif t then 2 else 1) := by
  cases t
  · obtain ⟨x, rfl⟩ := h; exact ⟨fun _ => rfl, rfl⟩
  · obtain ⟨x, rfl⟩ := h; exact ⟨fun _ => rfl, rfl⟩
def lw_call2 (t cmp : Bool) (jC jM : Nat) (vs : List Value) : Prop := ∀ i : Nat, i + 7 ≤ 3584 → ∀ A1 A2, qokA LC A1 → CI A1 → qokA LM A2 → MI A2 → lw_R i A1 A2 → ∃ F1 F2 w1 w2 B1 B2, pv_run pv_prog F1 60 jC vs (qH LC A1) = some (some w1, qH LC B1) ∧ pv_run pv_prog F2 60 jM vs (qH LM A2) = some (some w2, qH LM B2) ∧ qokA LC B1 ∧ CI B1 ∧ qokA LM B2 ∧ MI B2 ∧ lw_R (i + 7) B1 B2 ∧ lw_ty t w1 ∧ lw_ty t w2 ∧ (cmp = true → w1 = w2)
theorem x_of {L : List qY} {I : qA → Prop} {t : Bool} {D j : Nat} {sp : qS} {X : Int → qA → Prop} (ok : okM L D j sp) (hD : D ≤ 60) {vs : List Value} (hv : vs.all isV = true) {A : qA} (hA : qokA L A) (hk : sp (vs.map qa) A (fun v A' => ∃ z, v = some (bif t then nl z else ni z) ∧ I A' ∧ X z A')) : ∃ F w A', pv_run pv_prog F 60 j vs (qH L A) = some (some w, qH L A') ∧ lw_ty t w ∧ qokA L A' ∧ I A' ∧ ∃ z, w = qv (bif t then nl z else ni z) ∧ X z A' := by
  have h1 := ok 60 hD (vs.map qa) A _ hA (fun v hv9 => by
    obtain ⟨w, _, rfl⟩ := List.mem_map.mp hv9
    exact qa_ok w) hk
  rw [qa_vs hv] at h1
  obtain ⟨F, v, h', e, r, A', rfl, rfl, h2, h3, z, rfl, h4, h5⟩ := h1
  refine ⟨F, _, A', e, ?_, h2, h4, z, rfl, h5⟩
  cases t
  · exact ⟨_, rfl⟩
  · exact ⟨_, rfl⟩
theorem c2_hang (x0 : Int32) (x1 : Int32) (x2 : Int32) (x3 : Int32) (x4 : Int32) (x5 : Int32) : lw_call2 false false 95 151 [.ref 0, .int x0, .int x1, .int x2, .int x3, .int x4, .int x5] := by
  intro i hi7 A1 A2 o1 h1 o2 h2 hR
  obtain ⟨F1, w1, B1, r1, t1, q1, I1, z1, e1, X1⟩ := x_of (I := CI) (t := false) (X := fun z B => (z = (fC_hang x0.toInt x1.toInt x2.toInt x3.toInt x4.toInt x5.toInt A1).1 ∧ B = (fC_hang x0.toInt x1.toInt x2.toInt x3.toInt x4.toInt x5.toInt A1).2) ∧ frm [3, 2, 4, 5, 8, 9, 6, 7, 10] [(1, 0)] A1 B) okC_hang (by decide) (vs := [.ref 0, .int x0, .int x1, .int x2, .int x3, .int x4, .int x5]) rfl o1 ⟨x0.toInt, x1.toInt, x2.toInt, x3.toInt, x4.toInt, x5.toInt, rfl, ⟨h1.1, h1.2.1⟩, fun A9 i9 j9 f9 r _ _ g0 g1 => ⟨r, rfl, ⟨i9, j9, KO_fr h1.2.2.1 f9 rfl, LD_fr h1.2.2.2 f9 rfl⟩, ⟨⟨g0, g1⟩, f9⟩⟩⟩
  obtain ⟨F2, w2, B2, r2, t2, q2, I2, z2, e2, X2⟩ := x_of (I := MI) (t := false) (X := fun z B => (z = (fM_hang x0.toInt x1.toInt x2.toInt x3.toInt x4.toInt x5.toInt A2).1 ∧ B = (fM_hang x0.toInt x1.toInt x2.toInt x3.toInt x4.toInt x5.toInt A2).2) ∧ frm [1, 4, 3, 5, 6, 7, 8, 2, 9, 10] [] A2 B) okM_hang (by decide) (vs := [.ref 0, .int x0, .int x1, .int x2, .int x3, .int x4, .int x5]) rfl o2 ⟨x0.toInt, x1.toInt, x2.toInt, x3.toInt, x4.toInt, x5.toInt, rfl, ⟨h2.1, h2.2.1⟩, fun A9 i9 j9 f9 r _ _ g0 g1 => ⟨r, rfl, ⟨i9, j9, WF_fr h2.2.2.1 f9 rfl, LZ_fr h2.2.2.2 f9 rfl⟩, ⟨⟨g0, g1⟩, f9⟩⟩⟩
  have hr := hang_GR x0.toInt x1.toInt x2.toInt x3.toInt x4.toInt x5.toInt hR.1
  have hs := hang_SO x0.toInt x1.toInt x2.toInt x3.toInt x4.toInt x5.toInt hR.2.2.1 hR.2.2.2 (by omega)
  refine ⟨F1, F2, w1, w2, B1, B2, r1, r2, q1, I1, q2, I2, ?_, t1, t2, ?_⟩
  · exact ⟨by rw [X1.1.2, X2.1.2]; exact hr.2, (RT_k hR.2.1 (frm_f X1.2 rfl) (frm_a X1.2 rfl) (frm_f X2.2 rfl) (frm_a X2.2 rfl)), by rw [X2.1.2]; exact hs.1, by rw [X2.1.2]; exact CA_w hs.2 (by omega)⟩
  · intro h; cases h
theorem c2_knot (x0 : Int32) (x1 : Int32) (x2 : Int32) : lw_call2 false false 96 153 [.ref 0, .int x0, .int x1, .int x2] := by
  intro i hi7 A1 A2 o1 h1 o2 h2 hR
  obtain ⟨F1, w1, B1, r1, t1, q1, I1, z1, e1, X1⟩ := x_of (I := CI) (t := false) (X := fun z B => (z = (fC_knot x0.toInt x1.toInt x2.toInt A1).1 ∧ B = (fC_knot x0.toInt x1.toInt x2.toInt A1).2) ∧ frm [2] [] A1 B) okC_knot (by decide) (vs := [.ref 0, .int x0, .int x1, .int x2]) rfl o1 ⟨x0.toInt, x1.toInt, x2.toInt, rfl, ⟨h1.1, h1.2.1⟩, fun A9 i9 j9 f9 r _ _ g0 g1 => ⟨r, rfl, ⟨i9, j9, KO_fr h1.2.2.1 f9 rfl, LD_fr h1.2.2.2 f9 rfl⟩, ⟨⟨g0, g1⟩, f9⟩⟩⟩
  obtain ⟨F2, w2, B2, r2, t2, q2, I2, z2, e2, X2⟩ := x_of (I := MI) (t := false) (X := fun z B => (z = (fM_knot x0.toInt x1.toInt x2.toInt A2).1 ∧ B = (fM_knot x0.toInt x1.toInt x2.toInt A2).2) ∧ frm [3] [] A2 B) okM_knot (by decide) (vs := [.ref 0, .int x0, .int x1, .int x2]) rfl o2 ⟨x0.toInt, x1.toInt, x2.toInt, rfl, ⟨h2.1, h2.2.1⟩, fun A9 i9 j9 f9 r _ _ g0 g1 => ⟨r, rfl, ⟨i9, j9, WF_fr h2.2.2.1 f9 rfl, LZ_fr h2.2.2.2 f9 rfl⟩, ⟨⟨g0, g1⟩, f9⟩⟩⟩
  have hr := knot_GR x0.toInt x1.toInt x2.toInt hR.1
  refine ⟨F1, F2, w1, w2, B1, B2, r1, r2, q1, I1, q2, I2, ?_, t1, t2, ?_⟩
  · exact lw_up hR (by rw [X1.1.2, X2.1.2]; exact hr.2) (RT_k hR.2.1 (frm_f X1.2 rfl) (frm_a X1.2 rfl) (frm_f X2.2 rfl) (frm_a X2.2 rfl)) (frm_a X2.2 rfl) (frm_a X2.2 rfl)
  · intro h; cases h
theorem c2_kind (x0 : Int32) (x1 : Int32) (x2 : Int32) (x3 : Int32) : lw_call2 false false 97 154 [.ref 0, .int x0, .int x1, .int x2, .int x3] := by
  intro i hi7 A1 A2 o1 h1 o2 h2 hR
  obtain ⟨F1, w1, B1, r1, t1, q1, I1, z1, e1, X1⟩ := x_of (I := CI) (t := false) (X := fun z B => (B = fC_kind x0.toInt x1.toInt x2.toInt x3.toInt A1 ∧ ((z = 1 ∧ (0 ≤ x0.toInt ∧ x0.toInt ≤ 5) ∧ (0 ≤ x1.toInt ∧ x1.toInt ≤ 20) ∧ (1 ≤ x2.toInt ∧ x2.toInt ≤ 200) ∧ (0 ≤ x3.toInt ∧ x3.toInt ≤ 99)) ∨ (z = 0 ∧ ¬ ((0 ≤ x0.toInt ∧ x0.toInt ≤ 5) ∧ (0 ≤ x1.toInt ∧ x1.toInt ≤ 20) ∧ (1 ≤ x2.toInt ∧ x2.toInt ≤ 200) ∧ (0 ≤ x3.toInt ∧ x3.toInt ≤ 99))))) ∧ frm [11, 12, 13] [] A1 B) okC_kind (by decide) (vs := [.ref 0, .int x0, .int x1, .int x2, .int x3]) rfl o1 ⟨x0.toInt, x1.toInt, x2.toInt, x3.toInt, rfl, ⟨h1.1, h1.2.1⟩, fun A9 i9 j9 f9 g0 => ⟨fun q => ⟨1, rfl, ⟨i9, j9, KO_fr h1.2.2.1 f9 rfl, LD_fr h1.2.2.2 f9 rfl⟩, ⟨⟨g0, Or.inl ⟨rfl, q⟩⟩, f9⟩⟩, fun q => ⟨0, rfl, ⟨i9, j9, KO_fr h1.2.2.1 f9 rfl, LD_fr h1.2.2.2 f9 rfl⟩, ⟨⟨g0, Or.inr ⟨rfl, q⟩⟩, f9⟩⟩⟩⟩
  obtain ⟨F2, w2, B2, r2, t2, q2, I2, z2, e2, X2⟩ := x_of (I := MI) (t := false) (X := fun z B => (B = fM_kind x0.toInt x1.toInt x2.toInt x3.toInt A2 ∧ ((z = 1 ∧ (0 ≤ x0.toInt ∧ x0.toInt ≤ 5) ∧ (0 ≤ x1.toInt ∧ x1.toInt ≤ 20) ∧ (1 ≤ x2.toInt ∧ x2.toInt ≤ 200) ∧ (0 ≤ x3.toInt ∧ x3.toInt ≤ 99)) ∨ (z = 0 ∧ ¬ ((0 ≤ x0.toInt ∧ x0.toInt ≤ 5) ∧ (0 ≤ x1.toInt ∧ x1.toInt ≤ 20) ∧ (1 ≤ x2.toInt ∧ x2.toInt ≤ 200) ∧ (0 ≤ x3.toInt ∧ x3.toInt ≤ 99))))) ∧ frm [11, 12, 13] [] A2 B) okM_kind (by decide) (vs := [.ref 0, .int x0, .int x1, .int x2, .int x3]) rfl o2 ⟨x0.toInt, x1.toInt, x2.toInt, x3.toInt, rfl, ⟨h2.1, h2.2.1⟩, fun A9 i9 j9 f9 g0 => ⟨fun q => ⟨1, rfl, ⟨i9, j9, WF_fr h2.2.2.1 f9 rfl, LZ_fr h2.2.2.2 f9 rfl⟩, ⟨⟨g0, Or.inl ⟨rfl, q⟩⟩, f9⟩⟩, fun q => ⟨0, rfl, ⟨i9, j9, WF_fr h2.2.2.1 f9 rfl, LZ_fr h2.2.2.2 f9 rfl⟩, ⟨⟨g0, Or.inr ⟨rfl, q⟩⟩, f9⟩⟩⟩⟩
  refine ⟨F1, F2, w1, w2, B1, B2, r1, r2, q1, I1, q2, I2, ?_, t1, t2, ?_⟩
  · exact lw_up hR (by rw [X1.1.1, X2.1.1]; exact kind_GR x0.toInt x1.toInt x2.toInt x3.toInt hR.1) (RT_k hR.2.1 (frm_f X1.2 rfl) (frm_a X1.2 rfl) (frm_f X2.2 rfl) (frm_a X2.2 rfl)) (frm_a X2.2 rfl) (frm_a X2.2 rfl)
  · intro h; cases h
theorem c2_plant (x0 : Int32) (x1 : Int32) (x2 : Int32) (x3 : Int32) : lw_call2 false false 98 155 [.ref 0, .int x0, .int x1, .int x2, .int x3] := by
  intro i hi7 A1 A2 o1 h1 o2 h2 hR
  obtain ⟨F1, w1, B1, r1, t1, q1, I1, z1, e1, X1⟩ := x_of (I := CI) (t := false) (X := fun z B => (z = (fC_plant x0.toInt x1.toInt x2.toInt x3.toInt A1).1 ∧ B = (fC_plant x0.toInt x1.toInt x2.toInt x3.toInt A1).2) ∧ frm [6, 7, 10] [] A1 B) okC_plant (by decide) (vs := [.ref 0, .int x0, .int x1, .int x2, .int x3]) rfl o1 ⟨x0.toInt, x1.toInt, x2.toInt, x3.toInt, rfl, ⟨h1.1, h1.2.1⟩, fun A9 i9 j9 f9 r _ _ g0 g1 => ⟨r, rfl, ⟨i9, j9, KO_fr h1.2.2.1 f9 rfl, LD_fr h1.2.2.2 f9 rfl⟩, ⟨⟨g0, g1⟩, f9⟩⟩⟩
  obtain ⟨F2, w2, B2, r2, t2, q2, I2, z2, e2, X2⟩ := x_of (I := MI) (t := false) (X := fun z B => (z = (fM_plant x0.toInt x1.toInt x2.toInt x3.toInt A2).1 ∧ B = (fM_plant x0.toInt x1.toInt x2.toInt x3.toInt A2).2) ∧ frm [7, 8] [] A2 B) okM_plant (by decide) (vs := [.ref 0, .int x0, .int x1, .int x2, .int x3]) rfl o2 ⟨x0.toInt, x1.toInt, x2.toInt, x3.toInt, rfl, ⟨h2.1, h2.2.1⟩, fun A9 i9 j9 f9 r _ _ g0 g1 => ⟨r, rfl, ⟨i9, j9, WF_fr h2.2.2.1 f9 rfl, LZ_fr h2.2.2.2 f9 rfl⟩, ⟨⟨g0, g1⟩, f9⟩⟩⟩
  have hr := plant_GR x0.toInt x1.toInt x2.toInt x3.toInt hR.1
  refine ⟨F1, F2, w1, w2, B1, B2, r1, r2, q1, I1, q2, I2, ?_, t1, t2, ?_⟩
  · exact lw_up hR (by rw [X1.1.2, X2.1.2]; exact hr.2) (RT_k hR.2.1 (frm_f X1.2 rfl) (frm_a X1.2 rfl) (frm_f X2.2 rfl) (frm_a X2.2 rfl)) (frm_a X2.2 rfl) (frm_a X2.2 rfl)
  · intro h; cases h
theorem c2_valve (x0 : Int32) (x1 : Int32) : lw_call2 false false 99 156 [.ref 0, .int x0, .int x1] := by
  intro i hi7 A1 A2 o1 h1 o2 h2 hR
  obtain ⟨F1, w1, B1, r1, t1, q1, I1, z1, e1, X1⟩ := x_of (I := CI) (t := false) (X := fun z B => (B = fC_valve x0.toInt x1.toInt A1 ∧ ((z = 1 ∧ (0 ≤ x0.toInt ∧ x0.toInt ≤ 7) ∧ (0 ≤ x1.toInt ∧ x1.toInt ≤ 99)) ∨ (z = 0 ∧ ¬ ((0 ≤ x0.toInt ∧ x0.toInt ≤ 7) ∧ (0 ≤ x1.toInt ∧ x1.toInt ≤ 99))))) ∧ frm [16] [] A1 B) okC_valve (by decide) (vs := [.ref 0, .int x0, .int x1]) rfl o1 ⟨x0.toInt, x1.toInt, rfl, ⟨h1.1, h1.2.1⟩, fun A9 i9 j9 f9 g0 => ⟨fun q => ⟨1, rfl, ⟨i9, j9, KO_fr h1.2.2.1 f9 rfl, LD_fr h1.2.2.2 f9 rfl⟩, ⟨⟨g0, Or.inl ⟨rfl, q⟩⟩, f9⟩⟩, fun q => ⟨0, rfl, ⟨i9, j9, KO_fr h1.2.2.1 f9 rfl, LD_fr h1.2.2.2 f9 rfl⟩, ⟨⟨g0, Or.inr ⟨rfl, q⟩⟩, f9⟩⟩⟩⟩
  obtain ⟨F2, w2, B2, r2, t2, q2, I2, z2, e2, X2⟩ := x_of (I := MI) (t := false) (X := fun z B => (B = fM_valve x0.toInt x1.toInt A2 ∧ ((z = 1 ∧ (0 ≤ x0.toInt ∧ x0.toInt ≤ 7) ∧ (0 ≤ x1.toInt ∧ x1.toInt ≤ 99)) ∨ (z = 0 ∧ ¬ ((0 ≤ x0.toInt ∧ x0.toInt ≤ 7) ∧ (0 ≤ x1.toInt ∧ x1.toInt ≤ 99))))) ∧ frm [14] [] A2 B) okM_valve (by decide) (vs := [.ref 0, .int x0, .int x1]) rfl o2 ⟨x0.toInt, x1.toInt, rfl, ⟨h2.1, h2.2.1⟩, fun A9 i9 j9 f9 g0 => ⟨fun q => ⟨1, rfl, ⟨i9, j9, WF_fr h2.2.2.1 f9 rfl, LZ_fr h2.2.2.2 f9 rfl⟩, ⟨⟨g0, Or.inl ⟨rfl, q⟩⟩, f9⟩⟩, fun q => ⟨0, rfl, ⟨i9, j9, WF_fr h2.2.2.1 f9 rfl, LZ_fr h2.2.2.2 f9 rfl⟩, ⟨⟨g0, Or.inr ⟨rfl, q⟩⟩, f9⟩⟩⟩⟩
  refine ⟨F1, F2, w1, w2, B1, B2, r1, r2, q1, I1, q2, I2, ?_, t1, t2, ?_⟩
  · exact lw_up hR (by rw [X1.1.1, X2.1.1]; exact valve_GR x0.toInt x1.toInt hR.1) (RT_k hR.2.1 (frm_f X1.2 rfl) (frm_a X1.2 rfl) (frm_f X2.2 rfl) (frm_a X2.2 rfl)) (frm_a X2.2 rfl) (frm_a X2.2 rfl)
  · intro h; cases h
theorem c2_kitchen (x0 : Int32) (x1 : Int32) (x2 : Int32) : lw_call2 false false 100 157 [.ref 0, .int x0, .int x1, .int x2] := by
  intro i hi7 A1 A2 o1 h1 o2 h2 hR
  obtain ⟨F1, w1, B1, r1, t1, q1, I1, z1, e1, X1⟩ := x_of (I := CI) (t := false) (X := fun z B => (B = fC_kitchen x0.toInt x1.toInt x2.toInt A1 ∧ ((z = 1 ∧ (0 ≤ x0.toInt ∧ x0.toInt ≤ 7) ∧ (0 ≤ x1.toInt ∧ x1.toInt ≤ 7) ∧ (0 ≤ x2.toInt ∧ x2.toInt ≤ 9999)) ∨ (z = 0 ∧ ¬ ((0 ≤ x0.toInt ∧ x0.toInt ≤ 7) ∧ (0 ≤ x1.toInt ∧ x1.toInt ≤ 7) ∧ (0 ≤ x2.toInt ∧ x2.toInt ≤ 9999))))) ∧ frm [17, 18] [] A1 B) okC_kitchen (by decide) (vs := [.ref 0, .int x0, .int x1, .int x2]) rfl o1 ⟨x0.toInt, x1.toInt, x2.toInt, rfl, ⟨h1.1, h1.2.1⟩, fun A9 i9 j9 f9 g0 => ⟨fun q => ⟨1, rfl, ⟨i9, j9, KO_fr h1.2.2.1 f9 rfl, LD_fr h1.2.2.2 f9 rfl⟩, ⟨⟨g0, Or.inl ⟨rfl, q⟩⟩, f9⟩⟩, fun q => ⟨0, rfl, ⟨i9, j9, KO_fr h1.2.2.1 f9 rfl, LD_fr h1.2.2.2 f9 rfl⟩, ⟨⟨g0, Or.inr ⟨rfl, q⟩⟩, f9⟩⟩⟩⟩
  obtain ⟨F2, w2, B2, r2, t2, q2, I2, z2, e2, X2⟩ := x_of (I := MI) (t := false) (X := fun z B => (B = fM_kitchen x0.toInt x1.toInt x2.toInt A2 ∧ ((z = 1 ∧ (0 ≤ x0.toInt ∧ x0.toInt ≤ 7) ∧ (0 ≤ x1.toInt ∧ x1.toInt ≤ 7) ∧ (0 ≤ x2.toInt ∧ x2.toInt ≤ 9999)) ∨ (z = 0 ∧ ¬ ((0 ≤ x0.toInt ∧ x0.toInt ≤ 7) ∧ (0 ≤ x1.toInt ∧ x1.toInt ≤ 7) ∧ (0 ≤ x2.toInt ∧ x2.toInt ≤ 9999))))) ∧ frm [15, 16] [] A2 B) okM_kitchen (by decide) (vs := [.ref 0, .int x0, .int x1, .int x2]) rfl o2 ⟨x0.toInt, x1.toInt, x2.toInt, rfl, ⟨h2.1, h2.2.1⟩, fun A9 i9 j9 f9 g0 => ⟨fun q => ⟨1, rfl, ⟨i9, j9, WF_fr h2.2.2.1 f9 rfl, LZ_fr h2.2.2.2 f9 rfl⟩, ⟨⟨g0, Or.inl ⟨rfl, q⟩⟩, f9⟩⟩, fun q => ⟨0, rfl, ⟨i9, j9, WF_fr h2.2.2.1 f9 rfl, LZ_fr h2.2.2.2 f9 rfl⟩, ⟨⟨g0, Or.inr ⟨rfl, q⟩⟩, f9⟩⟩⟩⟩
  refine ⟨F1, F2, w1, w2, B1, B2, r1, r2, q1, I1, q2, I2, ?_, t1, t2, ?_⟩
  · exact lw_up hR (by rw [X1.1.1, X2.1.1]; exact kitchen_GR x0.toInt x1.toInt x2.toInt hR.1) (RT_k hR.2.1 (frm_f X1.2 rfl) (frm_a X1.2 rfl) (frm_f X2.2 rfl) (frm_a X2.2 rfl)) (frm_a X2.2 rfl) (frm_a X2.2 rfl)
  · intro h; cases h
theorem c2_rope (x0 : Int32) (x1 : Int32) (x2 : Int32) : lw_call2 false false 101 158 [.ref 0, .int x0, .int x1, .int x2] := by
  intro i hi7 A1 A2 o1 h1 o2 h2 hR
  obtain ⟨F1, w1, B1, r1, t1, q1, I1, z1, e1, X1⟩ := x_of (I := CI) (t := false) (X := fun z B => (B = fC_rope x0.toInt x1.toInt x2.toInt A1 ∧ ((z = 1 ∧ (0 ≤ x0.toInt ∧ x0.toInt ≤ 7) ∧ (0 ≤ x1.toInt ∧ x1.toInt ≤ 999) ∧ (0 ≤ x2.toInt ∧ x2.toInt ≤ 99)) ∨ (z = 0 ∧ ¬ ((0 ≤ x0.toInt ∧ x0.toInt ≤ 7) ∧ (0 ≤ x1.toInt ∧ x1.toInt ≤ 999) ∧ (0 ≤ x2.toInt ∧ x2.toInt ≤ 99))))) ∧ frm [21, 22] [] A1 B) okC_rope (by decide) (vs := [.ref 0, .int x0, .int x1, .int x2]) rfl o1 ⟨x0.toInt, x1.toInt, x2.toInt, rfl, ⟨h1.1, h1.2.1⟩, fun A9 i9 j9 f9 g0 => ⟨fun q => ⟨1, rfl, ⟨i9, j9, KO_fr h1.2.2.1 f9 rfl, LD_fr h1.2.2.2 f9 rfl⟩, ⟨⟨g0, Or.inl ⟨rfl, q⟩⟩, f9⟩⟩, fun q => ⟨0, rfl, ⟨i9, j9, KO_fr h1.2.2.1 f9 rfl, LD_fr h1.2.2.2 f9 rfl⟩, ⟨⟨g0, Or.inr ⟨rfl, q⟩⟩, f9⟩⟩⟩⟩
  obtain ⟨F2, w2, B2, r2, t2, q2, I2, z2, e2, X2⟩ := x_of (I := MI) (t := false) (X := fun z B => (B = fM_rope x0.toInt x1.toInt x2.toInt A2 ∧ ((z = 1 ∧ (0 ≤ x0.toInt ∧ x0.toInt ≤ 7) ∧ (0 ≤ x1.toInt ∧ x1.toInt ≤ 999) ∧ (0 ≤ x2.toInt ∧ x2.toInt ≤ 99)) ∨ (z = 0 ∧ ¬ ((0 ≤ x0.toInt ∧ x0.toInt ≤ 7) ∧ (0 ≤ x1.toInt ∧ x1.toInt ≤ 999) ∧ (0 ≤ x2.toInt ∧ x2.toInt ≤ 99))))) ∧ frm [20, 21] [] A2 B) okM_rope (by decide) (vs := [.ref 0, .int x0, .int x1, .int x2]) rfl o2 ⟨x0.toInt, x1.toInt, x2.toInt, rfl, ⟨h2.1, h2.2.1⟩, fun A9 i9 j9 f9 g0 => ⟨fun q => ⟨1, rfl, ⟨i9, j9, WF_fr h2.2.2.1 f9 rfl, LZ_fr h2.2.2.2 f9 rfl⟩, ⟨⟨g0, Or.inl ⟨rfl, q⟩⟩, f9⟩⟩, fun q => ⟨0, rfl, ⟨i9, j9, WF_fr h2.2.2.1 f9 rfl, LZ_fr h2.2.2.2 f9 rfl⟩, ⟨⟨g0, Or.inr ⟨rfl, q⟩⟩, f9⟩⟩⟩⟩
  refine ⟨F1, F2, w1, w2, B1, B2, r1, r2, q1, I1, q2, I2, ?_, t1, t2, ?_⟩
  · exact lw_up hR (by rw [X1.1.1, X2.1.1]; exact rope_GR x0.toInt x1.toInt x2.toInt hR.1) (RT_k hR.2.1 (frm_f X1.2 rfl) (frm_a X1.2 rfl) (frm_f X2.2 rfl) (frm_a X2.2 rfl)) (frm_a X2.2 rfl) (frm_a X2.2 rfl)
  · intro h; cases h
theorem c2_seed (x0 : Int32) : lw_call2 false false 102 159 [.ref 0, .int x0] := by
  intro i hi7 A1 A2 o1 h1 o2 h2 hR
  obtain ⟨F1, w1, B1, r1, t1, q1, I1, z1, e1, X1⟩ := x_of (I := CI) (t := false) (X := fun z B => (B = fC_seed x0.toInt A1 ∧ ((z = 1 ∧ 0 ≤ x0.toInt ∧ x0.toInt ≤ 65535) ∨ (z = 0 ∧ ¬ (0 ≤ x0.toInt ∧ x0.toInt ≤ 65535)))) ∧ frm [] [(0, 11)] A1 B) okC_seed (by decide) (vs := [.ref 0, .int x0]) rfl o1 ⟨x0.toInt, rfl, ⟨h1.1, h1.2.1⟩, fun A9 i9 j9 f9 g0 => ⟨fun q => ⟨1, rfl, ⟨i9, j9, KO_fr h1.2.2.1 f9 rfl, LD_fr h1.2.2.2 f9 rfl⟩, ⟨⟨g0, Or.inl ⟨rfl, q⟩⟩, f9⟩⟩, fun q => ⟨0, rfl, ⟨i9, j9, KO_fr h1.2.2.1 f9 rfl, LD_fr h1.2.2.2 f9 rfl⟩, ⟨⟨g0, Or.inr ⟨rfl, q⟩⟩, f9⟩⟩⟩⟩
  obtain ⟨F2, w2, B2, r2, t2, q2, I2, z2, e2, X2⟩ := x_of (I := MI) (t := false) (X := fun z B => (B = fM_seed x0.toInt A2 ∧ ((z = 1 ∧ 0 ≤ x0.toInt ∧ x0.toInt ≤ 65535) ∨ (z = 0 ∧ ¬ (0 ≤ x0.toInt ∧ x0.toInt ≤ 65535)))) ∧ frm [] [(0, 1)] A2 B) okM_seed (by decide) (vs := [.ref 0, .int x0]) rfl o2 ⟨x0.toInt, rfl, ⟨h2.1, h2.2.1⟩, fun A9 i9 j9 f9 g0 => ⟨fun q => ⟨1, rfl, ⟨i9, j9, WF_fr h2.2.2.1 f9 rfl, LZ_fr h2.2.2.2 f9 rfl⟩, ⟨⟨g0, Or.inl ⟨rfl, q⟩⟩, f9⟩⟩, fun q => ⟨0, rfl, ⟨i9, j9, WF_fr h2.2.2.1 f9 rfl, LZ_fr h2.2.2.2 f9 rfl⟩, ⟨⟨g0, Or.inr ⟨rfl, q⟩⟩, f9⟩⟩⟩⟩
  refine ⟨F1, F2, w1, w2, B1, B2, r1, r2, q1, I1, q2, I2, ?_, t1, t2, ?_⟩
  · exact lw_up hR (by rw [X1.1.1, X2.1.1]; exact seed_GR x0.toInt hR.1) (RT_k hR.2.1 (frm_f X1.2 rfl) (frm_a X1.2 rfl) (frm_f X2.2 rfl) (frm_a X2.2 rfl)) (frm_a X2.2 rfl) (frm_a X2.2 rfl)
  · intro h; cases h
theorem c2_feed (x0 : Int32) (x1 : Int32) (x2 : Int32) (x3 : Int32) (x4 : Int32) : lw_call2 false false 103 161 [.ref 0, .int x0, .int x1, .int x2, .int x3, .int x4] := by
  intro i hi7 A1 A2 o1 h1 o2 h2 hR
  obtain ⟨F1, w1, B1, r1, t1, q1, I1, z1, e1, X1⟩ := x_of (I := CI) (t := false) (X := fun z B => (z = (fC_feed x0.toInt x1.toInt x2.toInt x3.toInt x4.toInt A1).1 ∧ B = (fC_feed x0.toInt x1.toInt x2.toInt x3.toInt x4.toInt A1).2) ∧ frm [53] [(52, 1)] A1 B) okC_feed (by decide) (vs := [.ref 0, .int x0, .int x1, .int x2, .int x3, .int x4]) rfl o1 ⟨x0.toInt, x1.toInt, x2.toInt, x3.toInt, x4.toInt, rfl, ⟨h1.1, h1.2.1⟩, fun A9 i9 j9 f9 r _ _ g0 g1 => ⟨r, rfl, ⟨i9, j9, KO_fr h1.2.2.1 f9 rfl, LD_fr h1.2.2.2 f9 rfl⟩, ⟨⟨g0, g1⟩, f9⟩⟩⟩
  obtain ⟨F2, w2, B2, r2, t2, q2, I2, z2, e2, X2⟩ := x_of (I := MI) (t := false) (X := fun z B => (z = (fM_feed x0.toInt x1.toInt x2.toInt x3.toInt x4.toInt A2).1 ∧ B = (fM_feed x0.toInt x1.toInt x2.toInt x3.toInt x4.toInt A2).2) ∧ frm [22] [(0, 26)] A2 B) okM_feed (by decide) (vs := [.ref 0, .int x0, .int x1, .int x2, .int x3, .int x4]) rfl o2 ⟨x0.toInt, x1.toInt, x2.toInt, x3.toInt, x4.toInt, rfl, ⟨h2.1, h2.2.1⟩, fun A9 i9 j9 f9 r _ _ g0 g1 => ⟨r, rfl, ⟨i9, j9, WF_fr h2.2.2.1 f9 rfl, LZ_fr h2.2.2.2 f9 rfl⟩, ⟨⟨g0, g1⟩, f9⟩⟩⟩
  have hr := feed_R x0.toInt x1.toInt x2.toInt x3.toInt x4.toInt hR.2.1 (ivf_at h1.2.1 3 rfl).1
  refine ⟨F1, F2, w1, w2, B1, B2, r1, r2, q1, I1, q2, I2, ?_, t1, t2, ?_⟩
  · exact lw_up hR (GR_f hR.1 X1.2 X2.2 rfl rfl) (by rw [X1.1.2, X2.1.2]; exact hr.2) (frm_a X2.2 rfl) (frm_a X2.2 rfl)
  · intro h; cases h
theorem c2_law (x0 : Int32) : lw_call2 false false 104 183 [.ref 0, .int x0] := by
  intro i hi7 A1 A2 o1 h1 o2 h2 hR
  obtain ⟨F1, w1, B1, r1, t1, q1, I1, z1, e1, X1⟩ := x_of (I := CI) (t := false) (X := fun z B => ((36 ≤ A1 0 (fd 10) ∧ A1 0 (fd 10) ≤ 36 ∧ A1 34 (fd 4) = 71) ∧ (z = (fC_law_36 x0.toInt A1).1 ∧ B = (fC_law_36 x0.toInt A1).2) ∧ frm [37, 38, 39, 40, 41, 42] [(36, 7), (36, 8), (54, 3), (54, 4), (54, 0), (54, 1), (54, 2), (52, 1), (0, 10), (34, 4)] A1 B) ∨ ((71 ≤ A1 0 (fd 10) ∧ A1 0 (fd 10) ≤ 71 ∧ A1 34 (fd 4) = 36) ∧ (z = (fC_law_71 x0.toInt A1).1 ∧ B = (fC_law_71 x0.toInt A1).2) ∧ frm [72, 73, 74, 75, 76, 77] [(71, 7), (71, 8), (54, 3), (54, 4), (54, 0), (54, 1), (54, 2), (52, 1), (0, 10), (34, 4)] A1 B)) okC_law (by decide) (vs := [.ref 0, .int x0]) rfl o1 (by
    rcases h1.2.2.2 with q | q
    · exact Or.inr ⟨x0.toInt, rfl, ⟨h1.1, h1.2.1, ⟨by omega, by omega⟩, ⟨by omega, by omega⟩, h1.2.2.1⟩, fun A9 i9 j9 f9 r _ g0 g1 g2 g3 => ⟨r, rfl, ⟨i9, j9, g0, g1⟩, Or.inr ⟨⟨by omega, by omega, q.1⟩, ⟨g2, g3⟩, f9⟩⟩⟩
    · exact Or.inl ⟨x0.toInt, rfl, ⟨h1.1, h1.2.1, ⟨by omega, by omega⟩, ⟨by omega, by omega⟩, h1.2.2.1⟩, fun A9 i9 j9 f9 r _ g0 g1 g2 g3 => ⟨r, rfl, ⟨i9, j9, g0, g1⟩, Or.inl ⟨⟨by omega, by omega, q.1⟩, ⟨g2, g3⟩, f9⟩⟩⟩)
  obtain ⟨F2, w2, B2, r2, t2, q2, I2, z2, e2, X2⟩ := x_of (I := MI) (t := false) (X := fun z B => (z = (fM_law x0.toInt A2).1 ∧ B = (fM_law x0.toInt A2).2) ∧ frm [23, 24, 25, 26, 27, 28, 29, 30, 31, 32, 33] [(0, 27), (0, 29), (0, 30), (0, 31), (0, 32), (0, 34), (0, 33), (0, 26), (0, 28), (0, 35)] A2 B) okM_law (by decide) (vs := [.ref 0, .int x0]) rfl o2 ⟨x0.toInt, rfl, ⟨h2.1, h2.2.1, h2.2.2.1⟩, fun A9 i9 j9 f9 r _ g0 g1 g2 => ⟨r, rfl, ⟨i9, j9, g0, LZ_fr h2.2.2.2 f9 rfl⟩, ⟨⟨g1, g2⟩, f9⟩⟩⟩
  rcases X1 with ⟨hd9, ⟨y1, y2⟩, y3⟩ | ⟨hd9, ⟨y1, y2⟩, y3⟩
  · have hr := law36_R hR.2.1 h1.1 y2 X2.1.2 (frm_a y3 rfl) (frm_a X2.2 rfl)
    have hl := law36_RL hR.2.1 o1 h1.1 h1.2.1 h1.2.2.1 hR.1.2.2.2 hd9.2.2 y2 X2.1.2 (frm_c (frm_0 _ _ _) y3 rfl)
    refine ⟨F1, F2, w1, w2, B1, B2, r1, r2, q1, I1, q2, I2, ?_, t1, t2, ?_⟩
    · exact lw_up hR ⟨RCS_of (RC_f (GR_C hR.1) y3 X2.2 rfl rfl) _, RB_f hR.1.2.1 y3 X2.2 rfl rfl, RF_f hR.1.2.2.1 y3 X2.2 rfl rfl, hl⟩ hr.2 (frm_a X2.2 rfl) (frm_a X2.2 rfl)
    · intro h; cases h
  · have hr := law71_R hR.2.1 h1.1 y2 X2.1.2 (frm_a y3 rfl) (frm_a X2.2 rfl)
    have hl := law71_RL hR.2.1 o1 h1.1 h1.2.1 h1.2.2.1 hR.1.2.2.2 hd9.2.2 y2 X2.1.2 (frm_c (frm_0 _ _ _) y3 rfl)
    refine ⟨F1, F2, w1, w2, B1, B2, r1, r2, q1, I1, q2, I2, ?_, t1, t2, ?_⟩
    · exact lw_up hR ⟨RCS_of (RC_f (GR_C hR.1) y3 X2.2 rfl rfl) _, RB_f hR.1.2.1 y3 X2.2 rfl rfl, RF_f hR.1.2.2.1 y3 X2.2 rfl rfl, hl⟩ hr.2 (frm_a X2.2 rfl) (frm_a X2.2 rfl)
    · intro h; cases h
theorem c2_cell (x0 : Int32) (x1 : Int32) (x2 : Int32) : lw_call2 false false 105 199 [.ref 0, .int x0, .int x1, .int x2] := by
  intro i hi7 A1 A2 o1 h1 o2 h2 hR
  obtain ⟨F1, w1, B1, r1, t1, q1, I1, z1, e1, X1⟩ := x_of (I := CI) (t := false) (X := fun z B => z = fC_cell x0.toInt x1.toInt x2.toInt A1 ∧ B = A1) okC_cell (by decide) (vs := [.ref 0, .int x0, .int x1, .int x2]) rfl o1 ⟨x0.toInt, x1.toInt, x2.toInt, rfl, ⟨h1.1, h1.2.1⟩, fun r _ g0 => ⟨r, rfl, h1, ⟨g0, rfl⟩⟩⟩
  obtain ⟨F2, w2, B2, r2, t2, q2, I2, z2, e2, X2⟩ := x_of (I := MI) (t := false) (X := fun z B => z = fM_cell x0.toInt x1.toInt x2.toInt A2 ∧ B = A2) okM_cell (by decide) (vs := [.ref 0, .int x0, .int x1, .int x2]) rfl o2 ⟨x0.toInt, x1.toInt, x2.toInt, rfl, ⟨h2.1, h2.2.1⟩, fun r _ g0 => ⟨r, rfl, h2, ⟨g0, rfl⟩⟩⟩
  refine ⟨F1, F2, w1, w2, B1, B2, r1, r2, q1, I1, q2, I2, ?_, t1, t2, ?_⟩
  · rw [X1.2, X2.2]; exact lw_up hR hR.1 hR.2.1 rfl rfl
  · intro h; cases h
theorem c2_byLaw (x0 : Int32) (x1 : Int32) (x2 : Int32) : lw_call2 false true 106 192 [.ref 0, .int x0, .int x1, .int x2] := by
  intro i hi7 A1 A2 o1 h1 o2 h2 hR
  obtain ⟨F1, w1, B1, r1, t1, q1, I1, z1, e1, X1⟩ := x_of (I := CI) (t := false) (X := fun z B => (z = (fC_byLaw x0.toInt x1.toInt x2.toInt A1).1 ∧ B = (fC_byLaw x0.toInt x1.toInt x2.toInt A1).2) ∧ frm [35, 43, 78] [(36, 9), (71, 9)] A1 B) okC_byLaw (by decide) (vs := [.ref 0, .int x0, .int x1, .int x2]) rfl o1 ⟨x0.toInt, x1.toInt, x2.toInt, rfl, ⟨h1.1, h1.2.1, (LD_w h1.2.2.2), h1.2.2.1⟩, fun A9 i9 j9 f9 r _ _ g0 g1 => ⟨r, rfl, ⟨i9, j9, KO_fr h1.2.2.1 f9 rfl, LD_fr h1.2.2.2 f9 rfl⟩, ⟨⟨g0, g1⟩, f9⟩⟩⟩
  obtain ⟨F2, w2, B2, r2, t2, q2, I2, z2, e2, X2⟩ := x_of (I := MI) (t := false) (X := fun z B => (z = (fM_byLaw x0.toInt x1.toInt x2.toInt A2).1 ∧ B = (fM_byLaw x0.toInt x1.toInt x2.toInt A2).2) ∧ frm [34, 35] [] A2 B) okM_byLaw (by decide) (vs := [.ref 0, .int x0, .int x1, .int x2]) rfl o2 ⟨x0.toInt, x1.toInt, x2.toInt, rfl, ⟨h2.1, h2.2.1, h2.2.2.1⟩, fun A9 i9 j9 f9 r _ _ g0 g1 => ⟨r, rfl, ⟨i9, j9, WF_fr h2.2.2.1 f9 rfl, LZ_fr h2.2.2.2 f9 rfl⟩, ⟨⟨g0, g1⟩, f9⟩⟩⟩
  refine ⟨F1, F2, w1, w2, B1, B2, r1, r2, q1, I1, q2, I2, ?_, t1, t2, ?_⟩
  · exact lw_up hR (GR_f hR.1 X1.2 X2.2 rfl rfl) (RT_k hR.2.1 (frm_f X1.2 rfl) (frm_a X1.2 rfl) (frm_f X2.2 rfl) (frm_a X2.2 rfl)) (frm_a X2.2 rfl) (frm_a X2.2 rfl)
  · intro _; rw [e1, e2, X1.1.1, X2.1.1, (byLaw_R x0.toInt x1.toInt x2.toInt hR.1).1]
theorem c2_water : lw_call2 false false 107 196 [.ref 0] := by
  intro i hi7 A1 A2 o1 h1 o2 h2 hR
  obtain ⟨F1, w1, B1, r1, t1, q1, I1, z1, e1, X1⟩ := x_of (I := CI) (t := false) (X := fun z B => (z = (fC_water A1).1 ∧ B = (fC_water A1).2) ∧ frm [45, 46, 9, 19] [] A1 B) okC_water (by decide) (vs := [.ref 0]) rfl o1 ⟨rfl, ⟨h1.1, h1.2.1⟩, fun A9 i9 j9 f9 r _ g0 g1 => ⟨r, rfl, ⟨i9, j9, KO_fr h1.2.2.1 f9 rfl, LD_fr h1.2.2.2 f9 rfl⟩, ⟨⟨g0, g1⟩, f9⟩⟩⟩
  obtain ⟨F2, w2, B2, r2, t2, q2, I2, z2, e2, X2⟩ := x_of (I := MI) (t := false) (X := fun z B => (z = (fM_water A2).1 ∧ B = (fM_water A2).2) ∧ frm [36, 37, 10, 17] [] A2 B) okM_water (by decide) (vs := [.ref 0]) rfl o2 ⟨rfl, ⟨h2.1, h2.2.1⟩, fun A9 i9 j9 f9 r _ g0 g1 => ⟨r, rfl, ⟨i9, j9, WF_fr h2.2.2.1 f9 rfl, LZ_fr h2.2.2.2 f9 rfl⟩, ⟨⟨g0, g1⟩, f9⟩⟩⟩
  have hr := water_GR hR.1 (lw_WY h1.1)
  refine ⟨F1, F2, w1, w2, B1, B2, r1, r2, q1, I1, q2, I2, ?_, t1, t2, ?_⟩
  · exact lw_up hR (by rw [X1.1.2, X2.1.2]; exact hr.2) (RT_k hR.2.1 (frm_f X1.2 rfl) (frm_a X1.2 rfl) (frm_f X2.2 rfl) (frm_a X2.2 rfl)) (frm_a X2.2 rfl) (frm_a X2.2 rfl)
  · intro h; cases h
theorem c2_fall (x0 : Int32) (x1 : Int32) : lw_call2 false false 108 203 [.ref 0, .int x0, .int x1] := by
  intro i hi7 A1 A2 o1 h1 o2 h2 hR
  obtain ⟨F1, w1, B1, r1, t1, q1, I1, z1, e1, X1⟩ := x_of (I := CI) (t := false) (X := fun z B => (z = (fC_fall x0.toInt x1.toInt A1).1 ∧ B = (fC_fall x0.toInt x1.toInt A1).2) ∧ frm [6, 7, 10, 8, 20, 23, 25, 26, 27, 28, 29, 30, 31, 32, 33, 35, 43, 78] [(24, 9), (24, 10), (36, 9), (71, 9)] A1 B) okC_fall (by decide) (vs := [.ref 0, .int x0, .int x1]) rfl o1 ⟨x0.toInt, x1.toInt, rfl, ⟨h1.1, h1.2.1, (LD_w h1.2.2.2), h1.2.2.1⟩, fun A9 i9 j9 f9 r _ _ g0 g1 => ⟨r, rfl, ⟨i9, j9, KO_fr h1.2.2.1 f9 rfl, LD_fr h1.2.2.2 f9 rfl⟩, ⟨⟨g0, g1⟩, f9⟩⟩⟩
  obtain ⟨F2, w2, B2, r2, t2, q2, I2, z2, e2, X2⟩ := x_of (I := MI) (t := false) (X := fun z B => (z = (fM_fall x0.toInt x1.toInt A2).1 ∧ B = (fM_fall x0.toInt x1.toInt A2).2) ∧ frm [34, 35, 9, 19, 18, 7, 8, 2, 38, 39, 40, 41, 42, 43, 44, 45, 46] [(0, 2), (0, 3)] A2 B) okM_fall (by decide) (vs := [.ref 0, .int x0, .int x1]) rfl o2 ⟨x0.toInt, x1.toInt, rfl, ⟨h2.1, h2.2.1, h2.2.2.1, h2.2.2.2⟩, fun A9 i9 j9 f9 r _ _ g0 g1 g2 => ⟨r, rfl, ⟨i9, j9, WF_fr h2.2.2.1 f9 rfl, g0⟩, ⟨⟨g1, g2⟩, f9⟩⟩⟩
  have hr := fall_GR x0.toInt x1.toInt hR.1
  refine ⟨F1, F2, w1, w2, B1, B2, r1, r2, q1, I1, q2, I2, ?_, t1, t2, ?_⟩
  · exact lw_upc hR (by rw [X1.1.2, X2.1.2]; exact hr.2.1) (RT_k hR.2.1 (frm_f X1.2 rfl) (frm_a X1.2 rfl) (frm_f X2.2 rfl) (frm_a X2.2 rfl)) (frm_a X2.2 rfl) (M := 1400 * i + 200) (by rw [X2.1.2]; exact hr.2.2 _ (by omega) (by omega) hR.2.2.2) (by omega)
  · intro h; cases h
theorem c2_go : lw_call2 false false 109 207 [.ref 0] := by
  intro i hi7 A1 A2 o1 h1 o2 h2 hR
  obtain ⟨F1, w1, B1, r1, t1, q1, I1, z1, e1, X1⟩ := x_of (I := CI) (t := false) (X := fun z B => (z = (fC_go A1).1 ∧ B = (fC_go A1).2) ∧ frm [6, 7, 10, 8, 20, 23, 25, 26, 27, 28, 29, 30, 31, 32, 33, 35, 43, 78, 3, 2] [(24, 9), (24, 10), (36, 9), (71, 9), (1, 0)] A1 B) okC_go (by decide) (vs := [.ref 0]) rfl o1 ⟨rfl, ⟨h1.1, h1.2.1, (LD_w h1.2.2.2), h1.2.2.1⟩, fun A9 i9 j9 f9 r _ g0 g1 => ⟨r, rfl, ⟨i9, j9, KO_fr h1.2.2.1 f9 rfl, LD_fr h1.2.2.2 f9 rfl⟩, ⟨⟨g0, g1⟩, f9⟩⟩⟩
  obtain ⟨F2, w2, B2, r2, t2, q2, I2, z2, e2, X2⟩ := x_of (I := MI) (t := false) (X := fun z B => (z = (fM_go A2).1 ∧ B = (fM_go A2).2) ∧ frm [34, 35, 9, 19, 18, 7, 8, 2, 38, 39, 40, 41, 42, 43, 44, 45, 46, 1, 3] [(0, 2), (0, 3)] A2 B) okM_go (by decide) (vs := [.ref 0]) rfl o2 ⟨rfl, ⟨h2.1, h2.2.1, h2.2.2.1, h2.2.2.2⟩, fun A9 i9 j9 f9 r _ g0 g1 g2 => ⟨r, rfl, ⟨i9, j9, WF_fr h2.2.2.1 f9 rfl, g0⟩, ⟨⟨g1, g2⟩, f9⟩⟩⟩
  have hr := go_GR hR.1
  refine ⟨F1, F2, w1, w2, B1, B2, r1, r2, q1, I1, q2, I2, ?_, t1, t2, ?_⟩
  · exact lw_upc hR (by rw [X1.1.2, X2.1.2]; exact hr.2.1) (RT_k hR.2.1 (frm_f X1.2 rfl) (frm_a X1.2 rfl) (frm_f X2.2 rfl) (frm_a X2.2 rfl)) (frm_a X2.2 rfl) (M := 1400 * i) (by rw [X2.1.2]; exact hr.2.2 _ (by omega) hR.2.2.2) (by omega)
  · intro h; cases h
theorem c2_day : lw_call2 false false 110 209 [.ref 0] := by
  intro i hi7 A1 A2 o1 h1 o2 h2 hR
  obtain ⟨F1, w1, B1, r1, t1, q1, I1, z1, e1, X1⟩ := x_of (I := CI) (t := false) (X := fun z B => (z = (fC_day A1).1 ∧ B = (fC_day A1).2) ∧ frm [6, 7, 10, 8, 20, 23, 25, 26, 27, 28, 29, 30, 31, 32, 33, 35, 43, 78, 3, 2, 45, 46, 9, 19] [(24, 9), (24, 10), (36, 9), (71, 9), (1, 0), (0, 11), (15, 8)] A1 B) okC_day (by decide) (vs := [.ref 0]) rfl o1 ⟨rfl, ⟨h1.1, h1.2.1, (LD_w h1.2.2.2), h1.2.2.1⟩, fun A9 i9 j9 f9 r _ g0 g1 => ⟨r, rfl, ⟨i9, j9, KO_fr h1.2.2.1 f9 rfl, LD_fr h1.2.2.2 f9 rfl⟩, ⟨⟨g0, g1⟩, f9⟩⟩⟩
  obtain ⟨F2, w2, B2, r2, t2, q2, I2, z2, e2, X2⟩ := x_of (I := MI) (t := false) (X := fun z B => (z = (fM_day A2).1 ∧ B = (fM_day A2).2) ∧ frm [34, 35, 9, 19, 18, 7, 8, 2, 38, 39, 40, 41, 42, 43, 44, 45, 46, 1, 3, 36, 37, 10, 17, 49] [(0, 2), (0, 3), (0, 1), (0, 0)] A2 B) okM_day (by decide) (vs := [.ref 0]) rfl o2 ⟨rfl, ⟨h2.1, h2.2.1, h2.2.2.1, h2.2.2.2⟩, fun A9 i9 j9 f9 r _ g0 g1 g2 => ⟨r, rfl, ⟨i9, j9, WF_fr h2.2.2.1 f9 rfl, g0⟩, ⟨⟨g1, g2⟩, f9⟩⟩⟩
  have hr := day_is hR.1 (lw_WY h1.1)
  refine ⟨F1, F2, w1, w2, B1, B2, r1, r2, q1, I1, q2, I2, ?_, t1, t2, ?_⟩
  · exact lw_upc hR (by rw [X1.1.2, X2.1.2]; exact hr.2.1) (RT_k hR.2.1 (frm_f X1.2 rfl) (frm_a X1.2 rfl) (frm_f X2.2 rfl) (frm_a X2.2 rfl)) (frm_a X2.2 rfl) (M := 1400 * i + 9600) (by rw [X2.1.2]; exact hr.2.2.2.2 _ (by omega) hR.2.2.2) (by omega)
  · intro h; cases h
theorem c2_torn (x0 : Int32) (x1 : Int32) : lw_call2 true false 111 208 [.ref 0, .int x0, .int x1] := by
  intro i hi7 A1 A2 o1 h1 o2 h2 hR
  obtain ⟨F1, w1, B1, r1, t1, q1, I1, z1, e1, X1⟩ := x_of (I := CI) (t := true) (X := fun z B => (z = (fC_torn x0.toInt x1.toInt A1).1 ∧ B = (fC_torn x0.toInt x1.toInt A1).2) ∧ frm [2, 14] [(1, 0)] A1 B) okC_torn (by decide) (vs := [.ref 0, .int x0, .int x1]) rfl o1 ⟨x0.toInt, x1.toInt, rfl, ⟨h1.1, h1.2.1⟩, fun A9 i9 j9 f9 r _ g0 g1 => ⟨r, rfl, ⟨i9, j9, KO_fr h1.2.2.1 f9 rfl, LD_fr h1.2.2.2 f9 rfl⟩, ⟨⟨g0, g1⟩, f9⟩⟩⟩
  obtain ⟨F2, w2, B2, r2, t2, q2, I2, z2, e2, X2⟩ := x_of (I := MI) (t := true) (X := fun z B => (z = (fM_torn x0.toInt x1.toInt A2).1 ∧ B = (fM_torn x0.toInt x1.toInt A2).2) ∧ frm [34, 35, 9, 19, 18, 7, 8, 2, 38, 39, 40, 41, 42, 43, 44, 45, 46, 1, 3, 47, 48] [(0, 2), (0, 3)] A2 B) okM_torn (by decide) (vs := [.ref 0, .int x0, .int x1]) rfl o2 ⟨x0.toInt, x1.toInt, rfl, ⟨h2.1, h2.2.1, h2.2.2.1, h2.2.2.2⟩, fun A9 i9 j9 f9 r _ g0 g1 g2 => ⟨r, rfl, ⟨i9, j9, WF_fr h2.2.2.1 f9 rfl, g0⟩, ⟨⟨g1, g2⟩, f9⟩⟩⟩
  have hr := torn_GR x0.toInt x1.toInt hR.1
  refine ⟨F1, F2, w1, w2, B1, B2, r1, r2, q1, I1, q2, I2, ?_, t1, t2, ?_⟩
  · exact lw_up hR (by rw [X1.1.2, X2.1.2]; exact hr.2.1) (RT_k hR.2.1 (frm_f X1.2 rfl) (frm_a X1.2 rfl) (frm_f X2.2 rfl) (frm_a X2.2 rfl)) (by rw [X2.1.2]; exact frm_a hr.2.2 rfl) (by rw [X2.1.2]; exact frm_a hr.2.2 rfl)
  · intro h; cases h
theorem c2_fallIs (x0 : Int32) (x1 : Int32) : lw_call2 false false 112 211 [.ref 0, .int x0, .int x1] := by
  intro i hi7 A1 A2 o1 h1 o2 h2 hR
  obtain ⟨F1, w1, B1, r1, t1, q1, I1, z1, e1, X1⟩ := x_of (I := CI) (t := false) (X := fun z B => z = fC_fallIs x0.toInt x1.toInt A1 ∧ B = A1) okC_fallIs (by decide) (vs := [.ref 0, .int x0, .int x1]) rfl o1 ⟨x0.toInt, x1.toInt, rfl, ⟨h1.1, h1.2.1⟩, fun r _ g0 => ⟨r, rfl, h1, ⟨g0, rfl⟩⟩⟩
  obtain ⟨F2, w2, B2, r2, t2, q2, I2, z2, e2, X2⟩ := x_of (I := MI) (t := false) (X := fun z B => z = fM_fallIs x0.toInt x1.toInt A2 ∧ B = A2) okM_fallIs (by decide) (vs := [.ref 0, .int x0, .int x1]) rfl o2 ⟨x0.toInt, x1.toInt, rfl, ⟨h2.1, h2.2.1⟩, fun r _ g0 => ⟨r, rfl, h2, ⟨g0, rfl⟩⟩⟩
  refine ⟨F1, F2, w1, w2, B1, B2, r1, r2, q1, I1, q2, I2, ?_, t1, t2, ?_⟩
  · rw [X1.2, X2.2]; exact lw_up hR hR.1 hR.2.1 rfl rfl
  · intro h; cases h
theorem c2_claimed (x0 : Int32) (x1 : Int32) : lw_call2 false false 113 213 [.ref 0, .int x0, .int x1] := by
  intro i hi7 A1 A2 o1 h1 o2 h2 hR
  obtain ⟨F1, w1, B1, r1, t1, q1, I1, z1, e1, X1⟩ := x_of (I := CI) (t := false) (X := fun z B => (z = (fC_claimed x0.toInt x1.toInt A1).1 ∧ B = (fC_claimed x0.toInt x1.toInt A1).2) ∧ frm [35, 43, 78] [(36, 9), (71, 9)] A1 B) okC_claimed (by decide) (vs := [.ref 0, .int x0, .int x1]) rfl o1 ⟨x0.toInt, x1.toInt, rfl, ⟨h1.1, h1.2.1, (LD_w h1.2.2.2), h1.2.2.1⟩, fun A9 i9 j9 f9 r _ _ g0 g1 => ⟨r, rfl, ⟨i9, j9, KO_fr h1.2.2.1 f9 rfl, LD_fr h1.2.2.2 f9 rfl⟩, ⟨⟨g0, g1⟩, f9⟩⟩⟩
  obtain ⟨F2, w2, B2, r2, t2, q2, I2, z2, e2, X2⟩ := x_of (I := MI) (t := false) (X := fun z B => (z = (fM_claimed x0.toInt x1.toInt A2).1 ∧ B = (fM_claimed x0.toInt x1.toInt A2).2) ∧ frm [34, 35] [] A2 B) okM_claimed (by decide) (vs := [.ref 0, .int x0, .int x1]) rfl o2 ⟨x0.toInt, x1.toInt, rfl, ⟨h2.1, h2.2.1, h2.2.2.1⟩, fun A9 i9 j9 f9 r _ _ g0 g1 => ⟨r, rfl, ⟨i9, j9, WF_fr h2.2.2.1 f9 rfl, LZ_fr h2.2.2.2 f9 rfl⟩, ⟨⟨g0, g1⟩, f9⟩⟩⟩
  refine ⟨F1, F2, w1, w2, B1, B2, r1, r2, q1, I1, q2, I2, ?_, t1, t2, ?_⟩
  · exact lw_up hR (GR_f hR.1 X1.2 X2.2 rfl rfl) (RT_k hR.2.1 (frm_f X1.2 rfl) (frm_a X1.2 rfl) (frm_f X2.2 rfl) (frm_a X2.2 rfl)) (frm_a X2.2 rfl) (frm_a X2.2 rfl)
  · intro h; cases h
theorem c2_right (x0 : Int32) (x1 : Int32) : lw_call2 false false 114 214 [.ref 0, .int x0, .int x1] := by
  intro i hi7 A1 A2 o1 h1 o2 h2 hR
  obtain ⟨F1, w1, B1, r1, t1, q1, I1, z1, e1, X1⟩ := x_of (I := CI) (t := false) (X := fun z B => (z = (fC_right x0.toInt x1.toInt A1).1 ∧ B = (fC_right x0.toInt x1.toInt A1).2) ∧ frm [23, 31, 35, 43, 78] [(36, 9), (71, 9)] A1 B) okC_right (by decide) (vs := [.ref 0, .int x0, .int x1]) rfl o1 ⟨x0.toInt, x1.toInt, rfl, ⟨h1.1, h1.2.1, (LD_w h1.2.2.2), h1.2.2.1⟩, fun A9 i9 j9 f9 r _ g0 g1 => ⟨r, rfl, ⟨i9, j9, KO_fr h1.2.2.1 f9 rfl, LD_fr h1.2.2.2 f9 rfl⟩, ⟨⟨g0, g1⟩, f9⟩⟩⟩
  obtain ⟨F2, w2, B2, r2, t2, q2, I2, z2, e2, X2⟩ := x_of (I := MI) (t := false) (X := fun z B => (z = (fM_right x0.toInt x1.toInt A2).1 ∧ B = (fM_right x0.toInt x1.toInt A2).2) ∧ frm [34, 35, 19, 42] [] A2 B) okM_right (by decide) (vs := [.ref 0, .int x0, .int x1]) rfl o2 ⟨x0.toInt, x1.toInt, rfl, ⟨h2.1, h2.2.1, h2.2.2.1, h2.2.2.2⟩, fun A9 i9 j9 f9 r _ g0 g1 g2 => ⟨r, rfl, ⟨i9, j9, WF_fr h2.2.2.1 f9 rfl, g0⟩, ⟨⟨g1, g2⟩, f9⟩⟩⟩
  refine ⟨F1, F2, w1, w2, B1, B2, r1, r2, q1, I1, q2, I2, ?_, t1, t2, ?_⟩
  · exact lw_up hR (GR_f hR.1 X1.2 X2.2 rfl rfl) (RT_k hR.2.1 (frm_f X1.2 rfl) (frm_a X1.2 rfl) (frm_f X2.2 rfl) (frm_a X2.2 rfl)) (frm_a X2.2 rfl) (frm_a X2.2 rfl)
  · intro h; cases h
theorem c2_food (x0 : Int32) : lw_call2 false false 115 215 [.ref 0, .int x0] := by
  intro i hi7 A1 A2 o1 h1 o2 h2 hR
  obtain ⟨F1, w1, B1, r1, t1, q1, I1, z1, e1, X1⟩ := x_of (I := CI) (t := false) (X := fun z B => z = fC_food x0.toInt A1 ∧ B = A1) okC_food (by decide) (vs := [.ref 0, .int x0]) rfl o1 ⟨x0.toInt, rfl, ⟨h1.1, h1.2.1⟩, fun r _ g0 => ⟨r, rfl, h1, ⟨g0, rfl⟩⟩⟩
  obtain ⟨F2, w2, B2, r2, t2, q2, I2, z2, e2, X2⟩ := x_of (I := MI) (t := false) (X := fun z B => z = fM_food x0.toInt A2 ∧ B = A2) okM_food (by decide) (vs := [.ref 0, .int x0]) rfl o2 ⟨x0.toInt, rfl, ⟨h2.1, h2.2.1⟩, fun r _ g0 => ⟨r, rfl, h2, ⟨g0, rfl⟩⟩⟩
  refine ⟨F1, F2, w1, w2, B1, B2, r1, r2, q1, I1, q2, I2, ?_, t1, t2, ?_⟩
  · rw [X1.2, X2.2]; exact lw_up hR hR.1 hR.2.1 rfl rfl
  · intro h; cases h
theorem c2_kitchenIs (x0 : Int32) (x1 : Int32) : lw_call2 false false 116 216 [.ref 0, .int x0, .int x1] := by
  intro i hi7 A1 A2 o1 h1 o2 h2 hR
  obtain ⟨F1, w1, B1, r1, t1, q1, I1, z1, e1, X1⟩ := x_of (I := CI) (t := false) (X := fun z B => z = fC_kitchenIs x0.toInt x1.toInt A1 ∧ B = A1) okC_kitchenIs (by decide) (vs := [.ref 0, .int x0, .int x1]) rfl o1 ⟨x0.toInt, x1.toInt, rfl, ⟨h1.1, h1.2.1⟩, fun r _ g0 => ⟨r, rfl, h1, ⟨g0, rfl⟩⟩⟩
  obtain ⟨F2, w2, B2, r2, t2, q2, I2, z2, e2, X2⟩ := x_of (I := MI) (t := false) (X := fun z B => z = fM_kitchenIs x0.toInt x1.toInt A2 ∧ B = A2) okM_kitchenIs (by decide) (vs := [.ref 0, .int x0, .int x1]) rfl o2 ⟨x0.toInt, x1.toInt, rfl, ⟨h2.1, h2.2.1⟩, fun r _ g0 => ⟨r, rfl, h2, ⟨g0, rfl⟩⟩⟩
  refine ⟨F1, F2, w1, w2, B1, B2, r1, r2, q1, I1, q2, I2, ?_, t1, t2, ?_⟩
  · rw [X1.2, X2.2]; exact lw_up hR hR.1 hR.2.1 rfl rfl
  · intro h; cases h
theorem c2_mayWork (x0 : Int32) (x1 : Int32) (x2 : Int32) : lw_call2 false false 117 219 [.ref 0, .int x0, .int x1, .int x2] := by
  intro i hi7 A1 A2 o1 h1 o2 h2 hR
  obtain ⟨F1, w1, B1, r1, t1, q1, I1, z1, e1, X1⟩ := x_of (I := CI) (t := false) (X := fun z B => z = fC_mayWork x0.toInt x1.toInt x2.toInt A1 ∧ B = A1) okC_mayWork (by decide) (vs := [.ref 0, .int x0, .int x1, .int x2]) rfl o1 ⟨x0.toInt, x1.toInt, x2.toInt, rfl, ⟨h1.1, h1.2.1⟩, fun r _ _ g0 => ⟨r, rfl, h1, ⟨g0, rfl⟩⟩⟩
  obtain ⟨F2, w2, B2, r2, t2, q2, I2, z2, e2, X2⟩ := x_of (I := MI) (t := false) (X := fun z B => z = fM_mayWork x0.toInt x1.toInt x2.toInt A2 ∧ B = A2) okM_mayWork (by decide) (vs := [.ref 0, .int x0, .int x1, .int x2]) rfl o2 ⟨x0.toInt, x1.toInt, x2.toInt, rfl, ⟨h2.1, h2.2.1⟩, fun r _ _ g0 => ⟨r, rfl, h2, ⟨g0, rfl⟩⟩⟩
  refine ⟨F1, F2, w1, w2, B1, B2, r1, r2, q1, I1, q2, I2, ?_, t1, t2, ?_⟩
  · rw [X1.2, X2.2]; exact lw_up hR hR.1 hR.2.1 rfl rfl
  · intro h; cases h
theorem c2_work (x0 : Int32) (x1 : Int32) (x2 : Int64) (x3 : Int32) : lw_call2 false false 118 223 [.ref 0, .int x0, .int x1, .long x2, .int x3] := by
  intro i hi7 A1 A2 o1 h1 o2 h2 hR
  obtain ⟨F1, w1, B1, r1, t1, q1, I1, z1, e1, X1⟩ := x_of (I := CI) (t := false) (X := fun z B => (z = (fC_work x0.toInt x1.toInt x2.toInt x3.toInt A1).1 ∧ B = (fC_work x0.toInt x1.toInt x2.toInt x3.toInt A1).2) ∧ frm [56, 57, 58, 59, 60, 61, 62] [(55, 7)] A1 B) okC_work (by decide) (vs := [.ref 0, .int x0, .int x1, .long x2, .int x3]) rfl o1 ⟨x0.toInt, x1.toInt, x2.toInt, x3.toInt, rfl, ⟨h1.1, h1.2.1⟩, fun A9 i9 j9 f9 r _ g0 g1 => ⟨r, rfl, ⟨i9, j9, KO_fr h1.2.2.1 f9 rfl, LD_fr h1.2.2.2 f9 rfl⟩, ⟨⟨g0, g1⟩, f9⟩⟩⟩
  obtain ⟨F2, w2, B2, r2, t2, q2, I2, z2, e2, X2⟩ := x_of (I := MI) (t := false) (X := fun z B => (z = (fM_work x0.toInt x1.toInt x2.toInt x3.toInt A2).1 ∧ B = (fM_work x0.toInt x1.toInt x2.toInt x3.toInt A2).2) ∧ frm [50, 53] [(0, 63)] A2 B) okM_work (by decide) (vs := [.ref 0, .int x0, .int x1, .long x2, .int x3]) rfl o2 ⟨x0.toInt, x1.toInt, x2.toInt, x3.toInt, rfl, ⟨h2.1, h2.2.1⟩, fun A9 i9 j9 f9 r _ g0 g1 => ⟨r, rfl, ⟨i9, j9, WF_fr h2.2.2.1 f9 rfl, LZ_fr h2.2.2.2 f9 rfl⟩, ⟨⟨g0, g1⟩, f9⟩⟩⟩
  refine ⟨F1, F2, w1, w2, B1, B2, r1, r2, q1, I1, q2, I2, ?_, t1, t2, ?_⟩
  · exact lw_up hR (GR_f hR.1 X1.2 X2.2 rfl rfl) (RT_k hR.2.1 (frm_f X1.2 rfl) (frm_a X1.2 rfl) (frm_f X2.2 rfl) (frm_a X2.2 rfl)) (frm_a X2.2 rfl) (frm_a X2.2 rfl)
  · intro h; cases h
theorem c2_pollen (x0 : Int32) (x1 : Int32) (x2 : Int32) (x3 : Int32) (x4 : Int32) : lw_call2 true false 119 229 [.ref 0, .int x0, .int x1, .int x2, .int x3, .int x4] := by
  intro i hi7 A1 A2 o1 h1 o2 h2 hR
  obtain ⟨F1, w1, B1, r1, t1, q1, I1, z1, e1, X1⟩ := x_of (I := CI) (t := true) (X := fun z B => (z = (fC_pollen x0.toInt x1.toInt x2.toInt x3.toInt x4.toInt A1).1 ∧ B = (fC_pollen x0.toInt x1.toInt x2.toInt x3.toInt x4.toInt A1).2) ∧ frm [69, 70] [(68, 2), (68, 3)] A1 B) okC_pollen (by decide) (vs := [.ref 0, .int x0, .int x1, .int x2, .int x3, .int x4]) rfl o1 ⟨x0.toInt, x1.toInt, x2.toInt, x3.toInt, x4.toInt, rfl, ⟨h1.1, h1.2.1⟩, fun A9 i9 j9 f9 r _ g0 g1 => ⟨r, rfl, ⟨i9, j9, KO_fr h1.2.2.1 f9 rfl, LD_fr h1.2.2.2 f9 rfl⟩, ⟨⟨g0, g1⟩, f9⟩⟩⟩
  obtain ⟨F2, w2, B2, r2, t2, q2, I2, z2, e2, X2⟩ := x_of (I := MI) (t := true) (X := fun z B => (z = (fM_pollen x0.toInt x1.toInt x2.toInt x3.toInt x4.toInt A2).1 ∧ B = (fM_pollen x0.toInt x1.toInt x2.toInt x3.toInt x4.toInt A2).2) ∧ frm [54, 55, 56, 57] [] A2 B) okM_pollen (by decide) (vs := [.ref 0, .int x0, .int x1, .int x2, .int x3, .int x4]) rfl o2 ⟨x0.toInt, x1.toInt, x2.toInt, x3.toInt, x4.toInt, rfl, ⟨h2.1, h2.2.1⟩, fun A9 i9 j9 f9 r _ g0 g1 => ⟨r, rfl, ⟨i9, j9, WF_fr h2.2.2.1 f9 rfl, LZ_fr h2.2.2.2 f9 rfl⟩, ⟨⟨g0, g1⟩, f9⟩⟩⟩
  refine ⟨F1, F2, w1, w2, B1, B2, r1, r2, q1, I1, q2, I2, ?_, t1, t2, ?_⟩
  · exact lw_up hR (GR_f hR.1 X1.2 X2.2 rfl rfl) (RT_k hR.2.1 (frm_f X1.2 rfl) (frm_a X1.2 rfl) (frm_f X2.2 rfl) (frm_a X2.2 rfl)) (frm_a X2.2 rfl) (frm_a X2.2 rfl)
  · intro h; cases h
theorem c2_pollinate (x0 : Int32) (x1 : Int32) : lw_call2 false false 120 230 [.ref 0, .int x0, .int x1] := by
  intro i hi7 A1 A2 o1 h1 o2 h2 hR
  obtain ⟨F1, w1, B1, r1, t1, q1, I1, z1, e1, X1⟩ := x_of (I := CI) (t := false) (X := fun z B => (z = (fC_pollinate x0.toInt x1.toInt A1).1 ∧ B = (fC_pollinate x0.toInt x1.toInt A1).2) ∧ frm [10] [] A1 B) okC_pollinate (by decide) (vs := [.ref 0, .int x0, .int x1]) rfl o1 ⟨x0.toInt, x1.toInt, rfl, ⟨h1.1, h1.2.1⟩, fun A9 i9 j9 f9 r _ g0 g1 => ⟨r, rfl, ⟨i9, j9, KO_fr h1.2.2.1 f9 rfl, LD_fr h1.2.2.2 f9 rfl⟩, ⟨⟨g0, g1⟩, f9⟩⟩⟩
  obtain ⟨F2, w2, B2, r2, t2, q2, I2, z2, e2, X2⟩ := x_of (I := MI) (t := false) (X := fun z B => (z = (fM_pollinate x0.toInt x1.toInt A2).1 ∧ B = (fM_pollinate x0.toInt x1.toInt A2).2) ∧ frm [2] [] A2 B) okM_pollinate (by decide) (vs := [.ref 0, .int x0, .int x1]) rfl o2 ⟨x0.toInt, x1.toInt, rfl, ⟨h2.1, h2.2.1⟩, fun A9 i9 j9 f9 r _ g0 g1 => ⟨r, rfl, ⟨i9, j9, WF_fr h2.2.2.1 f9 rfl, LZ_fr h2.2.2.2 f9 rfl⟩, ⟨⟨g0, g1⟩, f9⟩⟩⟩
  have hr := pollinate_GR x0.toInt x1.toInt hR.1
  refine ⟨F1, F2, w1, w2, B1, B2, r1, r2, q1, I1, q2, I2, ?_, t1, t2, ?_⟩
  · exact lw_up hR (by rw [X1.1.2, X2.1.2]; exact hr.2) (RT_k hR.2.1 (frm_f X1.2 rfl) (frm_a X1.2 rfl) (frm_f X2.2 rfl) (frm_a X2.2 rfl)) (frm_a X2.2 rfl) (frm_a X2.2 rfl)
  · intro h; cases h
theorem c2_planted (x0 : Int64) (x1 : Int32) : lw_call2 false false 121 233 [.ref 0, .long x0, .int x1] := by
  intro i hi7 A1 A2 o1 h1 o2 h2 hR
  obtain ⟨F1, w1, B1, r1, t1, q1, I1, z1, e1, X1⟩ := x_of (I := CI) (t := false) (X := fun z B => (z = (fC_planted x0.toInt x1.toInt A1).1 ∧ B = (fC_planted x0.toInt x1.toInt A1).2) ∧ frm [64, 65, 66, 67, 6, 7, 10] [(63, 6), (63, 7)] A1 B) okC_planted (by decide) (vs := [.ref 0, .long x0, .int x1]) rfl o1 ⟨x0.toInt, x1.toInt, rfl, ⟨h1.1, h1.2.1⟩, fun A9 i9 j9 f9 r _ g0 g1 => ⟨r, rfl, ⟨i9, j9, KO_fr h1.2.2.1 f9 rfl, LD_fr h1.2.2.2 f9 rfl⟩, ⟨⟨g0, g1⟩, f9⟩⟩⟩
  obtain ⟨F2, w2, B2, r2, t2, q2, I2, z2, e2, X2⟩ := x_of (I := MI) (t := false) (X := fun z B => (z = (fM_planted x0.toInt x1.toInt A2).1 ∧ B = (fM_planted x0.toInt x1.toInt A2).2) ∧ frm [50, 51, 52, 58, 7] [(0, 63)] A2 B) okM_planted (by decide) (vs := [.ref 0, .long x0, .int x1]) rfl o2 ⟨x0.toInt, x1.toInt, rfl, ⟨h2.1, h2.2.1⟩, fun A9 i9 j9 f9 r _ g0 g1 => ⟨r, rfl, ⟨i9, j9, WF_fr h2.2.2.1 f9 rfl, LZ_fr h2.2.2.2 f9 rfl⟩, ⟨⟨g0, g1⟩, f9⟩⟩⟩
  have hr := planted_GR x0.toInt x1.toInt (l_rng x0) hR.1 h1.1 hR.2.2.1 (CA_w hR.2.2.2 (by omega))
  refine ⟨F1, F2, w1, w2, B1, B2, r1, r2, q1, I1, q2, I2, ?_, t1, t2, ?_⟩
  · exact lw_up hR (by rw [X1.1.2, X2.1.2]; exact hr.2) (RT_k hR.2.1 (frm_f X1.2 rfl) (frm_a X1.2 rfl) (frm_f X2.2 rfl) (frm_a X2.2 rfl)) (frm_a X2.2 rfl) (frm_a X2.2 rfl)
  · intro h; cases h
theorem c2_drought (x0 : Int32) (x1 : Int32) (x2 : Int32) : lw_call2 false false 122 235 [.ref 0, .int x0, .int x1, .int x2] := by
  intro i hi7 A1 A2 o1 h1 o2 h2 hR
  obtain ⟨F1, w1, B1, r1, t1, q1, I1, z1, e1, X1⟩ := x_of (I := CI) (t := false) (X := fun z B => (z = (fC_drought x0.toInt x1.toInt x2.toInt A1).1 ∧ B = (fC_drought x0.toInt x1.toInt x2.toInt A1).2) ∧ frm [49, 47, 48, 51, 45, 46, 50, 35, 43, 78] [(44, 9), (44, 10), (36, 9), (71, 9)] A1 B) okC_drought (by decide) (vs := [.ref 0, .int x0, .int x1, .int x2]) rfl o1 ⟨x0.toInt, x1.toInt, x2.toInt, rfl, ⟨h1.1, h1.2.1, (LD_w h1.2.2.2), h1.2.2.1⟩, fun A9 i9 j9 f9 r _ g0 g1 => ⟨r, rfl, ⟨i9, j9, KO_fr h1.2.2.1 f9 rfl, LD_fr h1.2.2.2 f9 rfl⟩, ⟨⟨g0, g1⟩, f9⟩⟩⟩
  obtain ⟨F2, w2, B2, r2, t2, q2, I2, z2, e2, X2⟩ := x_of (I := MI) (t := false) (X := fun z B => (z = (fM_drought x0.toInt x1.toInt x2.toInt A2).1 ∧ B = (fM_drought x0.toInt x1.toInt x2.toInt A2).2) ∧ frm [60, 59, 36, 37, 10, 62, 61, 34, 35] [] A2 B) okM_drought (by decide) (vs := [.ref 0, .int x0, .int x1, .int x2]) rfl o2 ⟨x0.toInt, x1.toInt, x2.toInt, rfl, ⟨h2.1, h2.2.1, h2.2.2.1⟩, fun A9 i9 j9 f9 r _ g0 g1 => ⟨r, rfl, ⟨i9, j9, WF_fr h2.2.2.1 f9 rfl, LZ_fr h2.2.2.2 f9 rfl⟩, ⟨⟨g0, g1⟩, f9⟩⟩⟩
  have hr := drought_k x0.toInt x1.toInt x2.toInt A2
  refine ⟨F1, F2, w1, w2, B1, B2, r1, r2, q1, I1, q2, I2, ?_, t1, t2, ?_⟩
  · exact lw_up hR (GR_drought hR.1 X1.2 (by rw [X2.1.2]; exact hr.1) (by rw [X2.1.2]; exact hr.2) rfl) (RT_k hR.2.1 (frm_f X1.2 rfl) (frm_a X1.2 rfl) (frm_f X2.2 rfl) (frm_a X2.2 rfl)) (frm_a X2.2 rfl) (frm_a X2.2 rfl)
  · intro h; cases h
theorem c2_mended (x0 : Int64) (x1 : Int32) : lw_call2 false false 123 241 [.ref 0, .long x0, .int x1] := by
  intro i hi7 A1 A2 o1 h1 o2 h2 hR
  obtain ⟨F1, w1, B1, r1, t1, q1, I1, z1, e1, X1⟩ := x_of (I := CI) (t := false) (X := fun z B => (z = (fC_mended x0.toInt x1.toInt A1).1 ∧ B = (fC_mended x0.toInt x1.toInt A1).2) ∧ frm [56, 57, 58, 59, 60, 61, 62] [(55, 7)] A1 B) okC_mended (by decide) (vs := [.ref 0, .long x0, .int x1]) rfl o1 ⟨x0.toInt, x1.toInt, rfl, ⟨h1.1, h1.2.1⟩, fun A9 i9 j9 f9 r _ g0 g1 => ⟨r, rfl, ⟨i9, j9, KO_fr h1.2.2.1 f9 rfl, LD_fr h1.2.2.2 f9 rfl⟩, ⟨⟨g0, g1⟩, f9⟩⟩⟩
  obtain ⟨F2, w2, B2, r2, t2, q2, I2, z2, e2, X2⟩ := x_of (I := MI) (t := false) (X := fun z B => (z = (fM_mended x0.toInt x1.toInt A2).1 ∧ B = (fM_mended x0.toInt x1.toInt A2).2) ∧ frm [50, 63] [(0, 63)] A2 B) okM_mended (by decide) (vs := [.ref 0, .long x0, .int x1]) rfl o2 ⟨x0.toInt, x1.toInt, rfl, ⟨h2.1, h2.2.1⟩, fun A9 i9 j9 f9 r _ g0 g1 => ⟨r, rfl, ⟨i9, j9, WF_fr h2.2.2.1 f9 rfl, LZ_fr h2.2.2.2 f9 rfl⟩, ⟨⟨g0, g1⟩, f9⟩⟩⟩
  refine ⟨F1, F2, w1, w2, B1, B2, r1, r2, q1, I1, q2, I2, ?_, t1, t2, ?_⟩
  · exact lw_up hR (GR_f hR.1 X1.2 X2.2 rfl rfl) (RT_k hR.2.1 (frm_f X1.2 rfl) (frm_a X1.2 rfl) (frm_f X2.2 rfl) (frm_a X2.2 rfl)) (frm_a X2.2 rfl) (frm_a X2.2 rfl)
  · intro h; cases h
theorem c2_hail (x0 : Int32) : lw_call2 false false 124 243 [.ref 0, .int x0] := by
  intro i hi7 A1 A2 o1 h1 o2 h2 hR
  obtain ⟨F1, w1, B1, r1, t1, q1, I1, z1, e1, X1⟩ := x_of (I := CI) (t := false) (X := fun z B => z = fC_hail x0.toInt A1 ∧ B = A1) okC_hail (by decide) (vs := [.ref 0, .int x0]) rfl o1 ⟨x0.toInt, rfl, ⟨h1.1, h1.2.1⟩, fun r _ _ g0 => ⟨r, rfl, h1, ⟨g0, rfl⟩⟩⟩
  obtain ⟨F2, w2, B2, r2, t2, q2, I2, z2, e2, X2⟩ := x_of (I := MI) (t := false) (X := fun z B => z = fM_hail x0.toInt A2 ∧ B = A2) okM_hail (by decide) (vs := [.ref 0, .int x0]) rfl o2 ⟨x0.toInt, rfl, ⟨h2.1, h2.2.1⟩, fun r _ _ g0 => ⟨r, rfl, h2, ⟨g0, rfl⟩⟩⟩
  refine ⟨F1, F2, w1, w2, B1, B2, r1, r2, q1, I1, q2, I2, ?_, t1, t2, ?_⟩
  · rw [X1.2, X2.2]; exact lw_up hR hR.1 hR.2.1 rfl rfl
  · intro h; cases h
theorem c2_check (x0 : Int32) (x1 : Int32) : lw_call2 false false 125 245 [.ref 0, .int x0, .int x1] := by
  intro i hi7 A1 A2 o1 h1 o2 h2 hR
  obtain ⟨F1, w1, B1, r1, t1, q1, I1, z1, e1, X1⟩ := x_of (I := CI) (t := false) (X := fun z B => (z = (fC_check x0.toInt x1.toInt A1).1 ∧ B = (fC_check x0.toInt x1.toInt A1).2) ∧ frm [] [(52, 1)] A1 B) okC_check (by decide) (vs := [.ref 0, .int x0, .int x1]) rfl o1 ⟨x0.toInt, x1.toInt, rfl, ⟨h1.1, h1.2.1⟩, fun A9 i9 j9 f9 r _ g0 g1 => ⟨r, rfl, ⟨i9, j9, KO_fr h1.2.2.1 f9 rfl, LD_fr h1.2.2.2 f9 rfl⟩, ⟨⟨g0, g1⟩, f9⟩⟩⟩
  obtain ⟨F2, w2, B2, r2, t2, q2, I2, z2, e2, X2⟩ := x_of (I := MI) (t := false) (X := fun z B => (z = (fM_check x0.toInt x1.toInt A2).1 ∧ B = (fM_check x0.toInt x1.toInt A2).2) ∧ frm [] [(0, 26)] A2 B) okM_check (by decide) (vs := [.ref 0, .int x0, .int x1]) rfl o2 ⟨x0.toInt, x1.toInt, rfl, ⟨h2.1, h2.2.1⟩, fun A9 i9 j9 f9 r _ g0 g1 => ⟨r, rfl, ⟨i9, j9, WF_fr h2.2.2.1 f9 rfl, LZ_fr h2.2.2.2 f9 rfl⟩, ⟨⟨g0, g1⟩, f9⟩⟩⟩
  have hr := check_RT x0.toInt x1.toInt hR.2.1
  refine ⟨F1, F2, w1, w2, B1, B2, r1, r2, q1, I1, q2, I2, ?_, t1, t2, ?_⟩
  · exact lw_up hR (GR_f hR.1 X1.2 X2.2 rfl rfl) (by rw [X1.1.2, X2.1.2]; exact hr) (frm_a X2.2 rfl) (frm_a X2.2 rfl)
  · intro h; cases h
theorem c2_count (x0 : Int32) : lw_call2 false false 126 247 [.ref 0, .int x0] := by
  intro i hi7 A1 A2 o1 h1 o2 h2 hR
  obtain ⟨F1, w1, B1, r1, t1, q1, I1, z1, e1, X1⟩ := x_of (I := CI) (t := false) (X := fun z B => z = fC_count x0.toInt A1 ∧ B = A1) okC_count (by decide) (vs := [.ref 0, .int x0]) rfl o1 ⟨x0.toInt, rfl, ⟨h1.1, h1.2.1, (LD_w h1.2.2.2)⟩, fun r _ g0 => ⟨r, rfl, h1, ⟨g0, rfl⟩⟩⟩
  obtain ⟨F2, w2, B2, r2, t2, q2, I2, z2, e2, X2⟩ := x_of (I := MI) (t := false) (X := fun z B => z = fM_count x0.toInt A2 ∧ B = A2) okM_count (by decide) (vs := [.ref 0, .int x0]) rfl o2 ⟨x0.toInt, rfl, ⟨h2.1, h2.2.1⟩, fun r _ g0 => ⟨r, rfl, h2, ⟨g0, rfl⟩⟩⟩
  refine ⟨F1, F2, w1, w2, B1, B2, r1, r2, q1, I1, q2, I2, ?_, t1, t2, ?_⟩
  · rw [X1.2, X2.2]; exact lw_up hR hR.1 hR.2.1 rfl rfl
  · intro h; cases h
