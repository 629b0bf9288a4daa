/-! WHAT THE LAW SEES: alike -/
theorem fill35_L (v n : Int) : ∀ (m F : Nat) (i : Int) (B : qA), m < F → n - i ≤ m → fC_fill35_L F 5 [v, i, n] B = fun r j => if r = 35 ∧ i ≤ j ∧ j < n then v else B r j
  | _, 0, _, _, h, _ => absurd h (Nat.not_lt_zero _)
  | m, F + 1, i, B, hF, hm => by
    rw [fC_fill35_L5]
    unfold fC_fill35_c5
    simp only [qlet]
    by_cases h : i < n
    · rw [if_pos h]
      cases m with
      | zero => exfalso; omega
      | succ m =>
        rw [fill35_L v n m F (i + 1) _ (by omega) (by omega)]
        funext r j
        by_cases h1 : r = 35 ∧ i + 1 ≤ j ∧ j < n
        · rw [if_pos h1, if_pos ⟨h1.1, by omega, h1.2.2⟩]
        · rw [if_neg h1, qu_is]
          by_cases h2 : r = 35 ∧ j = i
          · rw [if_pos h2, if_pos ⟨h2.1, by omega, by omega⟩]
          · rw [if_neg h2, if_neg (fun q => by
              by_cases h3 : j = i
              · exact h2 ⟨q.1, h3⟩
              · exact h1 ⟨q.1, by omega, q.2.2⟩)]
    · rw [if_neg h]
      funext r j
      rw [if_neg (fun q => by omega)]
theorem fill35_is (A : qA) : fC_fill35 0 A = fun r j => if r = 35 ∧ 0 ≤ j ∧ j < 14 then 0 else A r j := fill35_L 0 14 14 100000 0 A (by decide) (by decide)
/-- the fourteen facts of a cell, in the class -/
theorem seeC_is {c : Int} (h0 : 0 ≤ c) (A : qA) : ∀ i, 0 ≤ i → i ≤ 13 → (fC_seeCell c A) 35 i = (if i = 2 then c / 6 else if i = 3 then c % 6 else if i = 4 then A 3 c else if i = 5 then A 2 c else if i = 6 then A 4 c else if i = 7 then A 9 c else if i = 10 then A 15 (fd 8) else if i = 11 then A 17 (c / 6) else 0) := by
  intro i i0 i1
  unfold fC_seeCell
  simp only [qlet]
  rw [fill35_is, qd_nn h0, qm_nn h0]
  have h : i = 0 ∨ i = 1 ∨ i = 2 ∨ i = 3 ∨ i = 4 ∨ i = 5 ∨ i = 6 ∨ i = 7 ∨ i = 8 ∨ i = 9 ∨ i = 10 ∨ i = 11 ∨ i = 12 ∨ i = 13 := by omega
  rcases h with rfl | rfl | rfl | rfl | rfl | rfl | rfl | rfl | rfl | rfl | rfl | rfl | rfl | rfl <;> simp [qu_is]
theorem feelC_is {c f w : Int} (h0 : 0 ≤ c) (A : qA) : ∀ i, 0 ≤ i → i ≤ 13 → (fM_feelsCell c f w A) 35 i = (if i = 2 then c / 6 else if i = 3 then c % 6 else if i = 4 then (if A 1 c = 0 then 0 else A 4 c) else if i = 5 then (if A 1 c = 0 then 0 else A 3 c) else if i = 6 then (if A 1 c = 0 then 0 else A 5 c) else if i = 7 then (if A 1 c = 0 then 0 else A 10 c) else if i = 10 then A 0 (fd 0) else if i = 11 then A 15 (c / 6) else if i = 12 then f else if i = 13 then w else A 35 i) := by
  intro i i0 i1
  unfold fM_feelsCell
  simp only [qlet]
  rw [qd_nn h0, qm_nn h0]
  have h : i = 0 ∨ i = 1 ∨ i = 2 ∨ i = 3 ∨ i = 4 ∨ i = 5 ∨ i = 6 ∨ i = 7 ∨ i = 8 ∨ i = 9 ∨ i = 10 ∨ i = 11 ∨ i = 12 ∨ i = 13 := by omega
  by_cases hz : A 1 c = 0
  · rcases h with rfl | rfl | rfl | rfl | rfl | rfl | rfl | rfl | rfl | rfl | rfl | rfl | rfl | rfl <;> simp [qu_is, hz]
  · rcases h with rfl | rfl | rfl | rfl | rfl | rfl | rfl | rfl | rfl | rfl | rfl | rfl | rfl | rfl <;> simp [qu_is, hz]
theorem ripeC_k {A B : qA} (c : Int) (e1 : B 1 (fd 0) = A 1 (fd 0)) (e6 : B 6 = A 6) (e7 : B 7 = A 7) (e12 : B 12 = A 12) : fC_isRipe c B = fC_isRipe c A := by
  unfold fC_isRipe
  simp only [qlet]
  rw [e6, e7, e12]
  have h := HG_k e1 c
  by_cases q : 0 ≤ c ∧ c ≤ 47 ∧ HG A c ∧ 0 ≤ A 6 c ∧ A 6 c ≤ 5
  · rw [if_pos q, if_pos ⟨q.1, q.2.1, h.mpr q.2.2.1, q.2.2.2⟩]
  · rw [if_neg q, if_neg (fun z => q ⟨z.1, z.2.1, h.mp z.2.2.1, z.2.2.2⟩)]
theorem ripeM_k {A B : qA} (c : Int) (e7 : B 7 = A 7) (e8 : B 8 = A 8) (e12 : B 12 = A 12) : fM_isRipe c B = fM_isRipe c A := by
  unfold fM_isRipe
  simp only [qlet]
  rw [e7, e8, e12]
theorem ripe_is {A1 A2 : qA} {c : Int} (h : RC1 A1 A2 c) (hb : RB A1 A2) (h0 : 0 ≤ c) (h1 : c < 48) (hh : A2 1 c ≠ 0) : fC_isRipe c A1 = fM_isRipe c A2 := by
  have hc := crop_is h h0 h1
  obtain ⟨⟨g6, g7, _⟩, _, hbd, _⟩ := h.2 hh
  unfold fC_isRipe fM_isRipe
  simp only [qlet]
  by_cases q : A2 7 c = -1
  · rw [if_pos q, if_neg (fun z => (hc.mp z).2 q)]
  · have hk := (hb.1 (A2 7 c) (by omega) (by omega)).1
    rw [if_neg q, if_pos (hc.mpr ⟨hh, q⟩), g6, g7, hk.2.1]
theorem n35 {r : Nat} (h : r ∉ [35]) : r ≠ 35 := fun q => h (by rw [q]; exact List.mem_cons_self)
theorem fr_seeCell (c : Int) (A : qA) : frm [35] [] A (fC_seeCell c A) := by
  intro r i hr _
  have h := n35 hr
  unfold fC_seeCell
  simp only [qlet]
  rw [fill35_is]
  simp [qu_is, h]
theorem fr_seeFallen (i : Int) (A : qA) : frm [35] [] A (fC_seeFallen i A) := by
  intro r j hr _
  have h := n35 hr
  unfold fC_seeFallen
  simp only [qlet]
  repeat' split
  all_goals simp [qu_is, h]
theorem fr_feelsCell (c f w : Int) (A : qA) : frm [35] [] A (fM_feelsCell c f w A) := by
  intro r j hr _
  have h := n35 hr
  unfold fM_feelsCell
  simp only [qlet]
  repeat' split
  all_goals simp [qu_is, h]
theorem fr_feelsCrop (k w r p : Int) (A : qA) : frm [35] [] A (fM_feelsCrop k w r p A) := by
  intro b j hr _
  have h := n35 hr
  unfold fM_feelsCrop
  simp only [qlet]
  repeat' split
  all_goals simp [qu_is, h]
theorem feelsCrop_is (k w r p : Int) (A : qA) : ∀ i, 0 ≤ i → i ≤ 13 → (fM_feelsCrop k w r p A) 35 i = (if i = 0 then k else if i = 1 then w else if i = 8 then (if r = 0 then 0 else 1) else if i = 9 then (if p = 0 then 0 else 1) else A 35 i) := by
  intro i i0 i1
  have h : i = 0 ∨ i = 1 ∨ i = 2 ∨ i = 3 ∨ i = 4 ∨ i = 5 ∨ i = 6 ∨ i = 7 ∨ i = 8 ∨ i = 9 ∨ i = 10 ∨ i = 11 ∨ i = 12 ∨ i = 13 := by omega
  unfold fM_feelsCrop
  simp only [qlet]
  by_cases r0 : r = 0
  · by_cases p0 : p = 0
    · rw [if_pos r0, if_pos p0]
      rcases h with rfl | rfl | rfl | rfl | rfl | rfl | rfl | rfl | rfl | rfl | rfl | rfl | rfl | rfl <;> simp [qu_is, r0, p0]
    · rw [if_pos r0, if_neg p0]
      rcases h with rfl | rfl | rfl | rfl | rfl | rfl | rfl | rfl | rfl | rfl | rfl | rfl | rfl | rfl <;> simp [qu_is, r0, p0]
  · by_cases p0 : p = 0
    · rw [if_neg r0, if_pos p0]
      rcases h with rfl | rfl | rfl | rfl | rfl | rfl | rfl | rfl | rfl | rfl | rfl | rfl | rfl | rfl <;> simp [qu_is, r0, p0]
    · rw [if_neg r0, if_neg p0]
      rcases h with rfl | rfl | rfl | rfl | rfl | rfl | rfl | rfl | rfl | rfl | rfl | rfl | rfl | rfl <;> simp [qu_is, r0, p0]
theorem seeFallen_is (r : Int) (A : qA) : ∀ i, 0 ≤ i → i ≤ 13 → (fC_seeFallen r A) 35 i = (if i = 0 then A 26 r else if i = 1 then A 27 r else if i = 8 then (if A 28 r = 0 then 0 else 1) else if i = 9 then (if A 29 r = 0 then 0 else 1) else A 35 i) := by
  intro i i0 i1
  have h : i = 0 ∨ i = 1 ∨ i = 2 ∨ i = 3 ∨ i = 4 ∨ i = 5 ∨ i = 6 ∨ i = 7 ∨ i = 8 ∨ i = 9 ∨ i = 10 ∨ i = 11 ∨ i = 12 ∨ i = 13 := by omega
  unfold fC_seeFallen
  simp only [qlet]
  by_cases r0 : A 28 r = 0
  · by_cases p0 : A 29 r = 0
    · rcases h with rfl | rfl | rfl | rfl | rfl | rfl | rfl | rfl | rfl | rfl | rfl | rfl | rfl | rfl <;> simp [qu_is, r0, p0]
    · rcases h with rfl | rfl | rfl | rfl | rfl | rfl | rfl | rfl | rfl | rfl | rfl | rfl | rfl | rfl <;> simp [qu_is, r0, p0]
  · by_cases p0 : A 29 r = 0
    · rcases h with rfl | rfl | rfl | rfl | rfl | rfl | rfl | rfl | rfl | rfl | rfl | rfl | rfl | rfl <;> simp [qu_is, r0, p0]
    · rcases h with rfl | rfl | rfl | rfl | rfl | rfl | rfl | rfl | rfl | rfl | rfl | rfl | rfl | rfl <;> simp [qu_is, r0, p0]
/-- a cell and its crop, seen -/
theorem see_is {A1 A2 : qA} {c : Int} (h : RC1 A1 A2 c) (hb : RB A1 A2) (h0 : 0 ≤ c) (h1 : c < 48) (hh : A2 1 c ≠ 0) : ∀ i, 0 ≤ i → i ≤ 13 → (fC_seeCellAndCrop c A1) 35 i = (fM_feels c A2) 35 i := by
  intro i i0 i1
  have hc := crop_is h h0 h1
  obtain ⟨⟨k2, k3, k4, k5⟩, ⟨k8, k9⟩⟩ := h.1.2 hh
  obtain ⟨⟨k6, k7, k10⟩, kn, _⟩ := h.2 hh
  have hr := ripe_is h hb h0 h1 hh
  have s1 := seeC_is h0 A1 i i0 i1
  have s2 := feelC_is (f := 0) (w := 0) h0 A2 i i0 i1
  simp only [hh, if_false] at s2
  have f1 := fr_seeCell c A1
  have f2 := fr_feelsCell c 0 0 A2
  have hx := hb.2.1 (c / 6) (by omega) (by omega)
  have hd := hb.2.2.1
  unfold fC_seeCellAndCrop fM_feels
  simp only [qlet]
  generalize hS1 : fC_seeCell c A1 = S1 at s1 f1 ⊢
  generalize hS2 : fM_feelsCell c 0 0 A2 = S2 at s2 f2 ⊢
  have e1 : S1 1 (fd 0) = A1 1 (fd 0) := by rw [frm_a f1 (r := 1) rfl]
  have e6 : S1 6 = A1 6 := frm_a f1 rfl
  have e7 : S1 7 = A1 7 := frm_a f1 rfl
  have e10 : S1 10 = A1 10 := frm_a f1 rfl
  have e12 : S1 12 = A1 12 := frm_a f1 rfl
  have d2 : S2 2 = A2 2 := frm_a f2 rfl
  have d7 : S2 7 = A2 7 := frm_a f2 rfl
  have d8 : S2 8 = A2 8 := frm_a f2 rfl
  have d12 : S2 12 = A2 12 := frm_a f2 rfl
  have hcs : (0 ≤ c ∧ c ≤ 47 ∧ HG S1 c ∧ 0 ≤ S1 6 c ∧ S1 6 c ≤ 5) ↔ (A2 1 c ≠ 0 ∧ A2 7 c ≠ -1) := by
    rw [HG_k e1 c, e6]; exact hc
  rw [ripeM_k c d7 d8 d12, d2, d7, d8]
  by_cases q : A2 7 c = -1
  · have hn := kn q
    rw [if_neg (fun z => (hcs.mp z).2 q), if_pos q, hn.1, hn.2]
    have hr0 : fM_isRipe c A2 = 0 := by
      unfold fM_isRipe
      simp only [qlet]
      rw [if_pos q]
    rw [hr0]
    unfold fM_feelsCrop
    simp only [qlet]
    rw [if_pos trivial, if_pos trivial, s1]
    have hi : i = 0 ∨ i = 1 ∨ i = 2 ∨ i = 3 ∨ i = 4 ∨ i = 5 ∨ i = 6 ∨ i = 7 ∨ i = 8 ∨ i = 9 ∨ i = 10 ∨ i = 11 ∨ i = 12 ∨ i = 13 := by omega
    rcases hi with rfl | rfl | rfl | rfl | rfl | rfl | rfl | rfl | rfl | rfl | rfl | rfl | rfl | rfl <;> simp [qu_is, s2, k2, k3, k4, k9, hx.1.2.1, hd]
  · rw [if_pos (hcs.mpr ⟨hh, q⟩), if_neg q]
    have e25 : fC_isRipe c (qu (qu S1 35 0 (S1 6 c)) 35 1 ((qu S1 35 0 (S1 6 c)) 7 c)) = fM_isRipe c A2 := by
      rw [← hr]
      exact ripeC_k c (by simp [qu_is, e1]) (by funext j; simp [qu_is, e6]) (by funext j; simp [qu_is, e7]) (by funext j; simp [qu_is, e12])
    rw [e25]
    have c7 : (qu S1 35 0 (S1 6 c)) 7 c = A2 8 c := by rw [show (qu S1 35 0 (S1 6 c)) 7 = S1 7 by funext j; simp [qu_is], e7, k7]
    rw [c7, e6, k6]
    unfold fM_feelsCrop
    simp only [qlet]
    have hi : i = 0 ∨ i = 1 ∨ i = 2 ∨ i = 3 ∨ i = 4 ∨ i = 5 ∨ i = 6 ∨ i = 7 ∨ i = 8 ∨ i = 9 ∨ i = 10 ∨ i = 11 ∨ i = 12 ∨ i = 13 := by omega
    have e10' : ∀ v w x y z, (qu (qu (qu S1 35 v w) 35 x y) 35 8 z) 10 c = A2 2 c := fun v w x y z => by rw [show (qu (qu (qu S1 35 v w) 35 x y) 35 8 z) 10 = S1 10 by funext j; simp [qu_is], e10, k10]
    rw [e10', e10']
    by_cases r0 : fM_isRipe c A2 = 0
    · by_cases p0 : A2 2 c = 0
      · rw [if_pos r0, if_pos p0, if_pos r0, if_pos p0]
        rcases hi with rfl | rfl | rfl | rfl | rfl | rfl | rfl | rfl | rfl | rfl | rfl | rfl | rfl | rfl <;> simp [qu_is, s1, s2, k2, k3, k4, k9, hx.1.2.1, hd]
      · rw [if_pos r0, if_neg p0, if_pos r0, if_neg p0]
        rcases hi with rfl | rfl | rfl | rfl | rfl | rfl | rfl | rfl | rfl | rfl | rfl | rfl | rfl | rfl <;> simp [qu_is, s1, s2, k2, k3, k4, k9, hx.1.2.1, hd]
    · by_cases p0 : A2 2 c = 0
      · rw [if_neg r0, if_pos p0, if_neg r0, if_pos p0]
        rcases hi with rfl | rfl | rfl | rfl | rfl | rfl | rfl | rfl | rfl | rfl | rfl | rfl | rfl | rfl <;> simp [qu_is, s1, s2, k2, k3, k4, k9, hx.1.2.1, hd]
      · rw [if_neg r0, if_neg p0, if_neg r0, if_neg p0]
        rcases hi with rfl | rfl | rfl | rfl | rfl | rfl | rfl | rfl | rfl | rfl | rfl | rfl | rfl | rfl <;> simp [qu_is, s1, s2, k2, k3, k4, k9, hx.1.2.1, hd]
