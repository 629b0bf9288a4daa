/-! WHAT THE LAW SEES: alike -/
theorem fill35_L (v n : Int) : ∀ (m F : Nat) (i : Int) (B : qA), m < F → n - i ≤ m → fC_fill35_L F 5 [v, i, n] B = fun r j => if r = 35 ∧ i ≤ j ∧ j < n then v else B r j
  | _, 0, _, _, h, _ => absurd h (Nat.not_lt_zero _)
  | m, F + 1, i, B, hF, hm => by
    rw [fC_fill35_L5]
    unfold fC_fill35_c5
    simp only [qlet]
    by_cases h : i < n
    · rw [if_pos h]
      cases m with
      | zero => exfalso; omega
      | succ m =>
        rw [fill35_L v n m F (i + 1) _ (by omega) (by omega)]
        funext r j
        by_cases h1 : r = 35 ∧ i + 1 ≤ j ∧ j < n
        · rw [if_pos h1, if_pos ⟨h1.1, by omega, h1.2.2⟩]
        · rw [if_neg h1, qu_is]
          by_cases h2 : r = 35 ∧ j = i
          · rw [if_pos h2, if_pos ⟨h2.1, by omega, by omega⟩]
          · rw [if_neg h2, if_neg (fun q => by
              by_cases h3 : j = i
              · exact h2 ⟨q.1, h3⟩
              · exact h1 ⟨q.1, by omega, q.2.2⟩)]
    · rw [if_neg h]
      funext r j
      rw [if_neg (fun q => by omega)]
theorem fill35_is (A : qA) : fC_fill35 0 A = fun r j => if r = 35 ∧ 0 ≤ j ∧ j < 14 then 0 else A r j := fill35_L 0 14 14 100000 0 A (by decide) (by decide)
/-- the fourteen facts of a cell, in the class -/
theorem seeC_is {c : Int} (h0 : 0 ≤ c) (A : qA) : ∀ i, 0 ≤ i → i ≤ 13 → (fC_seeCell c A) 35 i = (if i = 2 then c / 6 else if i = 3 then c % 6 else if i = 4 then A 3 c else if i = 5 then A 2 c else if i = 6 then A 4 c else if i = 7 then A 9 c else if i = 10 then A 15 (fd 8) else if i = 11 then A 17 (c / 6) else 0) := by
  intro i i0 i1
  unfold fC_seeCell
  simp only [qlet]
  rw [fill35_is, qd_nn h0, qm_nn h0]
  have h : i = 0 ∨ i = 1 ∨ i = 2 ∨ i = 3 ∨ i = 4 ∨ i = 5 ∨ i = 6 ∨ i = 7 ∨ i = 8 ∨ i = 9 ∨ i = 10 ∨ i = 11 ∨ i = 12 ∨ i = 13 := by omega
  rcases h with rfl | rfl | rfl | rfl | rfl | rfl | rfl | rfl | rfl | rfl | rfl | rfl | rfl | rfl <;> simp [qu_is]
theorem feelC_is {c f w : Int} (h0 : 0 ≤ c) (A : qA) : ∀ i, 0 ≤ i → i ≤ 13 → (fM_feelsCell c f w A) 35 i = (if i = 2 then c / 6 else if i = 3 then c % 6 else if i = 4 then (if A 1 c = 0 then 0 else A 4 c) else if i = 5 then (if A 1 c = 0 then 0 else A 3 c) else if i = 6 then (if A 1 c = 0 then 0 else A 5 c) else if i = 7 then (if A 1 c = 0 then 0 else A 10 c) else if i = 10 then A 0 (fd 0) else if i = 11 then A 15 (c / 6) else if i = 12 then f else if i = 13 then w else A 35 i) := by
  intro i i0 i1
  unfold fM_feelsCell
  simp only [qlet]
  rw [qd_nn h0, qm_nn h0]
  have h : i = 0 ∨ i = 1 ∨ i = 2 ∨ i = 3 ∨ i = 4 ∨ i = 5 ∨ i = 6 ∨ i = 7 ∨ i = 8 ∨ i = 9 ∨ i = 10 ∨ i = 11 ∨ i = 12 ∨ i = 13 := by omega
  by_cases hz : A 1 c = 0
  · rcases h with rfl | rfl | rfl | rfl | rfl | rfl | rfl | rfl | rfl | rfl | rfl | rfl | rfl | rfl <;> simp [qu_is, hz]
  · rcases h with rfl | rfl | rfl | rfl | rfl | rfl | rfl | rfl | rfl | rfl | rfl | rfl | rfl | rfl <;> simp [qu_is, hz]
theorem ripeC_k {A B : qA} (c : Int) (e1 : B 1 (fd 0) = A 1 (fd 0)) (e6 : B 6 = A 6) (e7 : B 7 = A 7) (e12 : B 12 = A 12) : fC_isRipe c B = fC_isRipe c A := by
  unfold fC_isRipe
  simp only [qlet]
  rw [e6, e7, e12]
  have h := HG_k e1 c
  by_cases q : 0 ≤ c ∧ c ≤ 47 ∧ HG A c ∧ 0 ≤ A 6 c ∧ A 6 c ≤ 5
  · rw [if_pos q, if_pos ⟨q.1, q.2.1, h.mpr q.2.2.1, q.2.2.2⟩]
  · rw [if_neg q, if_neg (fun z => q ⟨z.1, z.2.1, h.mp z.2.2.1, z.2.2.2⟩)]
theorem ripeM_k {A B : qA} (c : Int) (e7 : B 7 = A 7) (e8 : B 8 = A 8) (e12 : B 12 = A 12) : fM_isRipe c B = fM_isRipe c A := by
  unfold fM_isRipe
  simp only [qlet]
  rw [e7, e8, e12]
theorem ripe_is {A1 A2 : qA} {c : Int} (h : RC1 A1 A2 c) (hb : RB A1 A2) (h0 : 0 ≤ c) (h1 : c < 48) (hh : A2 1 c ≠ 0) : fC_isRipe c A1 = fM_isRipe c A2 := by
  have hc := crop_is h h0 h1
  obtain ⟨⟨g6, g7, _⟩, _, hbd, _⟩ := h.2 hh
  unfold fC_isRipe fM_isRipe
  simp only [qlet]
  by_cases q : A2 7 c = -1
  · rw [if_pos q, if_neg (fun z => (hc.mp z).2 q)]
  · have hk := (hb.1 (A2 7 c) (by omega) (by omega)).1
    rw [if_neg q, if_pos (hc.mpr ⟨hh, q⟩), g6, g7, hk.2.1]
theorem n35 {r : Nat} (h : r ∉ [35]) : r ≠ 35 := fun q => h (by rw [q]; exact List.mem_cons_self)
theorem fr_seeCell (c : Int) (A : qA) : frm [35] [] A (fC_seeCell c A) := by
  intro r i hr _
  have h := n35 hr
  unfold fC_seeCell
  simp only [qlet]
  rw [fill35_is]
  simp [qu_is, h]
theorem fr_seeFallen (i : Int) (A : qA) : frm [35] [] A (fC_seeFallen i A) := by
  intro r j hr _
  have h := n35 hr
  unfold fC_seeFallen
  simp only [qlet]
  repeat' split
  all_goals simp [qu_is, h]
theorem fr_feelsCell (c f w : Int) (A : qA) : frm [35] [] A (fM_feelsCell c f w A) := by
  intro r j hr _
  have h := n35 hr
  unfold fM_feelsCell
  simp only [qlet]
  repeat' split
  all_goals simp [qu_is, h]
theorem fr_feelsCrop (k w r p : Int) (A : qA) : frm [35] [] A (fM_feelsCrop k w r p A) := by
  intro b j hr _
  have h := n35 hr
  unfold fM_feelsCrop
  simp only [qlet]
  repeat' split
  all_goals simp [qu_is, h]
theorem feelsCrop_is (k w r p : Int) (A : qA) : ∀ i, 0 ≤ i → i ≤ 13 → (fM_feelsCrop k w r p A) 35 i = (if i = 0 then k else if i = 1 then w else if i = 8 then (if r = 0 then 0 else 1) else if i = 9 then (if p = 0 then 0 else 1) else A 35 i) := by
  intro i i0 i1
  have h : i = 0 ∨ i = 1 ∨ i = 2 ∨ i = 3 ∨ i = 4 ∨ i = 5 ∨ i = 6 ∨ i = 7 ∨ i = 8 ∨ i = 9 ∨ i = 10 ∨ i = 11 ∨ i = 12 ∨ i = 13 := by omega
  unfold fM_feelsCrop
  simp only [qlet]
  by_cases r0 : r = 0
  · by_cases p0 : p = 0
    · rw [if_pos r0, if_pos p0]
      rcases h with rfl | rfl | rfl | rfl | rfl | rfl | rfl | rfl | rfl | rfl | rfl | rfl | rfl | rfl <;> simp [qu_is, r0, p0]
    · rw [if_pos r0, if_neg p0]
      rcases h with rfl | rfl | rfl | rfl | rfl | rfl | rfl | rfl | rfl | rfl | rfl | rfl | rfl | rfl <;> simp [qu_is, r0, p0]
  · by_cases p0 : p = 0
    · rw [if_neg r0, if_pos p0]
      rcases h with rfl | rfl | rfl | rfl | rfl | rfl | rfl | rfl | rfl | rfl | rfl | rfl | rfl | rfl <;> simp [qu_is, r0, p0]
    · rw [if_neg r0, if_neg p0]
      rcases h with rfl | rfl | rfl | rfl | rfl | rfl | rfl | rfl | rfl | rfl | rfl | rfl | rfl | rfl <;> simp [qu_is, r0, p0]
theorem seeFallen_is (r : Int) (A : qA) : ∀ i, 0 ≤ i → i ≤ 13 → (fC_seeFallen r A) 35 i = (if i = 0 then A 26 r else if i = 1 then A 27 r else if i = 8 then (if A 28 r = 0 then 0 else 1) else if i = 9 then (if A 29 r = 0 then 0 else 1) else A 35 i) := by
  intro i i0 i1
  have h : i = 0 ∨ i = 1 ∨ i = 2 ∨ i = 3 ∨ i = 4 ∨ i = 5 ∨ i = 6 ∨ i = 7 ∨ i = 8 ∨ i = 9 ∨ i = 10 ∨ i = 11 ∨ i = 12 ∨ i = 13 := by omega
  unfold fC_seeFallen
  simp only [qlet]
  by_cases r0 : A 28 r = 0
  · by_cases p0 : A 29 r = 0
    · rcases h with rfl | rfl | rfl | rfl | rfl | rfl | rfl | rfl | rfl | rfl | rfl | rfl | rfl | rfl <;> simp [qu_is, r0, p0]
    · rcases h with rfl | rfl | rfl | rfl | rfl | rfl | rfl | rfl | rfl | rfl | rfl | rfl | rfl | rfl <;> simp [qu_is, r0, p0]
  · by_cases p0 : A 29 r = 0
    · rcases h with rfl | rfl | rfl | rfl | rfl | rfl | rfl | rfl | rfl | rfl | rfl | rfl | rfl | rfl <;> simp [qu_is, r0, p0]
    · rcases h with rfl | rfl | rfl | rfl | rfl | rfl | rfl | rfl | rfl | rfl | rfl | rfl | rfl | rfl <;> simp [qu_is, r0, p0]
/-- a cell and its crop, seen -/
theorem see_is {A1 A2 : qA} {c : Int} (h : RC1 A1 A2 c) (hb : RB A1 A2) (h0 : 0 ≤ c) (h1 : c < 48) (hh : A2 1 c ≠ 0) : ∀ i, 0 ≤ i → i ≤ 13 → (fC_seeCellAndCrop c A1) 35 i = (fM_feels c A2) 35 i := by
  intro i i0 i1
  have hc := crop_is h h0 h1
  obtain ⟨⟨k2, k3, k4, k5⟩, ⟨k8, k9⟩⟩ := h.1.2 hh
  obtain ⟨⟨k6, k7, k10⟩, kn, _⟩ := h.2 hh
  have hr := ripe_is h hb h0 h1 hh
  have s1 := seeC_is h0 A1 i i0 i1
  have s2 := feelC_is (f := 0) (w := 0) h0 A2 i i0 i1
  simp only [hh, if_false] at s2
  have f1 := fr_seeCell c A1
  have f2 := fr_feelsCell c 0 0 A2
  have hx := hb.2.1 (c / 6) (by omega) (by omega)
  have hd := hb.2.2.1
  unfold fC_seeCellAndCrop fM_feels
  simp only [qlet]
  generalize hS1 : fC_seeCell c A1 = S1 at s1 f1 ⊢
  generalize hS2 : fM_feelsCell c 0 0 A2 = S2 at s2 f2 ⊢
  have e1 : S1 1 (fd 0) = A1 1 (fd 0) := by rw [frm_a f1 (r := 1) rfl]
  have e6 : S1 6 = A1 6 := frm_a f1 rfl
  have e7 : S1 7 = A1 7 := frm_a f1 rfl
  have e10 : S1 10 = A1 10 := frm_a f1 rfl
  have e12 : S1 12 = A1 12 := frm_a f1 rfl
  have d2 : S2 2 = A2 2 := frm_a f2 rfl
  have d7 : S2 7 = A2 7 := frm_a f2 rfl
  have d8 : S2 8 = A2 8 := frm_a f2 rfl
  have d12 : S2 12 = A2 12 := frm_a f2 rfl
  have hcs : (0 ≤ c ∧ c ≤ 47 ∧ HG S1 c ∧ 0 ≤ S1 6 c ∧ S1 6 c ≤ 5) ↔ (A2 1 c ≠ 0 ∧ A2 7 c ≠ -1) := by
    rw [HG_k e1 c, e6]; exact hc
  rw [ripeM_k c d7 d8 d12, d2, d7, d8]
  by_cases q : A2 7 c = -1
  · have hn := kn q
    rw [if_neg (fun z => (hcs.mp z).2 q), if_pos q, hn.1, hn.2]
    have hr0 : fM_isRipe c A2 = 0 := by
      unfold fM_isRipe
      simp only [qlet]
      rw [if_pos q]
    rw [hr0]
    unfold fM_feelsCrop
    simp only [qlet]
    rw [if_pos trivial, if_pos trivial, s1]
    have hi : i = 0 ∨ i = 1 ∨ i = 2 ∨ i = 3 ∨ i = 4 ∨ i = 5 ∨ i = 6 ∨ i = 7 ∨ i = 8 ∨ i = 9 ∨ i = 10 ∨ i = 11 ∨ i = 12 ∨ i = 13 := by omega
    rcases hi with rfl | rfl | rfl | rfl | rfl | rfl | rfl | rfl | rfl | rfl | rfl | rfl | rfl | rfl <;> simp [qu_is, s2, k2, k3, k4, k9, hx.1.2.1, hd]
  · rw [if_pos (hcs.mpr ⟨hh, q⟩), if_neg q]
    have e25 : fC_isRipe c (qu (qu S1 35 0 (S1 6 c)) 35 1 ((qu S1 35 0 (S1 6 c)) 7 c)) = fM_isRipe c A2 := by
      rw [← hr]
      exact ripeC_k c (by simp [qu_is, e1]) (by funext j; simp [qu_is, e6]) (by funext j; simp [qu_is, e7]) (by funext j; simp [qu_is, e12])
    rw [e25]
    have c7 : (qu S1 35 0 (S1 6 c)) 7 c = A2 8 c := by rw [show (qu S1 35 0 (S1 6 c)) 7 = S1 7 by funext j; simp [qu_is], e7, k7]
    rw [c7, e6, k6]
    unfold fM_feelsCrop
    simp only [qlet]
    have hi : i = 0 ∨ i = 1 ∨ i = 2 ∨ i = 3 ∨ i = 4 ∨ i = 5 ∨ i = 6 ∨ i = 7 ∨ i = 8 ∨ i = 9 ∨ i = 10 ∨ i = 11 ∨ i = 12 ∨ i = 13 := by omega
    have e10' : ∀ v w x y z, (qu (qu (qu S1 35 v w) 35 x y) 35 8 z) 10 c = A2 2 c := fun v w x y z => by rw [show (qu (qu (qu S1 35 v w) 35 x y) 35 8 z) 10 = S1 10 by funext j; simp [qu_is], e10, k10]
    rw [e10', e10']
    by_cases r0 : fM_isRipe c A2 = 0
    · by_cases p0 : A2 2 c = 0
      · rw [if_pos r0, if_pos p0, if_pos r0, if_pos p0]
        rcases hi with rfl | rfl | rfl | rfl | rfl | rfl | rfl | rfl | rfl | rfl | rfl | rfl | rfl | rfl <;> simp [qu_is, s1, s2, k2, k3, k4, k9, hx.1.2.1, hd]
      · rw [if_pos r0, if_neg p0, if_pos r0, if_neg p0]
        rcases hi with rfl | rfl | rfl | rfl | rfl | rfl | rfl | rfl | rfl | rfl | rfl | rfl | rfl | rfl <;> simp [qu_is, s1, s2, k2, k3, k4, k9, hx.1.2.1, hd]
    · by_cases p0 : A2 2 c = 0
      · rw [if_neg r0, if_pos p0, if_neg r0, if_pos p0]
        rcases hi with rfl | rfl | rfl | rfl | rfl | rfl | rfl | rfl | rfl | rfl | rfl | rfl | rfl | rfl <;> simp [qu_is, s1, s2, k2, k3, k4, k9, hx.1.2.1, hd]
      · rw [if_neg r0, if_neg p0, if_neg r0, if_neg p0]
        rcases hi with rfl | rfl | rfl | rfl | rfl | rfl | rfl | rfl | rfl | rfl | rfl | rfl | rfl | rfl <;> simp [qu_is, s1, s2, k2, k3, k4, k9, hx.1.2.1, hd]
/-! WHAT THE LAW ANSWERS of a cell: alike -/
theorem frm_q {W : List Nat} {V : List (Nat × Nat)} {A A1 : qA} {r : Nat} {j v : Int} (h : frm W V A A1) (hs : W.contains r = true) : frm W V A (qu A1 r j v) := frm_s h rfl hs
theorem frm_qf {W : List Nat} {V : List (Nat × Nat)} {A A1 : qA} {r j : Nat} {v : Int} (h : frm W V A A1) (hs : V.contains (r, j) = true) : frm W V A (qu A1 r (fd j) v) := frm_sf h rfl hs
def EV (A1 A2 B1 B2 : qA) : Prop := frm [35, 43, 78] [(36, 9), (71, 9)] A1 B1 ∧ frm [34, 35] [] A2 B2
theorem EV_0 (A1 A2 : qA) : EV A1 A2 A1 A2 := ⟨frm_0 _ _ _, frm_0 _ _ _⟩
theorem EV_tr {A1 A2 B1 B2 C1 C2 : qA} (h : EV A1 A2 B1 B2) (g : EV B1 B2 C1 C2) : EV A1 A2 C1 C2 := ⟨frm_c h.1 g.1 rfl, frm_c h.2 g.2 rfl⟩
theorem fr_feels (c : Int) (A : qA) : frm [35] [] A (fM_feels c A) := by
  unfold fM_feels
  simp only [qlet]
  split
  · exact frm_c (fr_feelsCell _ _ _ A) (fr_feelsCrop _ _ _ _ _) rfl
  · exact frm_c (fr_feelsCell _ _ _ A) (fr_feelsCrop _ _ _ _ _) rfl
theorem fr_seeCC (c : Int) (A : qA) : frm [35] [] A (fC_seeCellAndCrop c A) := by
  unfold fC_seeCellAndCrop
  simp only [qlet]
  repeat' split
  all_goals (repeat (first | exact fr_seeCell c A | refine frm_q ?_ rfl))
theorem told36 {A1 A2 : qA} {w m : Int} (hL : RL36 A1 A2) (hf : ∀ i, 0 ≤ i → i ≤ 13 → A1 35 i = A2 35 i) (hm : 0 ≤ m) : (fC_answer36 w m A1).1 = (fM_told w m A2).1 ∧ (0 ≤ (fC_answer36 w m A1).1 ∧ (fC_answer36 w m A1).1 ≤ m) ∧ EV A1 A2 (fC_answer36 w m A1).2 (fM_told w m A2).2 := by
  obtain ⟨n, lk, T, hn, hlk, hg, hl, h14, ⟨c1, c2⟩, m1, m2⟩ := hL
  obtain ⟨a, b, c⟩ := ans36 hlk hm T 0 0 100000 100000 A1 A2 (by omega) (by omega) (Int.le_refl _) hl (by omega) (by omega) ⟨c2, m2⟩ hg hf
  exact ⟨a, b, frm_c (frm_0 _ _ _) c.1 rfl, frm_c (frm_0 _ _ _) c.2 rfl⟩
theorem told71 {A1 A2 : qA} {w m : Int} (hL : RL71 A1 A2) (hf : ∀ i, 0 ≤ i → i ≤ 13 → A1 35 i = A2 35 i) (hm : 0 ≤ m) : (fC_answer71 w m A1).1 = (fM_told w m A2).1 ∧ (0 ≤ (fC_answer71 w m A1).1 ∧ (fC_answer71 w m A1).1 ≤ m) ∧ EV A1 A2 (fC_answer71 w m A1).2 (fM_told w m A2).2 := by
  obtain ⟨n, lk, T, hn, hlk, hg, hl, h14, ⟨c1, c2⟩, m1, m2⟩ := hL
  obtain ⟨a, b, c⟩ := ans71 hlk hm T 0 0 100000 100000 A1 A2 (by omega) (by omega) (Int.le_refl _) hl (by omega) (by omega) ⟨c2, m2⟩ hg hf
  exact ⟨a, b, frm_c (frm_0 _ _ _) c.1 rfl, frm_c (frm_0 _ _ _) c.2 rfl⟩
/-- growth, odds, ageing of a cell that hangs -/
theorem see7 {A1 A2 : qA} {c : Int} (h : RC1 A1 A2 c) (hb : RB A1 A2) (h0 : 0 ≤ c) (h1 : c < 48) (hh : A2 1 c ≠ 0) : qu (fC_seeCellAndCrop c A1) 35 7 (A1 9 c) = fC_seeCellAndCrop c A1 := by
  have hs := see_is h hb h0 h1 hh 7 (by decide) (by decide)
  have k9 : A1 9 c = A2 10 c := (h.1.2 hh).2.2
  have s2 := feelC_is (f := 0) (w := 0) h0 A2 7 (by decide) (by decide)
  simp only [hh, if_false] at s2
  have hs7 : (fC_seeCellAndCrop c A1) 35 7 = A1 9 c := by
    rw [hs, k9]
    unfold fM_feels
    simp only [qlet]
    split
    · rw [feelsCrop_is _ _ _ _ _ 7 (by decide) (by decide), if_neg (by decide), if_neg (by decide), if_neg (by decide), if_neg (by decide), s2]
      rfl
    · rw [feelsCrop_is _ _ _ _ _ 7 (by decide) (by decide), if_neg (by decide), if_neg (by decide), if_neg (by decide), if_neg (by decide), s2]
      rfl
  funext r i
  rw [qu_is]
  split
  · next q => obtain ⟨rfl, rfl⟩ := q; exact hs7.symm
  · rfl
theorem growth_is {A1 A2 : qA} {c : Int} (h : RC1 A1 A2 c) (hb : RB A1 A2) (hL : RL A1 A2) (h0 : 0 ≤ c) (h1 : c < 48) (hh : A2 1 c ≠ 0) : (fC_growth c (A1 9 c) A1).1 = (fM_asked c 103 50 A2).1 ∧ (0 ≤ (fM_asked c 103 50 A2).1 ∧ (fM_asked c 103 50 A2).1 ≤ 50) ∧ EV A1 A2 (fC_growth c (A1 9 c) A1).2 (fM_asked c 103 50 A2).2 := by
  have hs := see_is h hb h0 h1 hh
  have f1 := fr_seeCC c A1
  have f2 := fr_feels c A2
  unfold fC_growth fM_asked
  rcases hL with ⟨q, hL⟩ | ⟨q, hL⟩
  · rw [if_pos q]
    unfold fC_growth36
    simp only [qlet, qlp]
    rw [see7 h hb h0 h1 hh]
    obtain ⟨a, b, e⟩ := told36 (w := 103) (m := 50) (RL36_f hL f1 f2 rfl rfl) hs (by decide)
    exact ⟨a, ⟨by rw [← a]; exact b.1, by rw [← a]; exact b.2⟩, frm_c (frm_c (frm_0 _ _ _) f1 rfl) e.1 rfl, frm_c (frm_c (frm_0 _ _ _) f2 rfl) e.2 rfl⟩
  · rw [if_neg (show ¬ A1 34 (fd 4) = 36 by omega)]
    unfold fC_growth71
    simp only [qlet, qlp]
    rw [see7 h hb h0 h1 hh]
    obtain ⟨a, b, e⟩ := told71 (w := 103) (m := 50) (RL71_f hL f1 f2 rfl rfl) hs (by decide)
    exact ⟨a, ⟨by rw [← a]; exact b.1, by rw [← a]; exact b.2⟩, frm_c (frm_c (frm_0 _ _ _) f1 rfl) e.1 rfl, frm_c (frm_c (frm_0 _ _ _) f2 rfl) e.2 rfl⟩
theorem odds_is {A1 A2 : qA} {c : Int} (h : RC1 A1 A2 c) (hb : RB A1 A2) (hL : RL A1 A2) (h0 : 0 ≤ c) (h1 : c < 48) (hh : A2 1 c ≠ 0) : (fC_odds c A1).1 = (fM_asked c 102 1000 A2).1 ∧ (0 ≤ (fM_asked c 102 1000 A2).1 ∧ (fM_asked c 102 1000 A2).1 ≤ 1000) ∧ EV A1 A2 (fC_odds c A1).2 (fM_asked c 102 1000 A2).2 := by
  have hs := see_is h hb h0 h1 hh
  have f1 := fr_seeCC c A1
  have f2 := fr_feels c A2
  unfold fC_odds fM_asked
  rcases hL with ⟨q, hL⟩ | ⟨q, hL⟩
  · rw [if_pos q]
    unfold fC_odds36
    simp only [qlet, qlp]
    obtain ⟨a, b, e⟩ := told36 (w := 102) (m := 1000) (RL36_f hL f1 f2 rfl rfl) hs (by decide)
    exact ⟨a, ⟨by rw [← a]; exact b.1, by rw [← a]; exact b.2⟩, frm_c (frm_c (frm_0 _ _ _) f1 rfl) e.1 rfl, frm_c (frm_c (frm_0 _ _ _) f2 rfl) e.2 rfl⟩
  · rw [if_neg (show ¬ A1 34 (fd 4) = 36 by omega)]
    unfold fC_odds71
    simp only [qlet, qlp]
    obtain ⟨a, b, e⟩ := told71 (w := 102) (m := 1000) (RL71_f hL f1 f2 rfl rfl) hs (by decide)
    exact ⟨a, ⟨by rw [← a]; exact b.1, by rw [← a]; exact b.2⟩, frm_c (frm_c (frm_0 _ _ _) f1 rfl) e.1 rfl, frm_c (frm_c (frm_0 _ _ _) f2 rfl) e.2 rfl⟩
theorem ageing_is {A1 A2 : qA} {c : Int} (h : RC1 A1 A2 c) (hb : RB A1 A2) (hL : RL A1 A2) (h0 : 0 ≤ c) (h1 : c < 48) (hh : A2 1 c ≠ 0) : (fC_ageing c A1).1 = (fM_asked c 97 999 A2).1 ∧ (0 ≤ (fM_asked c 97 999 A2).1 ∧ (fM_asked c 97 999 A2).1 ≤ 999) ∧ EV A1 A2 (fC_ageing c A1).2 (fM_asked c 97 999 A2).2 := by
  have hs := see_is h hb h0 h1 hh
  have f1 := fr_seeCC c A1
  have f2 := fr_feels c A2
  unfold fC_ageing fM_asked
  rcases hL with ⟨q, hL⟩ | ⟨q, hL⟩
  · rw [if_pos q]
    unfold fC_ageing36
    simp only [qlet, qlp]
    obtain ⟨a, b, e⟩ := told36 (w := 97) (m := 999) (RL36_f hL f1 f2 rfl rfl) hs (by decide)
    exact ⟨a, ⟨by rw [← a]; exact b.1, by rw [← a]; exact b.2⟩, frm_c (frm_c (frm_0 _ _ _) f1 rfl) e.1 rfl, frm_c (frm_c (frm_0 _ _ _) f2 rfl) e.2 rfl⟩
  · rw [if_neg (show ¬ A1 34 (fd 4) = 36 by omega)]
    unfold fC_ageing71
    simp only [qlet, qlp]
    obtain ⟨a, b, e⟩ := told71 (w := 97) (m := 999) (RL71_f hL f1 f2 rfl rfl) hs (by decide)
    exact ⟨a, ⟨by rw [← a]; exact b.1, by rw [← a]; exact b.2⟩, frm_c (frm_c (frm_0 _ _ _) f1 rfl) e.1 rfl, frm_c (frm_c (frm_0 _ _ _) f2 rfl) e.2 rfl⟩
/-! A CROP FALLS: alike -/
/-- a row of the falls holds what falls from the reference's cell c -/
def rowOf (A1 A2 : qA) (row c : Int) : Prop := A1 25 row = c ∧ A1 26 row = A2 7 c ∧ A1 27 row = A2 8 c ∧ A1 28 row = fM_isRipe c A2 ∧ A1 29 row = A2 2 c
/-- what is seen of a cell k, of what falls from c -/
theorem seen_is {A1 A2 : qA} {row c k v : Int} (hr : rowOf A1 A2 row c) (h : RN A1 A2 k) (hb : RB A1 A2) (k0 : 0 ≤ k) (k1 : k < 48) (hh : A2 1 k ≠ 0) : ∀ i, 0 ≤ i → i ≤ 13 → (qu (fC_seeFallen row (fC_seeCell k A1)) 35 12 v) 35 i = (fM_feelsCrop (A2 7 c) (A2 8 c) (fM_isRipe c A2) (A2 2 c) (fM_feelsCell k v 0 A2)) 35 i := by
  intro i i0 i1
  obtain ⟨r1, r2, r3, r4, r5⟩ := hr
  obtain ⟨⟨g2, g3, g4, g5⟩, ⟨g8, g9⟩⟩ := h.2 hh
  have f1 := fr_seeCell k A1
  have s1 := seeC_is k0 A1 i i0 i1
  have s2 := feelC_is (f := v) (w := 0) k0 A2 i i0 i1
  simp only [hh, if_false] at s2
  have s3 := seeFallen_is row (fC_seeCell k A1) i i0 i1
  have s4 := feelsCrop_is (A2 7 c) (A2 8 c) (fM_isRipe c A2) (A2 2 c) (fM_feelsCell k v 0 A2) i i0 i1
  rw [frm_a f1 (r := 26) rfl, frm_a f1 (r := 27) rfl, frm_a f1 (r := 28) rfl, frm_a f1 (r := 29) rfl, r2, r3, r4, r5, s1] at s3
  rw [s2] at s4
  have hx := hb.2.1 (k / 6) (by omega) (by omega)
  have hd := hb.2.2.1
  rw [s4, qu_is]
  by_cases h12 : i = 12
  · rw [if_pos ⟨rfl, h12⟩, h12]
    simp
  · rw [if_neg (fun q => h12 q.2), s3]
    have hi : i = 0 ∨ i = 1 ∨ i = 2 ∨ i = 3 ∨ i = 4 ∨ i = 5 ∨ i = 6 ∨ i = 7 ∨ i = 8 ∨ i = 9 ∨ i = 10 ∨ i = 11 ∨ i = 13 := by omega
    rcases hi with rfl | rfl | rfl | rfl | rfl | rfl | rfl | rfl | rfl | rfl | rfl | rfl | rfl <;> simp [g2, g3, g4, g9, hx.1.2.1, hd]
/-- what is seen of a cell and of what falls from it into the kitchen -/
theorem seenK_is {A1 A2 : qA} {row c : Int} (hr : rowOf A1 A2 row c) (h : RN A1 A2 c) (hb : RB A1 A2) (c0 : 0 ≤ c) (c1 : c < 48) (hh : A2 1 c ≠ 0) (hk : A2 7 c ≠ -1) (h30 : A1 30 row = 6) : ∀ i, 0 ≤ i → i ≤ 13 → (fC_seeFall row A1) 35 i = (qu (fM_feels c A2) 35 12 (6 - c % 6)) 35 i := by
  intro i i0 i1
  have s := seen_is (v := 6 - c % 6) hr h hb c0 c1 hh i i0 i1
  have e1 : fC_seeFall row A1 = qu (fC_seeFallen row (fC_seeCell c A1)) 35 12 (6 - c % 6) := by
    unfold fC_seeFall
    simp only [qlet]
    have f1 := fr_seeCell c A1
    rw [hr.1]
    have f2 := fr_seeFallen row (fC_seeCell c A1)
    rw [frm_a f2 (r := 30) rfl, frm_a f1 (r := 30) rfl, h30, qm_nn c0]
  rw [e1, s, qu_is]
  have f3 := fr_feelsCell c 0 0 A2
  have e2 : fM_feels c A2 = fM_feelsCrop (A2 7 c) (A2 8 c) (fM_isRipe c A2) (A2 2 c) (fM_feelsCell c 0 0 A2) := by
    unfold fM_feels
    simp only [qlet]
    rw [frm_a f3 (r := 7) rfl, frm_a f3 (r := 8) rfl, frm_a f3 (r := 2) rfl, if_neg hk, ripeM_k c (frm_a f3 rfl) (frm_a f3 rfl) (frm_a f3 rfl)]
  have s3 := feelsCrop_is (A2 7 c) (A2 8 c) (fM_isRipe c A2) (A2 2 c) (fM_feelsCell c (6 - c % 6) 0 A2) i i0 i1
  have s4 := feelsCrop_is (A2 7 c) (A2 8 c) (fM_isRipe c A2) (A2 2 c) (fM_feelsCell c 0 0 A2) i i0 i1
  have s5 := feelC_is (f := 6 - c % 6) (w := 0) c0 A2 i i0 i1
  have s6 := feelC_is (f := 0) (w := 0) c0 A2 i i0 i1
  rw [s5] at s3
  rw [s6] at s4
  by_cases h12 : i = 12
  · rw [if_pos ⟨rfl, h12⟩, s3, h12]
    simp
  · rw [if_neg (fun q => h12 q.2), e2, s3, s4]
    simp only [h12, if_false]
def cIf (x : Int) : Int := if x = -1 then 6 else x % 6
/-- who catches it -/
theorem catch36_L {A1 A2 : qA} {row c : Int} (hr : rowOf A1 A2 row c) (hRC : ∀ k, c < k → k < c - c % 6 + 6 → RN A1 A2 k) (hb : RB A1 A2) (hL : RL36 A1 A2) (c0 : 0 ≤ c) (c1 : c < 48) : ∀ (m F1 F2 : Nat) (k : Int) (B1 B2 : qA), m < F1 → m < F2 → c - c % 6 + 6 - k ≤ m → c < k → frm [35, 43, 78] [(36, 9), (71, 9)] A1 B1 → frm [34, 35] [] A2 B2 → (fC_catching36_L F1 13 [row, c, c - c % 6 + 6, k] B1).1 = cIf (fM_catcher_L F2 4 [c, k] B2).1 ∧ ((fM_catcher_L F2 4 [c, k] B2).1 = -1 ∨ (c < (fM_catcher_L F2 4 [c, k] B2).1 ∧ (fM_catcher_L F2 4 [c, k] B2).1 < c - c % 6 + 6 ∧ A2 1 (fM_catcher_L F2 4 [c, k] B2).1 ≠ 0)) ∧ frm [35, 43, 78] [(36, 9), (71, 9)] A1 (fC_catching36_L F1 13 [row, c, c - c % 6 + 6, k] B1).2 ∧ frm [34, 35] [] A2 (fM_catcher_L F2 4 [c, k] B2).2
  | _, 0, _, _, _, _, h, _, _, _, _, _ => absurd h (Nat.not_lt_zero _)
  | _, _, 0, _, _, _, _, h, _, _, _, _ => absurd h (Nat.not_lt_zero _)
  | m, F1 + 1, F2 + 1, k, B1, B2, hF1, hF2, hm, hk, f1, f2 => by
    rw [fC_catching36_L13, fM_catcher_L4]
    unfold fC_catching36_c13 fM_catcher_c4
    simp only [qlet, qlp]
    rw [qd_nn c0, show 6 * (c / 6 + 1) = c - c % 6 + 6 by omega]
    by_cases hk2 : k < c - c % 6 + 6
    · have hrc := hRC k hk hk2
      have e1f : B1 1 (fd 0) = A1 1 (fd 0) := by rw [frm_a f1 (r := 1) rfl]
      have hB21 : B2 1 = A2 1 := frm_a f2 rfl
      have hg : (0 ≤ k ∧ k ≤ 47 ∧ HG B1 k) ↔ A2 1 k ≠ 0 := ⟨fun q => hrc.1.mp ((HG_k e1f k).mp q.2.2), fun q => ⟨by omega, by omega, (HG_k e1f k).mpr (hrc.1.mpr q)⟩⟩
      rw [if_pos hk2, if_pos hk2, hB21]
      have nx : ∀ (C1 C2 : qA), frm [35, 43, 78] [(36, 9), (71, 9)] A1 C1 → frm [34, 35] [] A2 C2 → (fC_catching36_L F1 13 [row, c, c - c % 6 + 6, k + 1] C1).1 = cIf (fM_catcher_L F2 4 [c, k + 1] C2).1 ∧ ((fM_catcher_L F2 4 [c, k + 1] C2).1 = -1 ∨ (c < (fM_catcher_L F2 4 [c, k + 1] C2).1 ∧ (fM_catcher_L F2 4 [c, k + 1] C2).1 < c - c % 6 + 6 ∧ A2 1 (fM_catcher_L F2 4 [c, k + 1] C2).1 ≠ 0)) ∧ frm [35, 43, 78] [(36, 9), (71, 9)] A1 (fC_catching36_L F1 13 [row, c, c - c % 6 + 6, k + 1] C1).2 ∧ frm [34, 35] [] A2 (fM_catcher_L F2 4 [c, k + 1] C2).2 := fun C1 C2 g1 g2 => by
        cases m with
        | zero => exfalso; omega
        | succ m => exact catch36_L hr hRC hb hL c0 c1 m F1 F2 (k + 1) C1 C2 (by omega) (by omega) (by omega) (by omega) g1 g2
      by_cases hh : A2 1 k = 0
      · rw [if_neg (fun q => hg.mp q hh), if_pos hh]
        exact nx B1 B2 f1 f2
      · rw [if_pos (hg.mpr hh), if_neg hh]
        have f2c := fr_feelsCell k (k - c) 0 B2
        rw [frm_a f2c (r := 7) rfl, frm_a f2c (r := 8) rfl, frm_a f2c (r := 2) rfl, ripeM_k c (frm_a f2c rfl) (frm_a f2c rfl) (frm_a f2c rfl)]
        have hr2 : rowOf B1 B2 row c := by
          unfold rowOf
          rw [frm_a f1 (r := 25) rfl, frm_a f1 (r := 26) rfl, frm_a f1 (r := 27) rfl, frm_a f1 (r := 28) rfl, frm_a f1 (r := 29) rfl, frm_a f2 (r := 7) rfl, frm_a f2 (r := 8) rfl, frm_a f2 (r := 2) rfl, ripeM_k c (frm_a f2 rfl) (frm_a f2 rfl) (frm_a f2 rfl)]
          exact hr
        have hrc2 : RN B1 B2 k := RN_e hrc e1f (by rw [hB21]) (at_f f1 rfl) (at_f f2 rfl)
        have hb2 : RB B1 B2 := RB_f hb f1 f2 rfl rfl
        have hs := seen_is (v := k - c) hr2 hrc2 hb2 (by omega) (by omega) (by rw [hB21]; exact hh)
        have g1 : frm [35, 43, 78] [(36, 9), (71, 9)] A1 (qu (fC_seeFallen row (fC_seeCell k B1)) 35 12 (k - c)) := frm_q (frm_c (frm_c f1 (fr_seeCell k B1) rfl) (fr_seeFallen row _) rfl) rfl
        have g2 : frm [34, 35] [] A2 (fM_feelsCrop (B2 7 c) (B2 8 c) (fM_isRipe c B2) (B2 2 c) (fM_feelsCell k (k - c) 0 B2)) := frm_c (frm_c f2 f2c rfl) (fr_feelsCrop _ _ _ _ _) rfl
        have ht := told36 (w := 99) (m := 1) (RL36_f hL g1 g2 rfl rfl) hs (by decide)
        generalize fC_answer36 99 1 (qu (fC_seeFallen row (fC_seeCell k B1)) 35 12 (k - c)) = y1 at ht ⊢
        generalize fM_told 99 1 (fM_feelsCrop (B2 7 c) (B2 8 c) (fM_isRipe c B2) (B2 2 c) (fM_feelsCell k (k - c) 0 B2)) = y2 at ht ⊢
        obtain ⟨t1, _, t3⟩ := ht
        have g3 := frm_c g1 t3.1 rfl
        have g4 := frm_c g2 t3.2 rfl
        rw [t1]
        by_cases hp : 0 < y2.1
        · rw [if_pos hp, if_pos hp]
          refine ⟨?_, Or.inr ⟨hk, hk2, hh⟩, g3, g4⟩
          show qm k 6 = if k = -1 then 6 else k % 6
          rw [if_neg (show ¬ k = -1 by omega)]
          exact qm_nn (by omega)
        · rw [if_neg hp, if_neg hp]
          exact nx y1.2 y2.2 g3 g4
    · rw [if_neg hk2, if_neg hk2]
      exact ⟨rfl, Or.inl rfl, f1, f2⟩
theorem catch36 {A1 A2 : qA} {row c : Int} (hr : rowOf A1 A2 row c) (hRC : ∀ k, c < k → k < c - c % 6 + 6 → RN A1 A2 k) (hb : RB A1 A2) (hL : RL36 A1 A2) (c0 : 0 ≤ c) (c1 : c < 48) : (fC_catching36 row A1).1 = (if (fM_catcher c A2).1 = -1 then 6 else (fM_catcher c A2).1 % 6) ∧ ((fM_catcher c A2).1 = -1 ∨ (c < (fM_catcher c A2).1 ∧ (fM_catcher c A2).1 < c - c % 6 + 6 ∧ A2 1 (fM_catcher c A2).1 ≠ 0)) ∧ frm [35, 43, 78] [(36, 9), (71, 9)] A1 (fC_catching36 row A1).2 ∧ frm [34, 35] [] A2 (fM_catcher c A2).2 := by
  have e1 : fC_catching36 row A1 = fC_catching36_L 100000 13 [row, c, c - c % 6 + 6, c + 1] A1 := by
    unfold fC_catching36
    simp only [qlet]
    rw [hr.1]
  have e2 : fM_catcher c A2 = fM_catcher_L 100000 4 [c, c + 1] A2 := rfl
  rw [e1, e2]
  exact catch36_L hr hRC hb hL c0 c1 10 100000 100000 (c + 1) A1 A2 (by decide) (by decide) (by omega) (by omega) (frm_0 _ _ _) (frm_0 _ _ _)
/-- whose it is -/
theorem owner36 {A1 A2 : qA} {row c : Int} (hr : rowOf A1 A2 row c) (h : RN A1 A2 c) (hb : RB A1 A2) (hL : RL36 A1 A2) (c0 : 0 ≤ c) (c1 : c < 48) (hh : A2 1 c ≠ 0) (hk : A2 7 c ≠ -1) (h30 : A1 30 row = 6) : (fC_ownerOf36 row A1).1 = (fM_told 111 7 (qu (fM_feels c A2) 35 12 (6 - c % 6))).1 ∧ (0 ≤ (fC_ownerOf36 row A1).1 ∧ (fC_ownerOf36 row A1).1 ≤ 7) ∧ frm [35, 43, 78] [(36, 9), (71, 9)] A1 (fC_ownerOf36 row A1).2 ∧ frm [34, 35] [] A2 (fM_told 111 7 (qu (fM_feels c A2) 35 12 (6 - c % 6))).2 := by
  have hs := seenK_is hr h hb c0 c1 hh hk h30
  have g1 : frm [35, 43, 78] [(36, 9), (71, 9)] A1 (fC_seeFall row A1) := by
    unfold fC_seeFall
    simp only [qlet]
    exact frm_q (frm_c (frm_c (frm_0 _ _ _) (fr_seeCell _ A1) rfl) (fr_seeFallen row _) rfl) rfl
  have g2 : frm [34, 35] [] A2 (qu (fM_feels c A2) 35 12 (6 - c % 6)) := frm_q (frm_c (frm_0 _ _ _) (fr_feels c A2) rfl) rfl
  have ht := told36 (w := 111) (m := 7) (RL36_f hL g1 g2 rfl rfl) hs (by decide)
  unfold fC_ownerOf36
  simp only [qlet, qlp]
  exact ⟨ht.1, ht.2.1, frm_c g1 ht.2.2.1 rfl, frm_c g2 ht.2.2.2 rfl⟩
/-- who catches it -/
theorem catch71_L {A1 A2 : qA} {row c : Int} (hr : rowOf A1 A2 row c) (hRC : ∀ k, c < k → k < c - c % 6 + 6 → RN A1 A2 k) (hb : RB A1 A2) (hL : RL71 A1 A2) (c0 : 0 ≤ c) (c1 : c < 48) : ∀ (m F1 F2 : Nat) (k : Int) (B1 B2 : qA), m < F1 → m < F2 → c - c % 6 + 6 - k ≤ m → c < k → frm [35, 43, 78] [(36, 9), (71, 9)] A1 B1 → frm [34, 35] [] A2 B2 → (fC_catching71_L F1 13 [row, c, c - c % 6 + 6, k] B1).1 = cIf (fM_catcher_L F2 4 [c, k] B2).1 ∧ ((fM_catcher_L F2 4 [c, k] B2).1 = -1 ∨ (c < (fM_catcher_L F2 4 [c, k] B2).1 ∧ (fM_catcher_L F2 4 [c, k] B2).1 < c - c % 6 + 6 ∧ A2 1 (fM_catcher_L F2 4 [c, k] B2).1 ≠ 0)) ∧ frm [35, 43, 78] [(36, 9), (71, 9)] A1 (fC_catching71_L F1 13 [row, c, c - c % 6 + 6, k] B1).2 ∧ frm [34, 35] [] A2 (fM_catcher_L F2 4 [c, k] B2).2
  | _, 0, _, _, _, _, h, _, _, _, _, _ => absurd h (Nat.not_lt_zero _)
  | _, _, 0, _, _, _, _, h, _, _, _, _ => absurd h (Nat.not_lt_zero _)
  | m, F1 + 1, F2 + 1, k, B1, B2, hF1, hF2, hm, hk, f1, f2 => by
    rw [fC_catching71_L13, fM_catcher_L4]
    unfold fC_catching71_c13 fM_catcher_c4
    simp only [qlet, qlp]
    rw [qd_nn c0, show 6 * (c / 6 + 1) = c - c % 6 + 6 by omega]
    by_cases hk2 : k < c - c % 6 + 6
    · have hrc := hRC k hk hk2
      have e1f : B1 1 (fd 0) = A1 1 (fd 0) := by rw [frm_a f1 (r := 1) rfl]
      have hB21 : B2 1 = A2 1 := frm_a f2 rfl
      have hg : (0 ≤ k ∧ k ≤ 47 ∧ HG B1 k) ↔ A2 1 k ≠ 0 := ⟨fun q => hrc.1.mp ((HG_k e1f k).mp q.2.2), fun q => ⟨by omega, by omega, (HG_k e1f k).mpr (hrc.1.mpr q)⟩⟩
      rw [if_pos hk2, if_pos hk2, hB21]
      have nx : ∀ (C1 C2 : qA), frm [35, 43, 78] [(36, 9), (71, 9)] A1 C1 → frm [34, 35] [] A2 C2 → (fC_catching71_L F1 13 [row, c, c - c % 6 + 6, k + 1] C1).1 = cIf (fM_catcher_L F2 4 [c, k + 1] C2).1 ∧ ((fM_catcher_L F2 4 [c, k + 1] C2).1 = -1 ∨ (c < (fM_catcher_L F2 4 [c, k + 1] C2).1 ∧ (fM_catcher_L F2 4 [c, k + 1] C2).1 < c - c % 6 + 6 ∧ A2 1 (fM_catcher_L F2 4 [c, k + 1] C2).1 ≠ 0)) ∧ frm [35, 43, 78] [(36, 9), (71, 9)] A1 (fC_catching71_L F1 13 [row, c, c - c % 6 + 6, k + 1] C1).2 ∧ frm [34, 35] [] A2 (fM_catcher_L F2 4 [c, k + 1] C2).2 := fun C1 C2 g1 g2 => by
        cases m with
        | zero => exfalso; omega
        | succ m => exact catch71_L hr hRC hb hL c0 c1 m F1 F2 (k + 1) C1 C2 (by omega) (by omega) (by omega) (by omega) g1 g2
      by_cases hh : A2 1 k = 0
      · rw [if_neg (fun q => hg.mp q hh), if_pos hh]
        exact nx B1 B2 f1 f2
      · rw [if_pos (hg.mpr hh), if_neg hh]
        have f2c := fr_feelsCell k (k - c) 0 B2
        rw [frm_a f2c (r := 7) rfl, frm_a f2c (r := 8) rfl, frm_a f2c (r := 2) rfl, ripeM_k c (frm_a f2c rfl) (frm_a f2c rfl) (frm_a f2c rfl)]
        have hr2 : rowOf B1 B2 row c := by
          unfold rowOf
          rw [frm_a f1 (r := 25) rfl, frm_a f1 (r := 26) rfl, frm_a f1 (r := 27) rfl, frm_a f1 (r := 28) rfl, frm_a f1 (r := 29) rfl, frm_a f2 (r := 7) rfl, frm_a f2 (r := 8) rfl, frm_a f2 (r := 2) rfl, ripeM_k c (frm_a f2 rfl) (frm_a f2 rfl) (frm_a f2 rfl)]
          exact hr
        have hrc2 : RN B1 B2 k := RN_e hrc e1f (by rw [hB21]) (at_f f1 rfl) (at_f f2 rfl)
        have hb2 : RB B1 B2 := RB_f hb f1 f2 rfl rfl
        have hs := seen_is (v := k - c) hr2 hrc2 hb2 (by omega) (by omega) (by rw [hB21]; exact hh)
        have g1 : frm [35, 43, 78] [(36, 9), (71, 9)] A1 (qu (fC_seeFallen row (fC_seeCell k B1)) 35 12 (k - c)) := frm_q (frm_c (frm_c f1 (fr_seeCell k B1) rfl) (fr_seeFallen row _) rfl) rfl
        have g2 : frm [34, 35] [] A2 (fM_feelsCrop (B2 7 c) (B2 8 c) (fM_isRipe c B2) (B2 2 c) (fM_feelsCell k (k - c) 0 B2)) := frm_c (frm_c f2 f2c rfl) (fr_feelsCrop _ _ _ _ _) rfl
        have ht := told71 (w := 99) (m := 1) (RL71_f hL g1 g2 rfl rfl) hs (by decide)
        generalize fC_answer71 99 1 (qu (fC_seeFallen row (fC_seeCell k B1)) 35 12 (k - c)) = y1 at ht ⊢
        generalize fM_told 99 1 (fM_feelsCrop (B2 7 c) (B2 8 c) (fM_isRipe c B2) (B2 2 c) (fM_feelsCell k (k - c) 0 B2)) = y2 at ht ⊢
        obtain ⟨t1, _, t3⟩ := ht
        have g3 := frm_c g1 t3.1 rfl
        have g4 := frm_c g2 t3.2 rfl
        rw [t1]
        by_cases hp : 0 < y2.1
        · rw [if_pos hp, if_pos hp]
          refine ⟨?_, Or.inr ⟨hk, hk2, hh⟩, g3, g4⟩
          show qm k 6 = if k = -1 then 6 else k % 6
          rw [if_neg (show ¬ k = -1 by omega)]
          exact qm_nn (by omega)
        · rw [if_neg hp, if_neg hp]
          exact nx y1.2 y2.2 g3 g4
    · rw [if_neg hk2, if_neg hk2]
      exact ⟨rfl, Or.inl rfl, f1, f2⟩
theorem catch71 {A1 A2 : qA} {row c : Int} (hr : rowOf A1 A2 row c) (hRC : ∀ k, c < k → k < c - c % 6 + 6 → RN A1 A2 k) (hb : RB A1 A2) (hL : RL71 A1 A2) (c0 : 0 ≤ c) (c1 : c < 48) : (fC_catching71 row A1).1 = (if (fM_catcher c A2).1 = -1 then 6 else (fM_catcher c A2).1 % 6) ∧ ((fM_catcher c A2).1 = -1 ∨ (c < (fM_catcher c A2).1 ∧ (fM_catcher c A2).1 < c - c % 6 + 6 ∧ A2 1 (fM_catcher c A2).1 ≠ 0)) ∧ frm [35, 43, 78] [(36, 9), (71, 9)] A1 (fC_catching71 row A1).2 ∧ frm [34, 35] [] A2 (fM_catcher c A2).2 := by
  have e1 : fC_catching71 row A1 = fC_catching71_L 100000 13 [row, c, c - c % 6 + 6, c + 1] A1 := by
    unfold fC_catching71
    simp only [qlet]
    rw [hr.1]
  have e2 : fM_catcher c A2 = fM_catcher_L 100000 4 [c, c + 1] A2 := rfl
  rw [e1, e2]
  exact catch71_L hr hRC hb hL c0 c1 10 100000 100000 (c + 1) A1 A2 (by decide) (by decide) (by omega) (by omega) (frm_0 _ _ _) (frm_0 _ _ _)
/-- whose it is -/
theorem owner71 {A1 A2 : qA} {row c : Int} (hr : rowOf A1 A2 row c) (h : RN A1 A2 c) (hb : RB A1 A2) (hL : RL71 A1 A2) (c0 : 0 ≤ c) (c1 : c < 48) (hh : A2 1 c ≠ 0) (hk : A2 7 c ≠ -1) (h30 : A1 30 row = 6) : (fC_ownerOf71 row A1).1 = (fM_told 111 7 (qu (fM_feels c A2) 35 12 (6 - c % 6))).1 ∧ (0 ≤ (fC_ownerOf71 row A1).1 ∧ (fC_ownerOf71 row A1).1 ≤ 7) ∧ frm [35, 43, 78] [(36, 9), (71, 9)] A1 (fC_ownerOf71 row A1).2 ∧ frm [34, 35] [] A2 (fM_told 111 7 (qu (fM_feels c A2) 35 12 (6 - c % 6))).2 := by
  have hs := seenK_is hr h hb c0 c1 hh hk h30
  have g1 : frm [35, 43, 78] [(36, 9), (71, 9)] A1 (fC_seeFall row A1) := by
    unfold fC_seeFall
    simp only [qlet]
    exact frm_q (frm_c (frm_c (frm_0 _ _ _) (fr_seeCell _ A1) rfl) (fr_seeFallen row _) rfl) rfl
  have g2 : frm [34, 35] [] A2 (qu (fM_feels c A2) 35 12 (6 - c % 6)) := frm_q (frm_c (frm_0 _ _ _) (fr_feels c A2) rfl) rfl
  have ht := told71 (w := 111) (m := 7) (RL71_f hL g1 g2 rfl rfl) hs (by decide)
  unfold fC_ownerOf71
  simp only [qlet, qlp]
  exact ⟨ht.1, ht.2.1, frm_c g1 ht.2.2.1 rfl, frm_c g2 ht.2.2.2 rfl⟩
