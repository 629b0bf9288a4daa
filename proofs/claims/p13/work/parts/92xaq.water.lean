/-! WATER: both gardens -/
def lft (c : Int) : Int := if 0 < c then c - 1 else c
def rgt (c : Int) : Int := if c < 7 then c + 1 else c
/-- what comes to column i of d drops that a cell of column c sends on by its way -/
def shr (d c w i : Int) : Int := if w = 1 then (if i = lft c then d else 0) else if w = 2 then (if i = rgt c then d else 0) else if w = 3 then (if i = lft c then d - d / 2 else 0) + (if i = rgt c then d / 2 else 0) else (if i = c then d else 0)
theorem shr_bd {d c w i : Int} (d0 : 0 ≤ d) : 0 ≤ shr d c w i ∧ shr d c w i ≤ d := by
  unfold shr
  repeat' split
  all_goals omega
theorem shr_0 (c w i : Int) : shr 0 c w i = 0 := by
  have := shr_bd (d := 0) (c := c) (w := w) (i := i) (Int.le_refl _)
  omega
theorem add_is (r : Nat) (A : qA) (j v i : Int) : (qu A r j (A r j + v)) r i = A r i + (if i = j then v else 0) := by
  by_cases q : i = j
  · rw [if_pos q, q, qu_at]
  · rw [if_neg q, qu_nj q, Int.add_zero]
theorem passOn_is {d c w : Int} (d0 : 0 ≤ d) (A : qA) : frm [45] [] A (fC_passOn d c w A) ∧ ∀ i, (fC_passOn d c w A) 45 i = A 45 i + shr d c w i := by
  have one : ∀ j v, frm [45] [] A (qu A 45 j (A 45 j + v)) := fun j v => frm_q (frm_0 _ _ _) rfl
  have two : ∀ j v k w, frm [45] [] A (qu (qu A 45 j (A 45 j + v)) 45 k ((qu A 45 j (A 45 j + v)) 45 k + w)) := fun j v k w => frm_q (frm_q (frm_0 _ _ _) rfl) rfl
  have sum : ∀ j v k w i, (qu (qu A 45 j (A 45 j + v)) 45 k ((qu A 45 j (A 45 j + v)) 45 k + w)) 45 i = A 45 i + ((if i = j then v else 0) + (if i = k then w else 0)) := fun j v k w i => by
    rw [add_is, add_is, Int.add_assoc]
  unfold fC_passOn shr lft rgt
  simp only [qlet]
  rw [qd_nn d0]
  by_cases h0 : 0 < c
  · by_cases h7 : c < 7
    · simp only [if_pos h0, if_pos h7]
      by_cases w1 : w = 1
      · simp only [if_pos w1]; exact ⟨one _ _, fun i => add_is _ _ _ _ _⟩
      · by_cases w2 : w = 2
        · simp only [if_neg w1, if_pos w2]; exact ⟨one _ _, fun i => add_is _ _ _ _ _⟩
        · by_cases w3 : w = 3
          · simp only [if_neg w1, if_neg w2, if_pos w3]; exact ⟨two _ _ _ _, fun i => sum _ _ _ _ _⟩
          · simp only [if_neg w1, if_neg w2, if_neg w3]; exact ⟨one _ _, fun i => add_is _ _ _ _ _⟩
    · simp only [if_pos h0, if_neg h7]
      by_cases w1 : w = 1
      · simp only [if_pos w1]; exact ⟨one _ _, fun i => add_is _ _ _ _ _⟩
      · by_cases w2 : w = 2
        · simp only [if_neg w1, if_pos w2]; exact ⟨one _ _, fun i => add_is _ _ _ _ _⟩
        · by_cases w3 : w = 3
          · simp only [if_neg w1, if_neg w2, if_pos w3]; exact ⟨two _ _ _ _, fun i => sum _ _ _ _ _⟩
          · simp only [if_neg w1, if_neg w2, if_neg w3]; exact ⟨one _ _, fun i => add_is _ _ _ _ _⟩
  · have h7 : c < 7 := by omega
    simp only [if_neg h0, if_pos h7]
    by_cases w1 : w = 1
    · simp only [if_pos w1]; exact ⟨one _ _, fun i => add_is _ _ _ _ _⟩
    · by_cases w2 : w = 2
      · simp only [if_neg w1, if_pos w2]; exact ⟨one _ _, fun i => add_is _ _ _ _ _⟩
      · by_cases w3 : w = 3
        · simp only [if_neg w1, if_neg w2, if_pos w3]; exact ⟨two _ _ _ _, fun i => sum _ _ _ _ _⟩
        · simp only [if_neg w1, if_neg w2, if_neg w3]; exact ⟨one _ _, fun i => add_is _ _ _ _ _⟩
/-- the reference sends drops -/
def tgt (x t : Int) : Int := if t < 0 then x else if 7 < t then x else t
theorem sends_is {x t d M : Int} {A : qA} (x0 : 0 ≤ x) (x1 : x < 8) (d0 : 0 ≤ d) (hb : ∀ i, 0 ≤ i → i < 8 → 0 ≤ A 37 i ∧ A 37 i ≤ M) (hM : M + d ≤ 2147483647) : fM_sends x t d A = qu A 37 (tgt x t) (A 37 (tgt x t) + d) := by
  have key : ∀ j, 0 ≤ j → j < 8 → wI (A 37 j + d) = A 37 j + d := fun j j0 j1 => by
    have := hb j j0 j1
    exact wI_id ⟨by omega, by omega⟩
  unfold fM_sends tgt
  simp only [qlet]
  by_cases a : t < 0
  · rw [if_pos a, if_pos a, key x x0 x1]
  · rw [if_neg a, if_neg a]
    by_cases b : 7 < t
    · rw [if_pos b, if_pos b, key x x0 x1]
    · rw [if_neg b, if_neg b, key t (by omega) (by omega)]
theorem tgt_l {x : Int} (x0 : 0 ≤ x) (x1 : x < 8) : tgt x (x - 1) = lft x := by
  unfold tgt lft
  repeat' split
  all_goals omega
theorem tgt_r {x : Int} (x0 : 0 ≤ x) (x1 : x < 8) : tgt x (x + 1) = rgt x := by
  unfold tgt rgt
  repeat' split
  all_goals omega
theorem tgt_x {x : Int} (x0 : 0 ≤ x) (x1 : x < 8) : tgt x x = x := by
  unfold tgt
  repeat' split
  all_goals omega
/-- the rest goes on by a way -/
theorem ways_is {x w d M : Int} {A : qA} (x0 : 0 ≤ x) (x1 : x < 8) (w0 : 0 ≤ w) (w3 : w ≤ 3) (d0 : 0 ≤ d) (hb : ∀ i, 0 ≤ i → i < 8 → 0 ≤ A 37 i ∧ A 37 i ≤ M) (hM : M + 2 * d ≤ 2147483647) :
  ∀ D, D = (if w = 0 then fM_sends x x d A else (if w = 1 then fM_sends x (x - 1) d A else (if w = 2 then fM_sends x (x + 1) d A else fM_sends x (x + 1) (wI (qd d 2)) (fM_sends x (x - 1) (wI (d - qd d 2)) A)))) → frm [37] [] A D ∧ ∀ i, D 37 i = A 37 i + shr d x w i := by
  intro D hD
  subst hD
  have hM0 := hb 0 (by decide) (by decide)
  by_cases h0 : w = 0
  · rw [if_pos h0, sends_is x0 x1 d0 hb (by omega), tgt_x x0 x1]
    exact ⟨frm_q (frm_0 _ _ _) rfl, fun i => by
      rw [add_is]
      unfold shr
      rw [if_neg (show ¬ w = 1 by omega), if_neg (show ¬ w = 2 by omega), if_neg (show ¬ w = 3 by omega)]⟩
  · rw [if_neg h0]
    by_cases h1 : w = 1
    · rw [if_pos h1, sends_is x0 x1 d0 hb (by omega), tgt_l x0 x1]
      exact ⟨frm_q (frm_0 _ _ _) rfl, fun i => by
        rw [add_is]
        unfold shr
        rw [if_pos h1]⟩
    · rw [if_neg h1]
      by_cases h2 : w = 2
      · rw [if_pos h2, sends_is x0 x1 d0 hb (by omega), tgt_r x0 x1]
        exact ⟨frm_q (frm_0 _ _ _) rfl, fun i => by
          rw [add_is]
          unfold shr
          rw [if_neg h1, if_pos h2]⟩
      · rw [if_neg h2, qd_nn d0, show wI (d / 2) = d / 2 from wI_id ⟨by omega, by omega⟩, show wI (d - d / 2) = d - d / 2 from wI_id ⟨by omega, by omega⟩, sends_is (t := x - 1) x0 x1 (show 0 ≤ d - d / 2 by omega) hb (by omega), tgt_l x0 x1]
        have hb2 : ∀ i, 0 ≤ i → i < 8 → 0 ≤ (qu A 37 (lft x) (A 37 (lft x) + (d - d / 2))) 37 i ∧ (qu A 37 (lft x) (A 37 (lft x) + (d - d / 2))) 37 i ≤ M + d := fun i i0 i1 => by
          have := hb i i0 i1
          rw [add_is]
          split <;> omega
        rw [sends_is (t := x + 1) x0 x1 (show 0 ≤ d / 2 by omega) hb2 (by omega), tgt_r x0 x1]
        refine ⟨frm_q (frm_q (frm_0 _ _ _) rfl) rfl, fun i => ?_⟩
        rw [add_is, add_is, Int.add_assoc]
        unfold shr
        rw [if_neg h1, if_neg h2, if_pos (show w = 3 by omega)]
/-- what a cell keeps of d drops (reference) -/
def kpM (A : qA) (c d : Int) : Int := if A 7 c = -1 then 0 else min d (A 11 (A 7 c))
theorem drips_is {x l d M : Int} {A : qA} (x0 : 0 ≤ x) (x1 : x < 8) (l0 : 0 ≤ l) (l1 : l < 6) (d0 : 0 ≤ d) (hb : ∀ i, 0 ≤ i → i < 8 → 0 ≤ A 37 i ∧ A 37 i ≤ M) (hM : M + 2 * d ≤ 2147483647) (hw : A 1 (6 * x + l) ≠ 0 → 0 ≤ A 6 (6 * x + l) ∧ A 6 (6 * x + l) ≤ 3) (hn : A 1 (6 * x + l) ≠ 0 → A 7 (6 * x + l) ≠ -1 → 0 ≤ A 11 (A 7 (6 * x + l))) :
  frm [37, 10] [] A (fM_drips (6 * x + l) d A) ∧ (∀ i, (fM_drips (6 * x + l) d A) 37 i = A 37 i + shr (d - (if A 1 (6 * x + l) = 0 then 0 else kpM A (6 * x + l) d)) x (if A 1 (6 * x + l) = 0 then 0 else A 6 (6 * x + l)) i) ∧ (∀ i, (fM_drips (6 * x + l) d A) 10 i = if A 1 (6 * x + l) ≠ 0 ∧ i = 6 * x + l then kpM A (6 * x + l) d else A 10 i) := by
  unfold fM_drips
  simp only [qlet]
  have hM0 := hb 0 (by decide) (by decide)
  rw [qd_nn (show 0 ≤ 6 * x + l by omega), show (6 * x + l) / 6 = x by omega, show wI x = x from wI_id ⟨by omega, by omega⟩, show wI (x - 1) = x - 1 from wI_id ⟨by omega, by omega⟩, show wI (x + 1) = x + 1 from wI_id ⟨by omega, by omega⟩]
  by_cases hh : A 1 (6 * x + l) = 0
  · rw [if_pos hh, if_pos hh, if_pos hh, sends_is x0 x1 d0 hb (by omega), tgt_x x0 x1, Int.sub_zero]
    refine ⟨frm_q (frm_0 _ _ _) rfl, fun i => ?_, fun i => ?_⟩
    · rw [add_is]
      unfold shr
      rw [if_neg (show ¬ (0 : Int) = 1 by decide), if_neg (show ¬ (0 : Int) = 2 by decide), if_neg (show ¬ (0 : Int) = 3 by decide)]
    · rw [if_neg (fun z => z.1 hh), qu_ne (by decide)]
  · obtain ⟨w0, w3⟩ := hw hh
    rw [if_neg hh, if_neg hh, if_neg hh]
    have hrest : ∀ k, 0 ≤ k → k ≤ d → k = kpM A (6 * x + l) d → ∀ E, E = qu A 10 (6 * x + l) k → ∀ D, D = (if A 6 (6 * x + l) = 0 then fM_sends x x (d - k) E else (if A 6 (6 * x + l) = 1 then fM_sends x (x - 1) (d - k) E else (if A 6 (6 * x + l) = 2 then fM_sends x (x + 1) (d - k) E else fM_sends x (x + 1) (wI (qd (d - k) 2)) (fM_sends x (x - 1) (wI (d - k - qd (d - k) 2)) E)))) → frm [37, 10] [] A D ∧ (∀ i, D 37 i = A 37 i + shr (d - kpM A (6 * x + l) d) x (A 6 (6 * x + l)) i) ∧ (∀ i, D 10 i = if A 1 (6 * x + l) ≠ 0 ∧ i = 6 * x + l then kpM A (6 * x + l) d else A 10 i) := by
      intro k k0 k1 hk E hE D hD
      have e37 : E 37 = A 37 := by rw [hE]; exact qu_ne (by decide)
      obtain ⟨f, v⟩ := ways_is (A := E) (M := M) x0 x1 w0 w3 (show 0 ≤ d - k by omega) (by rw [e37]; exact hb) (by omega) D hD
      refine ⟨frm_c (by rw [hE]; exact frm_q (frm_0 _ _ _) rfl) f rfl, fun i => ?_, fun i => ?_⟩
      · rw [v i, e37, hk]
      · rw [frm_a f (r := 10) rfl, hE, qu_is]
        by_cases q : i = 6 * x + l
        · rw [if_pos ⟨rfl, q⟩, if_pos ⟨hh, q⟩, hk]
        · rw [if_neg (fun z => q z.2), if_neg (fun z => q z.2)]
    by_cases hc : A 7 (6 * x + l) = -1
    · rw [if_pos hc, show wI (d - 0) = d - 0 from wI_id ⟨by omega, by omega⟩]
      have e6 : (qu A 10 (6 * x + l) 0) 6 (6 * x + l) = A 6 (6 * x + l) := by rw [qu_ne (by decide)]
      rw [e6]
      exact hrest 0 (Int.le_refl _) d0 (by unfold kpM; rw [if_pos hc]) _ rfl _ rfl
    · have hn2 := hn hh hc
      have hle : fM_less d (A 11 (A 7 (6 * x + l))) A = min d (A 11 (A 7 (6 * x + l))) := by
        unfold fM_less
        split <;> omega
      rw [if_neg hc, hle]
      have e6 : (qu A 10 (6 * x + l) (min d (A 11 (A 7 (6 * x + l))))) 6 (6 * x + l) = A 6 (6 * x + l) := by rw [qu_ne (by decide)]
      rw [e6, show wI (d - min d (A 11 (A 7 (6 * x + l)))) = d - min d (A 11 (A 7 (6 * x + l))) from wI_id ⟨by omega, by omega⟩]
      exact hrest (min d (A 11 (A 7 (6 * x + l)))) (by omega) (by omega) (by unfold kpM; rw [if_neg hc]) _ rfl _ rfl
theorem fill45_L (v n : Int) : ∀ (m F : Nat) (i : Int) (B : qA), m < F → n - i ≤ m → fC_fill45z_L F 5 [v, i, n] B = fun r j => if r = 45 ∧ i ≤ j ∧ j < n then v else B r j
  | _, 0, _, _, h, _ => absurd h (Nat.not_lt_zero _)
  | m, F + 1, i, B, hF, hm => by
    rw [fC_fill45z_L5]
    unfold fC_fill45z_c5
    simp only [qlet]
    by_cases h : i < n
    · rw [if_pos h]
      cases m with
      | zero => exfalso; omega
      | succ m =>
        rw [fill45_L v n m F (i + 1) _ (by omega) (by omega)]
        funext r j
        by_cases h1 : r = 45 ∧ i + 1 ≤ j ∧ j < n
        · rw [if_pos h1, if_pos ⟨h1.1, by omega, h1.2.2⟩]
        · rw [if_neg h1, qu_is]
          by_cases h2 : r = 45 ∧ j = i
          · rw [if_pos h2, if_pos ⟨h2.1, by omega, by omega⟩]
          · rw [if_neg h2, if_neg (fun q => by
              by_cases h3 : j = i
              · exact h2 ⟨q.1, h3⟩
              · exact h1 ⟨q.1, by omega, q.2.2⟩)]
    · rw [if_neg h]
      funext r j
      rw [if_neg (fun q => by omega)]
theorem fill45_is (A : qA) : frm [45] [] A (fC_fill45z 0 A) ∧ ∀ j, 0 ≤ j → j < 8 → (fC_fill45z 0 A) 45 j = 0 := by
  have e : fC_fill45z 0 A = fun r j => if r = 45 ∧ 0 ≤ j ∧ j < 8 then 0 else A r j := fill45_L 0 8 8 100000 0 A (by decide) (by decide)
  rw [e]
  refine ⟨fun r i hr _ => ?_, fun j j0 j1 => if_pos ⟨rfl, j0, j1⟩⟩
  exact if_neg (fun q => hr (by rw [q.1]; exact List.mem_cons_self))
/-- the reference's row of zeros, its copy -/
theorem flow7 (l : Int) : ∀ (m F : Nat) (x : Int) (B : qA), x + m = 8 → 0 ≤ x → (∀ j, 0 ≤ j → j < x → B 37 j = 0) → ∃ C, frm [37] [] B C ∧ (∀ j, 0 ≤ j → j < 8 → C 37 j = 0) ∧ fM_flows_L (F + m + 1) 7 [l, x] B = fM_flows_L F 19 [l, 0] C
  | 0, F, x, B, hm, h0, hz => by
    rw [fM_flows_L7]
    unfold fM_flows_c7
    simp only [qlet]
    rw [if_neg (show ¬ x < 8 by omega)]
    exact ⟨B, frm_0 _ _ _, fun j j0 j1 => hz j j0 (by omega), rfl⟩
  | m + 1, F, x, B, hm, h0, hz => by
    obtain ⟨C, c1, c2, c3⟩ := flow7 l m F (x + 1) (qu B 37 x 0) (by omega) (by omega) (fun j j0 j1 => by
      by_cases q : j = x
      · rw [q, qu_at]
      · rw [qu_nj q]; exact hz j j0 (by omega))
    rw [show F + (m + 1) + 1 = (F + m + 1) + 1 by omega, fM_flows_L7]
    unfold fM_flows_c7
    simp only [qlet]
    rw [if_pos (show x < 8 by omega), show wI (x + 1) = x + 1 from wI_id ⟨by omega, by omega⟩]
    exact ⟨C, frm_c (frm_q (frm_0 _ _ _) rfl) c1 rfl, c2, c3⟩
theorem flow35 {l : Int} (l0 : 0 ≤ l) (l1 : l < 6) : ∀ (m F : Nat) (x : Int) (B : qA), x + m = 8 → 0 ≤ x → (∀ j, 0 ≤ j → j < x → B 36 j = B 37 j) → ∃ C, frm [36] [] B C ∧ (∀ j, 0 ≤ j → j < 8 → C 36 j = B 37 j) ∧ fM_flows_L (F + m + 1) 35 [l, x] B = fM_flows_L F 2 [l + 1] C
  | 0, F, x, B, hm, h0, hz => by
    rw [fM_flows_L35]
    unfold fM_flows_c35
    simp only [qlet]
    rw [if_neg (show ¬ x < 8 by omega), show wI (l + 1) = l + 1 from wI_id ⟨by omega, by omega⟩]
    exact ⟨B, frm_0 _ _ _, fun j j0 j1 => hz j j0 (by omega), rfl⟩
  | m + 1, F, x, B, hm, h0, hz => by
    have e37 : (qu B 36 x (B 37 x)) 37 = B 37 := qu_ne (by decide)
    obtain ⟨C, c1, c2, c3⟩ := flow35 l0 l1 m F (x + 1) (qu B 36 x (B 37 x)) (by omega) (by omega) (fun j j0 j1 => by
      rw [e37]
      by_cases q : j = x
      · rw [q, qu_at]
      · rw [qu_nj q]; exact hz j j0 (by omega))
    rw [show F + (m + 1) + 1 = (F + m + 1) + 1 by omega, fM_flows_L35]
    unfold fM_flows_c35
    simp only [qlet]
    rw [if_pos (show x < 8 by omega), show wI (x + 1) = x + 1 from wI_id ⟨by omega, by omega⟩]
    exact ⟨C, frm_c (frm_q (frm_0 _ _ _) rfl) c1 rfl, fun j j0 j1 => by rw [c2 j j0 j1, e37], c3⟩
/-- one cell, in the class -/
theorem pstepA {l c : Int} (F : Nat) (B : qA) (c0 : 0 ≤ c) (c1 : c < 8) (l0 : 0 ≤ l) (l1 : l < 6) (v0 : 0 ≤ B 46 c) : ∃ C, fC_pourA_L (F + 1) 26 [l, c] B = fC_pourA_L F 26 [l, c + 1] C ∧ frm [45, 9] [] B C ∧ (∀ i, C 45 i = B 45 i + shr (B 46 c - (if B 46 c = 0 then 0 else min (B 46 c) (fC_needOf (6 * c + l) B))) c (if 0 ≤ 6 * c + l ∧ 6 * c + l ≤ 47 ∧ HG B (6 * c + l) then B 5 (6 * c + l) else 0) i) ∧ ∀ i, C 9 i = if i = 6 * c + l then (if B 46 c = 0 then 0 else min (B 46 c) (fC_needOf (6 * c + l) B)) else B 9 i := by
  rw [fC_pourA_L26]
  unfold fC_pourA_c26
  simp only [qlet]
  rw [if_pos c1, show c * 6 + l = 6 * c + l by omega]
  have e9 : ∀ k i, (qu B 9 (6 * c + l) k) 9 i = if i = 6 * c + l then k else B 9 i := fun k i => by
    by_cases q : i = 6 * c + l
    · rw [if_pos q, q, qu_at]
    · rw [if_neg q, qu_nj q]
  by_cases hv : B 46 c = 0
  · rw [if_pos hv, if_pos hv]
    refine ⟨_, rfl, frm_q (frm_0 _ _ _) rfl, fun i => ?_, fun i => e9 0 i⟩
    rw [hv, Int.sub_zero, shr_0, Int.add_zero, qu_ne (by decide)]
  · rw [if_neg hv, if_neg hv]
    have hkm : min (B 46 c) (fC_needOf (6 * c + l) B) ≤ B 46 c := Int.min_le_left _ _
    generalize min (B 46 c) (fC_needOf (6 * c + l) B) = k at hkm ⊢
    have f0 : frm [45, 9] [] B (qu B 9 (6 * c + l) k) := frm_q (frm_0 _ _ _) rfl
    have e1 : (qu B 9 (6 * c + l) k) 1 (fd 0) = B 1 (fd 0) := frm_f f0 rfl
    have e45 : (qu B 9 (6 * c + l) k) 45 = B 45 := qu_ne (by decide)
    have e5 : (qu B 9 (6 * c + l) k) 5 = B 5 := frm_a f0 rfl
    have hg := HG_k e1 (6 * c + l)
    by_cases hk : k < B 46 c
    · rw [if_pos hk, e5]
      by_cases hh : 0 ≤ 6 * c + l ∧ 6 * c + l ≤ 47 ∧ HG B (6 * c + l)
      · rw [if_pos hh, if_pos ⟨hh.1, hh.2.1, hg.mpr hh.2.2⟩]
        obtain ⟨p1, p2⟩ := passOn_is (d := B 46 c - k) (c := c) (w := B 5 (6 * c + l)) (by omega) (qu B 9 (6 * c + l) k)
        refine ⟨_, rfl, frm_c f0 p1 rfl, fun i => by rw [p2 i, e45], fun i => ?_⟩
        rw [frm_a p1 (r := 9) rfl]
        exact e9 k i
      · rw [if_neg hh, if_neg (fun z => hh ⟨z.1, z.2.1, hg.mp z.2.2⟩)]
        obtain ⟨p1, p2⟩ := passOn_is (d := B 46 c - k) (c := c) (w := 0) (by omega) (qu B 9 (6 * c + l) k)
        refine ⟨_, rfl, frm_c f0 p1 rfl, fun i => by rw [p2 i, e45], fun i => ?_⟩
        rw [frm_a p1 (r := 9) rfl]
        exact e9 k i
    · rw [if_neg hk]
      refine ⟨_, rfl, f0, fun i => ?_, fun i => e9 k i⟩
      have hz : shr (B 46 c - k) c (if 0 ≤ 6 * c + l ∧ 6 * c + l ≤ 47 ∧ HG B (6 * c + l) then B 5 (6 * c + l) else 0) i = 0 := by
        rw [show B 46 c - k = 0 by omega]
        exact shr_0 _ _ _
      rw [hz, Int.add_zero, e45]
def WIA (A1 A2 B1 B2 : qA) (l c : Int) : Prop := (frm [45, 46, 9] [] A1 B1 ∧ frm [36, 37, 10] [] A2 B2) ∧ (∀ i, 0 ≤ i → i < 8 → B1 46 i = B2 36 i ∧ 0 ≤ B2 36 i ∧ B2 36 i ≤ pw l) ∧ (∀ i, 0 ≤ i → i < 8 → B1 45 i = B2 37 i ∧ 0 ≤ B2 37 i ∧ B2 37 i ≤ c * pw l) ∧ ∀ d, 0 ≤ d → d < 48 → A2 1 d ≠ 0 → (d % 6 < l ∨ (d % 6 = l ∧ d / 6 < c) ∨ (0 : Int) = 0) → B1 9 d = B2 10 d
/-- what both need of the gardens -/
def WH (A1 A2 : qA) : Prop := (∀ d, 0 ≤ d → d < 48 → (HG A1 d ↔ A2 1 d ≠ 0) ∧ (A2 1 d ≠ 0 → A1 5 d = A2 6 d ∧ A1 6 d = A2 7 d ∧ (-1 ≤ A2 7 d ∧ A2 7 d ≤ 5) ∧ (0 ≤ A2 6 d ∧ A2 6 d ≤ 3))) ∧ ∀ k, 0 ≤ k → k < 6 → A1 11 k = A2 11 k ∧ (0 ≤ A2 11 k ∧ A2 11 k ≤ 20)
theorem keepA {A1 A2 B1 B2 : qA} {c l : Int} (hH : WH A1 A2) (f1 : frm [45, 46, 9] [] A1 B1) (f2 : frm [36, 37, 10] [] A2 B2) (c0 : 0 ≤ c) (c1 : c < 8) (l0 : 0 ≤ l) (l1 : l < 6) {v : Int} (v0 : 0 ≤ v) : (if v = 0 then 0 else min v (fC_needOf (6 * c + l) B1)) = (if B2 1 (6 * c + l) = 0 then 0 else kpM B2 (6 * c + l) v) := by
  have h := hH.1 (6 * c + l) (by omega) (by omega)
  have e1 : B1 1 (fd 0) = A1 1 (fd 0) := frm_f f1 rfl
  have hg := HG_k e1 (6 * c + l)
  unfold fC_needOf kpM
  simp only [qlet]
  rw [frm_a f1 (r := 6) rfl, frm_a f1 (r := 11) rfl, frm_a f2 (r := 1) rfl, frm_a f2 (r := 7) rfl, frm_a f2 (r := 11) rfl]
  by_cases hh : A2 1 (6 * c + l) = 0
  · rw [if_pos hh, if_neg (show ¬ (0 ≤ 6 * c + l ∧ 6 * c + l ≤ 47 ∧ HG B1 (6 * c + l) ∧ 0 ≤ A1 6 (6 * c + l) ∧ A1 6 (6 * c + l) ≤ 5) from fun z => h.1.mp (hg.mp z.2.2.1) hh)]
    split <;> omega
  · obtain ⟨_, h6, h7, _⟩ := h.2 hh
    rw [if_neg hh, h6]
    by_cases q : A2 7 (6 * c + l) = -1
    · rw [if_pos q, if_neg (show ¬ (0 ≤ 6 * c + l ∧ 6 * c + l ≤ 47 ∧ HG B1 (6 * c + l) ∧ 0 ≤ A2 7 (6 * c + l) ∧ A2 7 (6 * c + l) ≤ 5) from fun z => by omega)]
      split <;> omega
    · obtain ⟨k1, k2, _⟩ := hH.2 (A2 7 (6 * c + l)) (by omega) (by omega)
      rw [if_neg q, if_pos (show 0 ≤ 6 * c + l ∧ 6 * c + l ≤ 47 ∧ HG B1 (6 * c + l) ∧ 0 ≤ A2 7 (6 * c + l) ∧ A2 7 (6 * c + l) ≤ 5 from ⟨by omega, by omega, hg.mpr (h.1.mpr hh), by omega, by omega⟩), k1]
      split <;> omega
theorem rowA {A1 A2 : qA} (hH : WH A1 A2) {l : Int} (l0 : 0 ≤ l) (l1 : l < 6) : ∀ (m F1 F2 : Nat) (c : Int) (B1 B2 : qA), c + m = 8 → 0 ≤ c → WIA A1 A2 B1 B2 l c → ∃ C1 C2, WIA A1 A2 C1 C2 l 8 ∧ fC_pourA_L (F1 + m + 1) 26 [l, c] B1 = fC_pourA_L F1 9 [l + 1] C1 ∧ fM_flows_L (F2 + m + 1) 19 [l, c] B2 = fM_flows_L F2 35 [l, 0] C2
  | 0, F1, F2, c, B1, B2, hm, c0, h => by
    rw [fC_pourA_L26, fM_flows_L19]
    unfold fC_pourA_c26 fM_flows_c19
    simp only [qlet]
    rw [if_neg (show ¬ c < 8 by omega), if_neg (show ¬ c < 8 by omega)]
    rw [show c = 8 by omega] at h
    exact ⟨B1, B2, h, rfl, rfl⟩
  | m + 1, F1, F2, c, B1, B2, hm, c0, h => by
    obtain ⟨⟨f1, f2⟩, h46, h45, h9⟩ := h
    have c1 : c < 8 := by omega
    obtain ⟨v1, v2, v3⟩ := h46 c c0 c1
    obtain ⟨C1, p1, p2, p3, p4⟩ := pstepA (F1 + m + 1) B1 c0 c1 l0 l1 (by omega)
    have hpw := pw_bd (l := l) l0 (by omega)
    have hcp : c * pw l ≤ 8 * pw l := Int.mul_le_mul_of_nonneg_right (by omega) (by omega)
    have hc2 : (c + 1) * pw l = c * pw l + pw l := by rw [Int.add_mul, Int.one_mul]
    have hH1 := hH.1 (6 * c + l) (by omega) (by omega)
    have b1 : B2 1 = A2 1 := frm_a f2 rfl
    have b6 : B2 6 = A2 6 := frm_a f2 rfl
    have b7 : B2 7 = A2 7 := frm_a f2 rfl
    have b11 : B2 11 = A2 11 := frm_a f2 rfl
    have hwn : A2 1 (6 * c + l) ≠ 0 → A2 7 (6 * c + l) ≠ -1 → 0 ≤ A2 11 (A2 7 (6 * c + l)) := fun z w => by
      obtain ⟨_, _, u, _⟩ := hH1.2 z
      exact (hH.2 (A2 7 (6 * c + l)) (by omega) (by omega)).2.1
    obtain ⟨d1, d2, d3⟩ := drips_is (x := c) (l := l) (d := B2 36 c) (M := c * pw l) (A := B2) c0 c1 l0 l1 v2 (fun i i0 i1 => (h45 i i0 i1).2) (by omega) (by rw [b1, b6]; exact fun z => (hH1.2 z).2.2.2) (by rw [b1, b7, b11]; exact hwn)
    have hkeep := keepA hH f1 f2 c0 c1 l0 l1 (v := B2 36 c) v2
    rw [v1, hkeep] at p3 p4
    have hkb : 0 ≤ B2 36 c - (if B2 1 (6 * c + l) = 0 then 0 else kpM B2 (6 * c + l) (B2 36 c)) ∧ B2 36 c - (if B2 1 (6 * c + l) = 0 then 0 else kpM B2 (6 * c + l) (B2 36 c)) ≤ B2 36 c := by
      unfold kpM
      rw [b1, b7, b11]
      by_cases hz : A2 1 (6 * c + l) = 0
      · rw [if_pos hz]; omega
      · rw [if_neg hz]
        obtain ⟨_, _, u, _⟩ := hH1.2 hz
        by_cases hq : A2 7 (6 * c + l) = -1
        · rw [if_pos hq]; omega
        · rw [if_neg hq]
          have := (hH.2 (A2 7 (6 * c + l)) (by omega) (by omega)).2
          omega
    have hway : (if 0 ≤ 6 * c + l ∧ 6 * c + l ≤ 47 ∧ HG B1 (6 * c + l) then B1 5 (6 * c + l) else 0) = (if B2 1 (6 * c + l) = 0 then 0 else B2 6 (6 * c + l)) := by
      have e1 : B1 1 (fd 0) = A1 1 (fd 0) := frm_f f1 rfl
      have hg := HG_k e1 (6 * c + l)
      rw [b1, b6, frm_a f1 (r := 5) rfl]
      by_cases hz : A2 1 (6 * c + l) = 0
      · rw [if_pos hz, if_neg (fun z => hH1.1.mp (hg.mp z.2.2) hz)]
      · rw [if_neg hz, if_pos ⟨by omega, by omega, hg.mpr (hH1.1.mpr hz)⟩]
        exact (hH1.2 hz).1
    rw [hway] at p3
    have hkk : A2 1 (6 * c + l) ≠ 0 → kpM B2 (6 * c + l) (B2 36 c) = (if B2 1 (6 * c + l) = 0 then 0 else kpM B2 (6 * c + l) (B2 36 c)) := fun z => by rw [b1, if_neg z]
    generalize (if B2 1 (6 * c + l) = 0 then 0 else kpM B2 (6 * c + l) (B2 36 c)) = k at p3 p4 d2 hkb hkk
    generalize (if B2 1 (6 * c + l) = 0 then 0 else B2 6 (6 * c + l)) = w at p3 d2
    have hn : WIA A1 A2 C1 (fM_drips (6 * c + l) (B2 36 c) B2) l (c + 1) := by
      refine ⟨⟨frm_c f1 p2 rfl, frm_c f2 d1 rfl⟩, fun i i0 i1 => ?_, fun i i0 i1 => ?_, fun d e0 e1 e2 e3 => ?_⟩
      · rw [frm_a p2 (r := 46) rfl, frm_a d1 (r := 36) rfl]
        exact h46 i i0 i1
      · obtain ⟨u1, u2, u3⟩ := h45 i i0 i1
        have hs := shr_bd (d := B2 36 c - k) (c := c) (w := w) (i := i) hkb.1
        rw [p3 i, d2 i, u1, hc2]
        omega
      · rw [p4 d, d3 d, b1]
        by_cases q : d = 6 * c + l
        · rw [if_pos q]
          rw [q] at e2 ⊢
          rw [if_pos ⟨e2, rfl⟩]
          exact (hkk e2).symm
        · rw [if_neg q, if_neg (fun z => q z.2)]
          exact h9 d e0 e1 e2 (by omega)
    obtain ⟨D1, D2, r1, r2, r3⟩ := rowA hH l0 l1 m F1 F2 (c + 1) C1 (fM_drips (6 * c + l) (B2 36 c) B2) (by omega) (by omega) hn
    refine ⟨D1, D2, r1, ?_, ?_⟩
    · rw [show F1 + (m + 1) + 1 = (F1 + m + 1) + 1 by omega, p1]
      exact r2
    · rw [show F2 + (m + 1) + 1 = (F2 + m + 1) + 1 by omega, fM_flows_L19]
      unfold fM_flows_c19
      simp only [qlet]
      rw [if_pos c1, show wI (c + 1) = c + 1 from wI_id ⟨by omega, by omega⟩]
      exact r3
def WOA (A1 A2 B1 B2 : qA) (l : Int) : Prop := (frm [45, 46, 9] [] A1 B1 ∧ frm [36, 37, 10] [] A2 B2) ∧ (∀ i, 0 ≤ i → i < 8 → B1 45 i = B2 36 i ∧ 0 ≤ B2 36 i ∧ B2 36 i ≤ pw l) ∧ ∀ d, 0 ≤ d → d < 48 → A2 1 d ≠ 0 → (d % 6 < l ∨ (0 : Int) = 0) → B1 9 d = B2 10 d
theorem levelA {A1 A2 : qA} (hH : WH A1 A2) : ∀ (m F1 F2 : Nat) (l : Int) (B1 B2 : qA), l + m = 6 → 0 ≤ l → WOA A1 A2 B1 B2 l → WOA A1 A2 (fC_pourA_L (F1 + 10 * m + 1) 9 [l] B1) (fM_flows_L (F2 + 28 * m + 1) 2 [l] B2) 6
  | 0, F1, F2, l, B1, B2, hm, l0, h => by
    rw [fC_pourA_L9, fM_flows_L2]
    unfold fC_pourA_c9 fM_flows_c2
    simp only [qlet]
    rw [if_neg (show ¬ l < 6 by omega), if_neg (show ¬ l < 6 by omega)]
    rw [show l = 6 by omega] at h
    exact h
  | m + 1, F1, F2, l, B1, B2, hm, l0, h => by
    obtain ⟨⟨f1, f2⟩, h45, h9⟩ := h
    have l1 : l < 6 := by omega
    have hpw := pw_bd (l := l) l0 (by omega)
    rw [show F1 + 10 * (m + 1) + 1 = (F1 + 10 * m + 1 + 8 + 1) + 1 by omega, show F2 + 28 * (m + 1) + 1 = ((((F2 + 28 * m + 1) + 8 + 1) + 8 + 1) + 8 + 1) + 1 by omega, fC_pourA_L9, fM_flows_L2]
    unfold fC_pourA_c9 fM_flows_c2
    simp only [qlet]
    rw [if_pos l1, if_pos l1]
    obtain ⟨z1, z2⟩ := fill45_is (qcpy B1 45 0 46 0 8)
    have q46 : ∀ i, 0 ≤ i → i < 8 → (qcpy B1 45 0 46 0 8) 46 i = B1 45 i := fun i i0 i1 => by
      unfold qcpy
      rw [if_pos ⟨rfl, i0, by omega⟩]
      congr 1
      omega
    have fq : frm [45, 46, 9] [] B1 (qcpy B1 45 0 46 0 8) := frm_cp (frm_0 _ _ _) rfl rfl
    obtain ⟨U, u1, u2, u3⟩ := flow7 l 8 (((F2 + 28 * m + 1) + 8 + 1) + 8 + 1) 0 B2 (by decide) (by decide) (fun j j0 j1 => by omega)
    rw [u3]
    have hW : WIA A1 A2 (fC_fill45z 0 (qcpy B1 45 0 46 0 8)) U l 0 := by
      refine ⟨⟨frm_c (frm_c f1 fq rfl) z1 rfl, frm_c f2 u1 rfl⟩, fun i i0 i1 => ?_, fun i i0 i1 => ?_, fun d d0 d1 d2 d3 => ?_⟩
      · rw [frm_a z1 (r := 46) rfl, q46 i i0 i1, frm_a u1 (r := 36) rfl]
        exact h45 i i0 i1
      · rw [z2 i i0 i1, u2 i i0 i1]
        omega
      · rw [frm_a z1 (r := 9) rfl, frm_a u1 (r := 10) rfl, cp_a (r' := 9) (A := B1) (r0 := 45) (sp := 0) (r := 46) (dp := 0) (n := 8) rfl rfl]
        exact h9 d d0 d1 d2 (by omega)
    obtain ⟨D1, D2, ⟨⟨r1, r2⟩, r3, r4, r5⟩, r6, r7⟩ := rowA hH l0 l1 8 (F1 + 10 * m + 1) (((F2 + 28 * m + 1) + 8 + 1)) 0 _ _ (by decide) (by decide) hW
    rw [r6, r7]
    obtain ⟨G, g1, g2, g3⟩ := flow35 l0 l1 8 (F2 + 28 * m + 1) 0 D2 (by decide) (by decide) (fun j j0 j1 => by omega)
    rw [g3]
    refine levelA hH m F1 F2 (l + 1) D1 G (by omega) (by omega) ⟨⟨r1, frm_c r2 g1 rfl⟩, fun i i0 i1 => ?_, fun d d0 d1 d2 d3 => ?_⟩
    · rw [g2 i i0 i1, pw_s l0]
      exact r4 i i0 i1
    · rw [frm_a g1 (r := 10) rfl]
      exact r5 d d0 d1 d2 (by omega)
