/-! DROUGHT: the search -/
def stD (d : Int) (W : List Int → Int) (row : List Int) (s : Int × List Int) : Int × List Int := if sumL row ≤ d ∧ s.1 < W row then (W row, row) else s
def fdD (f : Int → Int × List Int → Int × List Int) : Nat → Int × List Int → Int × List Int
  | 0, s => s
  | r + 1, s => fdD f r (f (9 - (r : Int)) s)
def blD (d : Int) (W : List Int → Int) : Nat → List Int → Int × List Int → Int × List Int
  | 0, pre, s => stD d W pre s
  | m + 1, pre, s => fdD (fun x s => blD d W m (pre ++ [x]) s) 10 s
theorem fdD_id {f : Int → Int × List Int → Int × List Int} : ∀ (r : Nat) (s : Int × List Int), r ≤ 10 → (∀ x s, 10 - (r : Int) ≤ x → x ≤ 9 → f x s = s) → fdD f r s = s
  | 0, s, _, _ => rfl
  | r + 1, s, hr, h => by
    show fdD f r (f (9 - (r : Int)) s) = s
    rw [h (9 - (r : Int)) s (by omega) (by omega)]
    exact fdD_id r s (by omega) (fun x s x0 x1 => h x s (by omega) x1)
theorem blD_bad {d : Int} {W : List Int → Int} : ∀ (m : Nat) (pre : List Int) (s : Int × List Int), d < sumL pre → blD d W m pre s = s
  | 0, pre, s, h => if_neg (fun z => by have := z.1; omega)
  | m + 1, pre, s, h => by
    show fdD (fun x s => blD d W m (pre ++ [x]) s) 10 s = s
    exact fdD_id 10 s (Nat.le_refl _) (fun x s x0 x1 => blD_bad m (pre ++ [x]) s (by rw [sumL_a]; omega))
theorem stD_e {d : Int} {W : List Int → Int} {row : List Int} {s t : Int × List Int} (h : eqS s t) : eqS (stD d W row s) (stD d W row t) := by
  unfold stD
  rw [← h.1]
  by_cases q : sumL row ≤ d ∧ s.1 < W row
  · rw [if_pos q, if_pos q]
    exact ⟨rfl, fun _ => rfl⟩
  · rw [if_neg q, if_neg q]
    exact h
theorem fdD_e {f : Int → Int × List Int → Int × List Int} (hf : ∀ x s t, eqS s t → eqS (f x s) (f x t)) : ∀ (r : Nat) (s t : Int × List Int), eqS s t → eqS (fdD f r s) (fdD f r t)
  | 0, _, _, h => h
  | r + 1, s, t, h => fdD_e hf r _ _ (hf _ _ _ h)
theorem blD_e {d : Int} {W : List Int → Int} : ∀ (m : Nat) (pre : List Int) (s t : Int × List Int), eqS s t → eqS (blD d W m pre s) (blD d W m pre t)
  | 0, pre, s, t, h => stD_e h
  | m + 1, pre, s, t, h => fdD_e (fun x s t h => blD_e m (pre ++ [x]) s t h) 10 _ _ h
theorem stD_ge {d : Int} {W : List Int → Int} {row : List Int} (s : Int × List Int) : s.1 ≤ (stD d W row s).1 := by
  unfold stD
  by_cases q : sumL row ≤ d ∧ s.1 < W row
  · rw [if_pos q]
    exact Int.le_of_lt q.2
  · rw [if_neg q]
    exact Int.le_refl _
theorem fdD_ge {f : Int → Int × List Int → Int × List Int} (hf : ∀ x s, s.1 ≤ (f x s).1) : ∀ (r : Nat) (s : Int × List Int), s.1 ≤ (fdD f r s).1
  | 0, s => Int.le_refl _
  | r + 1, s => Int.le_trans (hf _ s) (fdD_ge hf r _)
theorem blD_ge {d : Int} {W : List Int → Int} : ∀ (m : Nat) (pre : List Int) (s : Int × List Int), s.1 ≤ (blD d W m pre s).1
  | 0, pre, s => stD_ge s
  | m + 1, pre, s => fdD_ge (fun x s => blD_ge m (pre ++ [x]) s) 10 s
theorem blD_pos {d : Int} {W : List Int → Int} (hW : ∀ row, 0 ≤ W row) : ∀ (m : Nat) (pre : List Int) (s : Int × List Int), sumL pre ≤ d → 0 ≤ (blD d W m pre s).1
  | 0, pre, s, h => by
    show 0 ≤ (stD d W pre s).1
    unfold stD
    by_cases q : sumL pre ≤ d ∧ s.1 < W pre
    · rw [if_pos q]; exact hW pre
    · rw [if_neg q]
      have := hW pre
      by_cases z : s.1 < W pre
      · exact absurd ⟨h, z⟩ q
      · omega
  | m + 1, pre, s, h => by
    have h0 := blD_pos (d := d) hW m (pre ++ [0]) s (by rw [sumL_a]; omega)
    have h1 := fdD_ge (f := fun x s => blD d W m (pre ++ [x]) s) (fun x s => blD_ge m (pre ++ [x]) s) 9 (blD d W m (pre ++ [0]) s)
    exact Int.le_trans h0 h1
/-! DROUGHT: what is kept stays below what came -/
theorem sumP_c {f g : Int → Int} : ∀ (m : Nat) (k : Int), (∀ i, k ≤ i → i < k + m → f i = g i) → sumP f m k = sumP g m k
  | 0, _, _ => rfl
  | m + 1, k, h => by
    show f k + sumP f m (k + 1) = g k + sumP g m (k + 1)
    rw [h k (Int.le_refl _) (by omega), sumP_c m (k + 1) (fun i i0 i1 => h i (by omega) (by omega))]
theorem sumP_le {f g : Int → Int} : ∀ (m : Nat) (k : Int), (∀ i, k ≤ i → i < k + m → f i ≤ g i) → sumP f m k ≤ sumP g m k
  | 0, _, _ => Int.le_refl _
  | m + 1, k, h => by
    have h1 := h k (Int.le_refl _) (by omega)
    have h2 := sumP_le m (k + 1) (fun i i0 i1 => h i (by omega) (by omega))
    show f k + sumP f m (k + 1) ≤ g k + sumP g m (k + 1)
    omega
theorem sumP_nn {f : Int → Int} : ∀ (m : Nat) (k : Int), (∀ i, k ≤ i → i < k + m → 0 ≤ f i) → 0 ≤ sumP f m k
  | 0, _, _ => Int.le_refl _
  | m + 1, k, h => by
    have h1 := h k (Int.le_refl _) (by omega)
    have h2 := sumP_nn m (k + 1) (fun i i0 i1 => h i (by omega) (by omega))
    show 0 ≤ f k + sumP f m (k + 1)
    omega
theorem sumP_1 (a v : Int) : ∀ (m : Nat) (k : Int), sumP (fun i => if i = a then v else 0) m k = if k ≤ a ∧ a < k + m then v else 0
  | 0, k => by
    rw [if_neg (fun z => by omega)]
    rfl
  | m + 1, k => by
    show (if k = a then v else 0) + sumP (fun i => if i = a then v else 0) m (k + 1) = _
    rw [sumP_1 a v m (k + 1)]
    by_cases q : k = a
    · rw [if_pos q, if_neg (fun z => by omega), if_pos (show k ≤ a ∧ a < k + ((m + 1 : Nat) : Int) by omega)]
      omega
    · by_cases w : k + 1 ≤ a ∧ a < k + 1 + m
      · rw [if_neg q, if_pos w, if_pos (show k ≤ a ∧ a < k + ((m + 1 : Nat) : Int) by omega)]
        omega
      · rw [if_neg q, if_neg w, if_neg (show ¬ (k ≤ a ∧ a < k + ((m + 1 : Nat) : Int)) by omega)]
        rfl
theorem lft_bd {c : Int} (c0 : 0 ≤ c) (c1 : c < 8) : 0 ≤ lft c ∧ lft c < 0 + ((8 : Nat) : Int) := by
  unfold lft
  split <;> omega
theorem rgt_bd {c : Int} (c0 : 0 ≤ c) (c1 : c < 8) : 0 ≤ rgt c ∧ rgt c < 0 + ((8 : Nat) : Int) := by
  unfold rgt
  split <;> omega
theorem shr_sum {d c : Int} (w : Int) (c0 : 0 ≤ c) (c1 : c < 8) : sumP (shr d c w) 8 0 = d := by
  by_cases w1 : w = 1
  · rw [sumP_c (g := fun i => if i = lft c then d else 0) 8 0 (fun i _ _ => by unfold shr; rw [if_pos w1]), sumP_1, if_pos (lft_bd c0 c1)]
  · by_cases w2 : w = 2
    · rw [sumP_c (g := fun i => if i = rgt c then d else 0) 8 0 (fun i _ _ => by unfold shr; rw [if_neg w1, if_pos w2]), sumP_1, if_pos (rgt_bd c0 c1)]
    · by_cases w3 : w = 3
      · rw [sumP_add (fun i => if i = lft c then d - d / 2 else 0) (fun i => if i = rgt c then d / 2 else 0) (shr d c w) 8 0 (fun i _ _ => by unfold shr; rw [if_neg w1, if_neg w2, if_pos w3]), sumP_1, sumP_1, if_pos (lft_bd c0 c1), if_pos (rgt_bd c0 c1)]
        omega
      · rw [sumP_c (g := fun i => if i = c then d else 0) 8 0 (fun i _ _ => by unfold shr; rw [if_neg w1, if_neg w2, if_neg w3]), sumP_1, if_pos (show 0 ≤ c ∧ c < 0 + ((8 : Nat) : Int) by omega)]
def KD (A1 B : qA) (T x : Int) : Prop := 0 ≤ B 50 x ∧ B 50 x ≤ fC_needOf x A1 ∧ B 50 x ≤ T
def KI (A1 B : qA) (T l c : Int) (m : Nat) : Prop := frm [45, 46, 50] [] A1 B ∧ (∀ i, 0 ≤ i → i < 8 → 0 ≤ B 46 i) ∧ (∀ i, 0 ≤ i → i < 8 → 0 ≤ B 45 i) ∧ sumP (B 45) 8 0 + sumP (B 46) m c ≤ T ∧ ∀ x, 0 ≤ x → x < 48 → (x % 6 < l ∨ (x % 6 = l ∧ x / 6 < c)) → KD A1 B T x
theorem keptC_row {A1 : qA} {T l : Int} (hn : ∀ x, 0 ≤ fC_needOf x A1) (l0 : 0 ≤ l) (l1 : l < 6) : ∀ (m F : Nat) (c : Int) (B : qA), c + m = 8 → 0 ≤ c → KI A1 B T l c m → ∃ C, fC_pourB_L (F + m + 1) 26 [l, c] B = fC_pourB_L F 9 [l + 1] C ∧ KI A1 C T l 8 0
  | 0, F, c, B, hm, c0, h => by
    rw [fC_pourB_L26]
    unfold fC_pourB_c26
    simp only [qlet_e]
    rw [if_neg (show ¬ c < 8 by omega)]
    rw [show c = 8 by omega] at h
    exact ⟨B, rfl, h⟩
  | m + 1, F, c, B, hm, c0, h => by
    obtain ⟨f, h46, h45, hs, hd⟩ := h
    have c1 : c < 8 := by omega
    have v0 := h46 c c0 c1
    obtain ⟨C, p1, p2, p3, p4⟩ := pstepB (F + m + 1) B c0 c1 l0 l1 v0
    have hne : fC_needOf (6 * c + l) B = fC_needOf (6 * c + l) A1 := need_k (6 * c + l) (frm_f f rfl) (frm_a f rfl) (frm_a f rfl)
    have hn1 := hn (6 * c + l)
    rw [hne] at p3 p4
    have hk : 0 ≤ (if B 46 c = 0 then 0 else min (B 46 c) (fC_needOf (6 * c + l) A1)) ∧ (if B 46 c = 0 then 0 else min (B 46 c) (fC_needOf (6 * c + l) A1)) ≤ B 46 c ∧ (if B 46 c = 0 then 0 else min (B 46 c) (fC_needOf (6 * c + l) A1)) ≤ fC_needOf (6 * c + l) A1 := by
      by_cases q : B 46 c = 0
      · rw [if_pos q]; omega
      · rw [if_neg q]; omega
    generalize (if B 46 c = 0 then 0 else min (B 46 c) (fC_needOf (6 * c + l) A1)) = k at p3 p4 hk
    generalize (if 0 ≤ 6 * c + l ∧ 6 * c + l ≤ 47 ∧ HG B (6 * c + l) then B 5 (6 * c + l) else 0) = w at p3
    have e46 : C 46 = B 46 := frm_a p2 rfl
    have hs45 : sumP (C 45) 8 0 = sumP (B 45) 8 0 + (B 46 c - k) := by
      rw [sumP_add (B 45) (shr (B 46 c - k) c w) (C 45) 8 0 (fun i _ _ => p3 i), shr_sum w c0 c1]
    have hs46 : sumP (B 46) (m + 1) c = B 46 c + sumP (B 46) m (c + 1) := rfl
    have n45 := sumP_nn (f := B 45) 8 0 (fun i i0 i1 => h45 i i0 (by omega))
    have n46 := sumP_nn (f := B 46) m (c + 1) (fun i i0 i1 => h46 i (by omega) (by omega))
    rw [show F + (m + 1) + 1 = (F + m + 1) + 1 by omega, p1]
    refine keptC_row hn l0 l1 m F (c + 1) C (by omega) (by omega) ⟨frm_c f p2 rfl, fun i i0 i1 => by rw [e46]; exact h46 i i0 i1, fun i i0 i1 => ?_, by rw [hs45, e46]; omega, fun x x0 x1 hx => ?_⟩
    · have hs := shr_bd (d := B 46 c - k) (c := c) (w := w) (i := i) (by omega)
      have := h45 i i0 i1
      rw [p3 i]
      omega
    · unfold KD
      rw [p4 x]
      by_cases q : x = 6 * c + l
      · rw [if_pos q, q]
        exact ⟨hk.1, hk.2.2, by omega⟩
      · rw [if_neg q]
        exact hd x x0 x1 (by omega)
def KL (A1 B : qA) (T l : Int) : Prop := frm [45, 46, 50] [] A1 B ∧ (∀ i, 0 ≤ i → i < 8 → 0 ≤ B 45 i) ∧ sumP (B 45) 8 0 ≤ T ∧ ∀ x, 0 ≤ x → x < 48 → x % 6 < l → KD A1 B T x
theorem keptC_lev {A1 : qA} {T : Int} (hn : ∀ x, 0 ≤ fC_needOf x A1) : ∀ (m F : Nat) (l : Int) (B : qA), l + m = 6 → 0 ≤ l → KL A1 B T l → KL A1 (fC_pourB_L (F + 10 * m + 1) 9 [l] B) T 6
  | 0, F, l, B, hm, l0, h => by
    rw [fC_pourB_L9]
    unfold fC_pourB_c9
    simp only [qlet_e]
    rw [if_neg (show ¬ l < 6 by omega)]
    rw [show l = 6 by omega] at h
    exact h
  | m + 1, F, l, B, hm, l0, h => by
    obtain ⟨f, h45, hs, hd⟩ := h
    have l1 : l < 6 := by omega
    rw [show F + 10 * (m + 1) + 1 = (F + 10 * m + 1 + 8 + 1) + 1 by omega, fC_pourB_L9]
    unfold fC_pourB_c9
    simp only [qlet_e]
    rw [if_pos l1]
    obtain ⟨z1, z2⟩ := fill45_is (qcpy B 45 0 46 0 8)
    have q46 : ∀ i, 0 ≤ i → i < 8 → (qcpy B 45 0 46 0 8) 46 i = B 45 i := fun i i0 i1 => by
      unfold qcpy
      rw [if_pos ⟨rfl, i0, by omega⟩]
      congr 1
      omega
    have fq : frm [45, 46, 50] [] B (qcpy B 45 0 46 0 8) := frm_cp (frm_0 _ _ _) rfl rfl
    have e46 : ∀ i, 0 ≤ i → i < 8 → (fC_fill45z 0 (qcpy B 45 0 46 0 8)) 46 i = B 45 i := fun i i0 i1 => by rw [frm_a z1 (r := 46) rfl]; exact q46 i i0 i1
    obtain ⟨C, c1, c2⟩ := keptC_row (T := T) hn l0 l1 8 (F + 10 * m + 1) 0 (fC_fill45z 0 (qcpy B 45 0 46 0 8)) (by decide) (by decide) ⟨frm_c (frm_c f fq rfl) z1 rfl, fun i i0 i1 => by rw [e46 i i0 i1]; exact h45 i i0 i1, fun i i0 i1 => by rw [z2 i i0 i1]; exact Int.le_refl _, by
      rw [sumP_0 ((fC_fill45z 0 (qcpy B 45 0 46 0 8)) 45) 8 0 (fun i i0 i1 => z2 i i0 (by omega)), sumP_c (g := B 45) 8 0 (fun i i0 i1 => e46 i i0 (by omega))]
      omega, fun x x0 x1 hx => by
      have := hd x x0 x1 (by omega)
      unfold KD at this ⊢
      rw [frm_a z1 (r := 50) rfl, cp_a (r' := 50) (A := B) (r0 := 45) (sp := 0) (r := 46) (dp := 0) (n := 8) rfl rfl]
      exact this⟩
    rw [c1]
    obtain ⟨g1, g2, g3, g4, g5⟩ := c2
    have g4 : sumP (C 45) 8 0 + 0 ≤ T := g4
    exact keptC_lev hn m F (l + 1) C (by omega) (by omega) ⟨g1, g3, by omega, fun x x0 x1 hx => g5 x x0 x1 (by omega)⟩
theorem keptC {A1 : qA} {T : Int} (hn : ∀ x, 0 ≤ fC_needOf x A1) (hv : ∀ i, 0 ≤ i → i < 8 → 0 ≤ A1 49 i) (hT : sumP (A1 49) 8 0 ≤ T) : ∀ x, 0 ≤ x → x < 48 → KD A1 (fC_pourB A1) T x := by
  have q45 : ∀ i, 0 ≤ i → i < 8 → (qcpy A1 49 0 45 0 8) 45 i = A1 49 i := fun i i0 i1 => by
    unfold qcpy
    rw [if_pos ⟨rfl, i0, by omega⟩]
    congr 1
    omega
  have fq : frm [45, 46, 50] [] A1 (qcpy A1 49 0 45 0 8) := frm_cp (frm_0 _ _ _) rfl rfl
  obtain ⟨F, g⟩ : ∃ F : Nat, F + 10 * 6 + 1 = 100000 := ⟨99939, by decide⟩
  have key := keptC_lev (T := T) hn 6 F 0 (qcpy A1 49 0 45 0 8) (by decide) (by decide) ⟨fq, fun i i0 i1 => by rw [q45 i i0 i1]; exact hv i i0 i1, by rw [sumP_c (g := A1 49) 8 0 (fun i i0 i1 => q45 i i0 (by omega))]; exact hT, fun x x0 x1 hx => by omega⟩
  rw [g] at key
  rw [pourB_e]
  exact fun x x0 x1 => key.2.2.2 x x0 x1 (by omega)
