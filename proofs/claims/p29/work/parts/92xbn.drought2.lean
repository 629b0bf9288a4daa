/-! DROUGHT: the table of growths -/
theorem RC1_k {A1 A2 : qA} {c k : Int} (h : RC1 A1 A2 c) : RC1 (qu A1 9 c k) (qu A2 10 c k) c := by
  have q9 : ∀ r, r ≠ 9 → (qu A1 9 c k) r = A1 r := fun r h => qu_ne h
  have q10 : ∀ r, r ≠ 10 → (qu A2 10 c k) r = A2 r := fun r h => qu_ne h
  have hg : HG (qu A1 9 c k) c ↔ HG A1 c := HG_k (by rw [q9 1 (by decide)]) c
  unfold RC1 RN RK at h ⊢
  rw [hg, q9 2 (by decide), q9 3 (by decide), q9 4 (by decide), q9 5 (by decide), q9 6 (by decide), q9 7 (by decide), q9 8 (by decide), q9 10 (by decide), q10 1 (by decide), q10 2 (by decide), q10 3 (by decide), q10 4 (by decide), q10 5 (by decide), q10 6 (by decide), q10 7 (by decide), q10 8 (by decide), q10 9 (by decide), qu_at, qu_at]
  exact ⟨⟨h.1.1, fun z => ⟨(h.1.2 z).1, (h.1.2 z).2.1, rfl⟩⟩, h.2⟩
def gvv (A1 : qA) (c k : Int) : Int := if 0 ≤ c ∧ c ≤ 47 ∧ HG A1 c ∧ 0 ≤ A1 6 c ∧ A1 6 c ≤ 5 then (fC_growth c k A1).1 else 0
def EW : List Nat := [35, 43, 78, 51]
def EXv : List (Nat × Nat) := [(36, 9), (71, 9)]
/-- growth hangs on the garden and on what is kept -/
theorem grow_same {A1 A2 B : qA} {c k : Int} (h : GR A1 A2) (f : frm EW EXv A1 B) (h0 : 0 ≤ c) (h1 : c < 48) (hh : A2 1 c ≠ 0) : (fC_growth c k B).1 = (fC_growth c k A1).1 ∧ (0 ≤ (fC_growth c k A1).1 ∧ (fC_growth c k A1).1 ≤ 50) ∧ frm [35, 43, 78] [(36, 9), (71, 9)] B (fC_growth c k B).2 := by
  have hc := h.1.2 c h0 h1 trivial
  have fm : frm [10] [] A2 (qu A2 10 c k) := frm_q (frm_0 _ _ _) rfl
  have hcB : RC1 B A2 c := ⟨RN_e hc.1 (frm_f f (r := 1) (j := 0) rfl) rfl (at_f f rfl) (at_0 _ _ _), RK_e hc.2 rfl (at_f f rfl) (at_0 _ _ _)⟩
  have hh2 : (qu A2 10 c k) 1 c ≠ 0 := by rw [qu_ne (by decide)]; exact hh
  have gA := growth_k (k := k) (RC1_k hc) (RB_f h.2.1 (frm_0 [] [] A1) fm rfl rfl) (RL_f h.2.2.2 (frm_0 [] [] A1) fm rfl rfl) h0 h1 hh2
  have gB := growth_k (k := k) (RC1_k hcB) (RB_f h.2.1 f fm rfl rfl) (RL_f h.2.2.2 f fm rfl rfl) h0 h1 hh2
  refine ⟨gB.1.trans gA.1.symm, ?_, gB.2.2.1⟩
  rw [gA.1]
  exact gA.2.1
theorem need_k {A B : qA} (c : Int) (e1 : B 1 (fd 0) = A 1 (fd 0)) (e6 : B 6 = A 6) (e11 : B 11 = A 11) : fC_needOf c B = fC_needOf c A := by
  have hg := HG_k e1 c
  unfold fC_needOf
  simp only [qlet_e]
  rw [e6, e11]
  by_cases q : 0 ≤ c ∧ c ≤ 47 ∧ HG A c ∧ 0 ≤ A 6 c ∧ A 6 c ≤ 5
  · rw [if_pos q, if_pos ⟨q.1, q.2.1, hg.mpr q.2.2.1, q.2.2.2⟩]
  · rw [if_neg q, if_neg (fun z => q ⟨z.1, z.2.1, hg.mp z.2.2.1, z.2.2.2⟩)]
theorem need_bd {A1 A2 : qA} {c : Int} (hb : RB A1 A2) : 0 ≤ fC_needOf c A1 ∧ fC_needOf c A1 ≤ 20 := by
  unfold fC_needOf
  simp only [qlet_e]
  split
  · next q =>
    have := hb.1 (A1 6 c) q.2.2.2.1 (by omega)
    rw [this.1.1]
    exact this.2.1
  · exact ⟨by decide, by decide⟩
theorem rk14 {A1 A2 : qA} {c t d : Int} (h : GR A1 A2) (c0 : 0 ≤ c) (c1 : c < 48) (t1 : t ≤ 20) : ∀ (m F : Nat) (k : Int) (B : qA), k + m = t + 1 → 0 ≤ k → frm EW EXv A1 B → ∃ C, fC_reckonGrowth_L (F + m + 1) 14 [d, c, t, k] B = fC_reckonGrowth_L F 2 [d, c + 1] C ∧ frm EW EXv A1 C ∧ ∀ j, C 51 j = if c * 21 + k ≤ j ∧ j ≤ c * 21 + t then gvv A1 c (j - c * 21) else B 51 j := by
  intro m
  induction m with
  | zero =>
    intro F k B hk k0 f
    rw [show F + 0 + 1 = F + 1 by omega, fC_reckonGrowth_L14]
    unfold fC_reckonGrowth_c14
    simp only [qlet_e]
    rw [if_pos (show t < k by omega)]
    exact ⟨B, rfl, f, fun j => by rw [if_neg (fun z => by omega)]⟩
  | succ m ih =>
    intro F k B hk k0 f
    rw [show F + (m + 1) + 1 = (F + m + 1) + 1 by omega, fC_reckonGrowth_L14]
    unfold fC_reckonGrowth_c14
    simp only [qlet_e, qlp]
    rw [if_neg (show ¬ t < k by omega), if_neg (show ¬ 20 < k by omega)]
    have e1 : B 1 (fd 0) = A1 1 (fd 0) := frm_f f rfl
    have e6 : B 6 = A1 6 := frm_a f rfl
    have hg := HG_k e1 c
    have hgo : ∀ C v, frm EW EXv A1 C → C 51 = B 51 → v = gvv A1 c k → ∃ D, fC_reckonGrowth_L (F + m + 1) 14 [d, c, t, k + 1] (qu C 51 (c * 21 + k) v) = fC_reckonGrowth_L F 2 [d, c + 1] D ∧ frm EW EXv A1 D ∧ ∀ j, D 51 j = if c * 21 + k ≤ j ∧ j ≤ c * 21 + t then gvv A1 c (j - c * 21) else B 51 j := by
      intro C v fC hC hv
      obtain ⟨D, d1, d2, d3⟩ := ih F (k + 1) (qu C 51 (c * 21 + k) v) (by omega) (by omega) (frm_q fC rfl)
      refine ⟨D, d1, d2, fun j => ?_⟩
      rw [d3 j]
      by_cases q : j = c * 21 + k
      · rw [if_neg (fun z => by omega), if_pos ⟨by omega, by omega⟩, q, qu_at, hv, show c * 21 + k - c * 21 = k by omega]
      · rw [qu_nj q, hC]
        by_cases w : c * 21 + (k + 1) ≤ j ∧ j ≤ c * 21 + t
        · rw [if_pos w, if_pos ⟨by omega, w.2⟩]
        · rw [if_neg w, if_neg (fun z => w ⟨by omega, z.2⟩)]
    by_cases q : 0 ≤ c ∧ c ≤ 47 ∧ HG A1 c ∧ 0 ≤ A1 6 c ∧ A1 6 c ≤ 5
    · have q2 : 0 ≤ c ∧ c ≤ 47 ∧ HG B c ∧ 0 ≤ B 6 c ∧ B 6 c ≤ 5 := by rw [hg, e6]; exact q
      rw [if_pos q2]
      have hh : A2 1 c ≠ 0 := (h.1.2 c c0 c1 trivial).1.1.mp q.2.2.1
      obtain ⟨g1, g2, g3⟩ := grow_same (k := k) h f c0 c1 hh
      refine hgo _ _ (frm_c f g3 rfl) (frm_a g3 rfl) ?_
      unfold gvv
      rw [if_pos q, g1]
    · have q2 : ¬ (0 ≤ c ∧ c ≤ 47 ∧ HG B c ∧ 0 ≤ B 6 c ∧ B 6 c ≤ 5) := by rw [hg, e6]; exact q
      rw [if_neg q2]
      refine hgo _ _ f rfl ?_
      unfold gvv
      rw [if_neg q]
theorem rk2 {A1 A2 : qA} {d : Int} (h : GR A1 A2) (d0 : 0 ≤ d) : ∀ (m F : Nat) (c : Int) (B : qA), c + m = 48 → 0 ≤ c → 24 * m < F → frm EW EXv A1 B → ∃ C, fC_reckonGrowth_L F 2 [d, c] B = C ∧ frm EW EXv A1 C ∧ (∀ j, j < c * 21 → C 51 j = B 51 j) ∧ ∀ x k, c ≤ x → x < 48 → 0 ≤ k → k ≤ min d (fC_needOf x A1) → C 51 (x * 21 + k) = gvv A1 x k := by
  intro m
  induction m with
  | zero =>
    intro F c B hc c0 hF f
    obtain ⟨F, rfl⟩ : ∃ F', F = F' + 1 := ⟨F - 1, by omega⟩
    rw [fC_reckonGrowth_L2]
    unfold fC_reckonGrowth_c2
    rw [if_neg (by omega)]
    exact ⟨B, rfl, f, fun _ _ => rfl, fun x k x0 x1 => by omega⟩
  | succ m ih =>
    intro F c B hc c0 hF f
    obtain ⟨F, rfl⟩ : ∃ F', F = F' + 1 := ⟨F - 1, by omega⟩
    rw [fC_reckonGrowth_L2]
    unfold fC_reckonGrowth_c2
    simp only [qlet_e]
    have hn := need_k (A := A1) (B := B) c (frm_f f rfl) (frm_a f rfl) (frm_a f rfl)
    have hb := need_bd (c := c) h.2.1
    rw [if_pos (by omega), hn]
    obtain ⟨C, e, f1, t1⟩ := rk14 (d := d) (t := min d (fC_needOf c A1)) h c0 (by omega) (by omega) (min d (fC_needOf c A1) + 1).toNat (F - (min d (fC_needOf c A1) + 1).toNat - 1) 0 B (by omega) (by omega) f
    rw [show F - (min d (fC_needOf c A1) + 1).toNat - 1 + (min d (fC_needOf c A1) + 1).toNat + 1 = F by omega] at e
    rw [e]
    obtain ⟨D, e2, f2, l2, t2⟩ := ih (F - (min d (fC_needOf c A1) + 1).toNat - 1) (c + 1) C (by omega) (by omega) (by omega) f1
    refine ⟨D, e2, f2, fun j hj => ?_, fun x k x0 x1 k0 k1 => ?_⟩
    · rw [l2 j (by omega), t1 j, if_neg (fun z => by omega)]
    · by_cases q : x = c
      · rw [q] at k1 ⊢
        rw [l2 _ (by omega), t1, if_pos ⟨by omega, by omega⟩, show c * 21 + k - c * 21 = k by omega]
      · exact t2 x k (by omega) x1 k0 k1
theorem reckon_is {A1 A2 : qA} {d : Int} (h : GR A1 A2) (d0 : 0 ≤ d) {B : qA} (f : frm EW EXv A1 B) : frm EW EXv A1 (fC_reckonGrowth d B) ∧ ∀ x k, 0 ≤ x → x < 48 → 0 ≤ k → k ≤ min d (fC_needOf x A1) → (fC_reckonGrowth d B) 51 (x * 21 + k) = gvv A1 x k := by
  obtain ⟨C, e, f1, _, t⟩ := rk2 h d0 48 100000 0 B (by omega) (by omega) (by omega) f
  have e : fC_reckonGrowth d B = C := e
  rw [e]
  exact ⟨f1, t⟩
