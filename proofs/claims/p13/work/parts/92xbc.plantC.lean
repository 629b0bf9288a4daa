/-! PLANTING, in the class -/
def plA (G : qA) (n : Nat) (A : qA) : Prop := (A 63 (fd 6) = n ∧ n ≤ 5) ∧ (∀ i : Int, 0 ≤ i → i < n → A 65 i = G 0 i ∧ 0 ≤ G 0 i ∧ G 0 i < 48 ∧ ∀ c, G 0 i - G 0 i % 6 ≤ c → c ≤ G 0 i → G 6 c ≠ 0) ∧ (∀ k, 0 ≤ k → k ≤ 5 → A 12 k = G 1 k ∧ A 13 k = G 2 k) ∧ (∀ x, 0 ≤ x → x ≤ 7 → A 18 x = G 3 x) ∧ ∀ c, 0 ≤ c → c < 48 → G 6 c ≠ 0 → 0 ≤ G 4 c ∧ G 5 c ≤ 2147483647
def plI (G : qA) (A B : qA) (pre : List Int) : Prop := frm [64, 66, 67] [(63, 7)] A B ∧ rw_ (B 66) pre.length 0 = pre ∧ ∀ c, 0 ≤ c → c < 48 → G 6 c ≠ 0 → B 64 c = G 5 c - (G 4 c + plS (G 0) (G 1) c 0 pre)
def bs (n : Nat) (B : qA) : Int × List Int := (B 63 (fd 7), rw_ (B 67) n 0)
theorem burden_L {c h : Int} (c1 : c < 48) : ∀ (m F : Nat) (k : Int) (B : qA), k + m = c + 1 → 0 ≤ k → (∀ i, k ≤ i → i ≤ c → rng (B 64 i - h)) → frm [64] [] B (fC_burden_L (F + m + 1) 6 [c, h, k] B) ∧ ∀ i, (fC_burden_L (F + m + 1) 6 [c, h, k] B) 64 i = if k ≤ i ∧ i ≤ c then B 64 i - h else B 64 i
  | 0, F, k, B, hm, k0, hr => by
    rw [fC_burden_L6]
    unfold fC_burden_c6
    simp only [qlet]
    rw [if_pos (show c < k by omega)]
    exact ⟨frm_0 _ _ _, fun i => by rw [if_neg (fun z => by omega)]⟩
  | m + 1, F, k, B, hm, k0, hr => by
    rw [show F + (m + 1) + 1 = (F + m + 1) + 1 by omega, fC_burden_L6]
    unfold fC_burden_c6
    simp only [qlet]
    rw [if_neg (show ¬ c < k by omega), show wI (k + 1) = k + 1 from wI_id ⟨by omega, by omega⟩, wI_id (hr k (Int.le_refl _) (by omega))]
    obtain ⟨r1, r2⟩ := burden_L c1 m F (k + 1) (qu B 64 k (B 64 k - h)) (by omega) (by omega) (fun i i0 i1 => by
      rw [qu_nj (by omega)]
      exact hr i (by omega) i1)
    refine ⟨frm_c (frm_q (frm_0 _ _ _) rfl) r1 rfl, fun i => ?_⟩
    rw [r2 i]
    by_cases q : i = k
    · rw [q, if_neg (fun z => by omega), qu_at, if_pos ⟨Int.le_refl _, by omega⟩]
    · rw [qu_nj q]
      by_cases w : k + 1 ≤ i ∧ i ≤ c
      · rw [if_pos w, if_pos ⟨by omega, w.2⟩]
      · rw [if_neg w, if_neg (fun z => w ⟨by omega, z.2⟩)]
theorem burden_is {c h : Int} (c0 : 0 ≤ c) (c1 : c < 48) {B : qA} (hr : ∀ i, c - c % 6 ≤ i → i ≤ c → rng (B 64 i - h)) : frm [64] [] B (fC_burden c h B) ∧ ∀ i, (fC_burden c h B) 64 i = if c - c % 6 ≤ i ∧ i ≤ c then B 64 i - h else B 64 i := by
  unfold fC_burden
  simp only [qlet]
  rw [qm_nn c0, show wI (c - c % 6) = c - c % 6 from wI_id ⟨by omega, by omega⟩]
  have key := burden_L (h := h) c1 (c % 6 + 1).toNat (99999 - (c % 6 + 1).toNat) (c - c % 6) B (by omega) (by omega) hr
  rw [show 99999 - (c % 6 + 1).toNat + (c % 6 + 1).toNat + 1 = 100000 by omega] at key
  exact key
theorem fits_L {c h : Int} {A : qA} : ∀ (m F : Nat) (k : Int), k + m = c + 1 → (fC_fits_L (F + m + 1) 23 [c, h, k] A = 1 ∧ ∀ i, k ≤ i → i ≤ c → h ≤ A 64 i) ∨ (fC_fits_L (F + m + 1) 23 [c, h, k] A = 0 ∧ ∃ i, k ≤ i ∧ i ≤ c ∧ A 64 i < h)
  | 0, F, k, hm => by
    rw [fC_fits_L23]
    unfold fC_fits_c23
    simp only [qlet]
    rw [if_pos (show c < k by omega)]
    exact Or.inl ⟨rfl, fun i _ _ => by omega⟩
  | m + 1, F, k, hm => by
    rw [show F + (m + 1) + 1 = (F + m + 1) + 1 by omega, fC_fits_L23]
    unfold fC_fits_c23
    simp only [qlet]
    rw [if_neg (show ¬ c < k by omega)]
    by_cases q : A 64 k < h
    · rw [if_pos q]
      exact Or.inr ⟨rfl, k, Int.le_refl _, by omega, q⟩
    · rw [if_neg q]
      rcases fits_L (c := c) (h := h) (A := A) m F (k + 1) (by omega) with ⟨a, b⟩ | ⟨a, i, i0, i1, i2⟩
      · refine Or.inl ⟨a, fun i i0 i1 => ?_⟩
        by_cases e : i = k
        · rw [e]; omega
        · exact b i (by omega) i1
      · exact Or.inr ⟨a, i, by omega, i1, i2⟩
/-- a kind fits where the row with it may be -/
theorem fits_is {G : qA} {n : Nat} {A B : qA} {pre : List Int} {k : Int} (hA : plA G n A) (hp : rpos G) (hI : plI G A B pre) (hl : pre.length < n) (hf : fea G pre) (k0 : 0 ≤ k) (k1 : k ≤ 5) : (fC_fits (G 0 pre.length) (G 1 k) B = 1 ∧ fea G (pre ++ [k])) ∨ (fC_fits (G 0 pre.length) (G 1 k) B = 0 ∧ ¬ fea G (pre ++ [k])) := by
  obtain ⟨⟨a1, a2⟩, a3, a4, a5, a6⟩ := hA
  obtain ⟨i1, i2, i3⟩ := hI
  obtain ⟨e65, c0, c1, hup⟩ := a3 (pre.length : Int) (by omega) (by omega)
  have h18 : B 18 (G 0 pre.length / 6) = G 3 (G 0 pre.length / 6) := by
    rw [frm_a i1 (r := 18) rfl]
    exact a5 _ (by omega) (by omega)
  unfold fC_fits
  simp only [qlet]
  generalize hc : G 0 (pre.length : Int) = c at e65 c0 c1 hup h18 ⊢
  rw [qd_nn c0, qm_nn c0, h18]
  have hk := hp k k0 k1
  by_cases q : G 3 (c / 6) < G 1 k * (6 - c % 6)
  · rw [if_pos q]
    refine Or.inr ⟨rfl, fun z => ?_⟩
    have := ((rfS_a _ _ _ k pre 0).mp z.1).2 (by omega)
    rw [Int.zero_add, hc] at this
    omega
  · rw [if_neg q]
    have key := fits_L (c := c) (h := G 1 k) (A := B) (c % 6 + 1).toNat (99999 - (c % 6 + 1).toNat) (c - c % 6) (by omega)
    rw [show 99999 - (c % 6 + 1).toNat + (c % 6 + 1).toNat + 1 = 100000 by omega] at key
    rcases key with ⟨a, b⟩ | ⟨a, i, j0, j1, j2⟩
    · refine Or.inl ⟨a, (rfS_a _ _ _ k pre 0).mpr ⟨hf.1, fun _ => by rw [Int.zero_add, hc]; omega⟩, fun x x0 x1 z => ?_⟩
      rw [plS_a, Int.zero_add, hc]
      have h3 := i3 x x0 x1 z
      by_cases w : k ≠ -1 ∧ x ≤ c ∧ c / 6 = x / 6
      · rw [if_pos w]
        have := b x (by omega) w.2.1
        omega
      · rw [if_neg w]
        have := hf.2 x x0 x1 z
        omega
    · refine Or.inr ⟨a, fun z => ?_⟩
      have h3 := i3 i (by omega) (by omega) (hup i j0 j1)
      have h4 := z.2 i (by omega) (by omega) (hup i j0 j1)
      rw [plS_a, Int.zero_add, hc, if_pos ⟨by omega, j1, by omega⟩] at h4
      omega
theorem leaf_is {G : qA} {n : Nat} {A B : qA} {pre : List Int} (hA : plA G n A) (hI : plI G A B pre) (hl : pre.length = n) (hf : fea G pre) : ∀ C, C = (if B 63 (fd 7) < wtS (G 1) (G 2) pre then qcpy (qu B 63 (fd 7) (wtS (G 1) (G 2) pre)) 66 0 67 0 5 else B) → plI G A C pre ∧ bs n C = stp G pre (bs n B) := by
  intro C hC
  obtain ⟨i1, i2, i3⟩ := hI
  by_cases q : B 63 (fd 7) < wtS (G 1) (G 2) pre
  · rw [if_pos q] at hC
    have f : frm [67] [(63, 7)] B C := by
      rw [hC]
      exact frm_cp (frm_qf (frm_0 _ _ _) rfl) rfl rfl
    have e67 : ∀ i, 0 ≤ i → i < 5 → C 67 i = B 66 i := fun i j0 j1 => by
      rw [hC]
      unfold qcpy
      rw [if_pos ⟨rfl, j0, by omega⟩, qu_ne (show (66 : Nat) ≠ 63 by decide)]
      congr 1
      omega
    have e63 : C 63 (fd 7) = wtS (G 1) (G 2) pre := by
      rw [hC, cp_a (r' := 63) (A := qu B 63 (fd 7) (wtS (G 1) (G 2) pre)) (r0 := 66) (sp := 0) (r := 67) (dp := 0) (n := 5) rfl rfl]
      exact qu_at _ _ _ _
    refine ⟨⟨frm_c i1 f rfl, by rw [frm_a f (r := 66) rfl]; exact i2, fun c c0 c1 z => by rw [frm_a f (r := 64) rfl]; exact i3 c c0 c1 z⟩, ?_⟩
    rw [stp_y ⟨hf, q⟩]
    unfold bs
    rw [e63, rw_e n 0 (g := B 66) (fun j j0 j1 => e67 j j0 (by have := hA.1.2; omega)), ← hl, i2]
  · rw [if_neg q] at hC
    subst hC
    refine ⟨⟨i1, i2, i3⟩, ?_⟩
    rw [stp_n (fun z => q z.2)]
theorem try5_is {G : qA} {n : Nat} {A B : qA} {pre : List Int} (hA : plA G n A) (hI : plI G A B pre) (hl : pre.length = 5) (hn : 5 ≤ n) (hf : fea G pre) : plI G A (fC_tryCell5 5 (wtS (G 1) (G 2) pre) B) pre ∧ bs n (fC_tryCell5 5 (wtS (G 1) (G 2) pre) B) = blk G (n - 5) pre (bs n B) := by
  have := hA.1.2
  rw [show n - 5 = 0 by omega]
  exact leaf_is hA hI (by omega) hf _ rfl
