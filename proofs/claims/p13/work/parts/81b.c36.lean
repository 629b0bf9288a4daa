/-! THE CLASS READS SO -/
def aC36 (A A' : qA) (q : Int) (c : List (Int × Int)) : Prop := A' 54 (fd 3) = q ∧ A' 36 (fd 8) = A 36 (fd 8) + c.length ∧ cat (A' 37) (A' 38) (A 36 (fd 8)) c ∧ (∀ k, k < A 36 (fd 8) → A' 37 k = A 37 k ∧ A' 38 k = A 38 k) ∧ frm [37, 38] [(36, 8), (54, 3), (54, 4)] A A'
def rC36 (A : qA) (x : pR) (y : Int × qA) : Prop := match x with
  | .inl f => y.1 = 0 ∧ y.2 54 (fd 4) = f
  | .inr (q, c) => y.1 = 1 ∧ aC36 A y.2 q c
def prC36 (n : Int) (lk : Int → Int) (A : qA) : Prop := (A 54 (fd 2) = n ∧ n ≤ 200 ∧ (∀ p, 0 ≤ p → lk p = if p < n then A 53 p else -1)) ∧ 0 ≤ A 36 (fd 8) ∧ A 36 (fd 8) ≤ A 54 (fd 3) ∧ A 54 (fd 3) ≤ n
theorem aC36_0 (A : qA) : aC36 A A (A 54 (fd 3)) [] := ⟨rfl, by simp, trivial, fun _ _ => ⟨rfl, rfl⟩, frm_0 _ _ _⟩
theorem aC36_tr {A A1 A2 : qA} {q q' : Int} {c c' : List (Int × Int)} (h : aC36 A A1 q c) (h2 : aC36 A1 A2 q' c') : aC36 A A2 q' (c ++ c') := by
  obtain ⟨_, b, e, d, f⟩ := h
  obtain ⟨a', b', e', d', f'⟩ := h2
  refine ⟨a', by rw [b', b, List.length_append]; omega, cat_app.mpr ⟨cat_ext e (fun k _ h1 => d' k (by omega)), ?_⟩, fun k hk => ?_, frm_c f f' rfl⟩
  · rw [← b]; exact e'
  · have h1 := d k hk
    have h2 := d' k (by omega)
    exact ⟨h2.1.trans h1.1, h2.2.trans h1.2⟩
theorem aC36_go {A A1 : qA} {q : Int} {c : List (Int × Int)} (h : aC36 A A1 q c) (v : Int) : aC36 A (qu A1 54 (fd 3) v) v c := by
  have := aC36_tr h (A2 := qu A1 54 (fd 3) v) (q' := v) (c' := []) ⟨qu_at _ _ _ _, by simp [qu_is], trivial, fun k _ => ⟨by simp [qu_is], by simp [qu_is]⟩, frm_sf (frm_0 _ _ _) rfl rfl⟩
  rwa [List.append_nil] at this
theorem aC36_put {A A1 : qA} {q g x : Int} {c : List (Int × Int)} (h : aC36 A A1 q c) (hs : A 36 (fd 8) + c.length < 200) : aC36 A (fC_putr36 g x A1) q (c ++ [(g, x)]) := by
  have hz : A1 36 (fd 8) < 200 := by have := h.2.1; omega
  have e : fC_putr36 g x A1 = qu (qu (qu A1 37 (A1 36 (fd 8)) g) 38 (A1 36 (fd 8)) x) 36 (fd 8) (A1 36 (fd 8) + 1) := by
    unfold fC_putr36
    simp only [qlet]
    rw [if_pos hz]
  rw [e]
  refine aC36_tr h ⟨?_, ?_, ?_, ?_, ?_⟩
  · simp [qu_is, h.1]
  · simp [qu_is]
  · refine ⟨⟨?_, ?_⟩, trivial⟩
    · simp [qu_is]
    · simp [qu_is]
  · intro k hk
    have hk' : k ≠ A1 36 (fd 8) := by omega
    constructor <;> simp [qu_is, hk']
  · exact frm_sf (frm_s (frm_s (frm_0 _ _ _) rfl rfl) rfl rfl) rfl rfl
theorem prC36_a {n : Int} {lk : Int → Int} {A A1 : qA} {q : Int} {c : List (Int × Int)} (hp : prC36 n lk A) (h : aC36 A A1 q c) (h1 : A 54 (fd 3) + c.length ≤ q) (h2 : q ≤ n) : prC36 n lk A1 := by
  obtain ⟨⟨a, b, e⟩, d, f, g⟩ := hp
  obtain ⟨a', b', e', d', f'⟩ := h
  refine ⟨⟨?_, b, ?_⟩, ?_, ?_, ?_⟩
  · rw [frm_f f' (r := 54) (j := 2) rfl]; exact a
  · rw [frm_a f' (r := 53) rfl]; exact e
  · omega
  · omega
  · omega
theorem look36 {n : Int} {lk : Int → Int} {A : qA} (hp : prC36 n lk A) : fC_look_36 A = lk (A 54 (fd 3)) := by
  obtain ⟨⟨a, b, e⟩, d, f, g⟩ := hp
  unfold fC_look_36
  simp only [qlet]
  rw [e _ (by omega), a]
theorem put36_54 (g x : Int) (A : qA) : (fC_putr36 g x A) 54 = A 54 := by
  unfold fC_putr36
  simp only [qlet]
  split <;> funext i <;> simp [qu_is]
theorem fail36 (x : Int) (A : qA) : (fC_fail_36 x A) 54 (fd 4) = (-1000) * x - A 54 (fd 3) := by
  unfold fC_fail_36
  simp only [qlet]
  exact qu_at _ _ _ _
theorem rC36_exp {n : Int} {lk : Int → Int} {A A1 : qA} {q g : Int} {c : List (Int × Int)} (hp : prC36 n lk A1) (h : aC36 A A1 q c) : rC36 A (if lk q = g then .inr (q + 1, c) else .inl (-1000 - q)) (fC_expect_36 g A1) := by
  have hq := h.1
  unfold fC_expect_36
  simp only [qlet]
  rw [look36 hp, hq]
  by_cases hg : lk q = g
  · rw [if_pos hg, if_pos hg]
    exact ⟨rfl, aC36_go h _⟩
  · rw [if_neg hg, if_neg hg]
    refine ⟨rfl, ?_⟩
    show (fC_fail_36 1 A1) 54 (fd 4) = -1000 - q
    rw [fail36, hq]
    omega
theorem num36 {n : Int} {lk : Int → Int} (hlk : lkok n lk) {A0 : qA} (hA : prC36 n lk A0) : ∀ (k F : Nat) (x i : Int) (B : qA) (p : Int), (k : Int) + i = 5 → k < F → aC36 A0 B p [] → A0 54 (fd 3) ≤ p → p ≤ n → (A0 54 (fd 3) < p ∨ (48 ≤ lk p ∧ lk p ≤ 57)) → 0 ≤ i → rC36 A0 (p_num lk k p x) (fC_readNumber_36_L F 4 [x, i] B)
  | _, 0, _, _, _, _, _, h, _, _, _, _, _ => absurd h (Nat.not_lt_zero _)
  | 0, F + 1, x, i, B, p, hk, hF, hB, h1, h2, h3, h4 => by
    have hBp := hB.1
    have hpB := prC36_a hA hB (by simp only [List.length_nil]; omega) h2
    show rC36 A0 (if 48 ≤ lk p ∧ lk p ≤ 57 then .inl (-2000 - p) else .inr (p, [(48, x)])) (fC_readNumber_36_c4 (fC_readNumber_36_L F) x i B)
    unfold fC_readNumber_36_c4
    simp only [qlet]
    rw [if_neg (show ¬ i < 5 by omega), look36 hpB, hBp]
    by_cases hd : 48 ≤ lk p ∧ lk p ≤ 57
    · rw [if_pos hd, if_pos hd]
      refine ⟨rfl, ?_⟩
      show (fC_fail_36 2 B) 54 (fd 4) = _
      rw [fail36, hBp]; omega
    · rw [if_neg hd, if_neg hd]
      refine ⟨rfl, aC36_put (c := []) hB ?_⟩
      have := hA.1.2.1
      have := hA.2.2.1
      simp only [List.length_nil]; omega
  | k + 1, F + 1, x, i, B, p, hk, hF, hB, h1, h2, h3, h4 => by
    have hBp := hB.1
    have hpB := prC36_a hA hB (by simp only [List.length_nil]; omega) h2
    have hA0 := hA.2.1
    have hA1 := hA.2.2.1
    show rC36 A0 (if 48 ≤ lk p ∧ lk p ≤ 57 then p_num lk k (p + 1) (10 * x + lk p - 48) else .inr (p, [(48, x)])) (fC_readNumber_36_c4 (fC_readNumber_36_L F) x i B)
    unfold fC_readNumber_36_c4
    simp only [qlet]
    rw [if_pos (show i < 5 by omega), look36 hpB, hBp]
    by_cases hd : 48 ≤ lk p ∧ lk p ≤ 57
    · rw [if_pos hd, if_pos hd]
      have hlt := lk_in hlk (p := p) (by omega) (by omega)
      exact num36 hlk hA k F _ (i + 1) _ (p + 1) (by omega) (by omega) (aC36_go hB _) (by omega) (by omega) (Or.inl (by omega)) (by omega)
    · rw [if_neg hd, if_neg hd, if_neg hd]
      refine ⟨rfl, aC36_put (c := []) hB ?_⟩
      have := hA.1.2.1
      simp only [List.length_nil]; omega
/-- terms and sums -/
theorem stopTerm36 (pf : Int → qA → Int × qA) (F : Nat) (d i : Int) (B : qA) : fC_readTerm_36_B_L pf (F + 1) 6 [d, 0, i] B = (0, B) := by
  show fC_readTerm_36_B_c6 pf _ d 0 i B = _
  unfold fC_readTerm_36_B_c6
  split
  · rw [if_pos rfl]
  · rfl
theorem binTerm36 {n : Int} {lk : Int → Int} {d : Int} {f : Int → pR} {pf : Int → qA → Int × qA} (hlk : lkok n lk) (hok : ∀ p, 0 ≤ p → p ≤ n → pOk n p (f p)) (hf : ∀ A, prC36 n lk A → rC36 A (f (A 54 (fd 3))) (pf d A)) {A0 : qA} (hA : prC36 n lk A0) : ∀ (k F : Nat) (i : Int) (B : qA) (p : Int) (c : List (Int × Int)), (k : Int) + i = 200 → k + 1 < F → aC36 A0 B p c → A0 54 (fd 3) + c.length ≤ p → p ≤ n → 0 ≤ i → rC36 A0 (p_bin lk 4 f k p c) (fC_readTerm_36_B_L pf F 6 [d, 1, i] B)
  | _, 0, _, _, _, _, _, h, _, _, _, _ => absurd h (Nat.not_lt_zero _)
  | 0, F + 1, i, B, p, c, hk, hF, hB, h1, h2, h3 => by
    show rC36 A0 (.inr (p, c)) (fC_readTerm_36_B_c6 pf (fC_readTerm_36_B_L pf F) d 1 i B)
    unfold fC_readTerm_36_B_c6
    rw [if_neg (show ¬ i < 200 by omega)]
    exact ⟨rfl, hB⟩
  | k + 1, F + 1, i, B, p, c, hk, hF, hB, h1, h2, h3 => by
    have hBp := hB.1
    have hpB := prC36_a hA hB h1 h2
    have hA0 := hA.2.1
    have hA1 := hA.2.2.1
    have hn := hA.1.2.1
    show rC36 A0 (if qone 4 (lk p) = 0 then .inr (p, c) else p_bind (f (p + 1)) fun q c' => p_bin lk 4 f k q (c ++ c' ++ [(lk p, 0)])) (fC_readTerm_36_B_c6 pf (fC_readTerm_36_B_L pf F) d 1 i B)
    unfold fC_readTerm_36_B_c6
    simp only [qlet, qlp]
    rw [if_pos (show i < 200 by omega), if_neg (show ¬ (1 : Int) = 0 by decide), look36 hpB, hBp]
    by_cases hq : qone 4 (lk p) = 0
    · rw [if_pos hq, if_pos hq]
      exact ⟨rfl, hB⟩
    · rw [if_neg hq, if_neg hq]
      have hin := lk_one hlk (p := p) (by omega) hq
      have hgo := aC36_go hB (p + 1)
      have h9 := hf (qu B 54 (fd 3) (p + 1)) (prC36_a hA hgo (by omega) (by omega))
      rw [qu_at] at h9
      have h8 := hok (p + 1) (by omega) (by omega)
      generalize pf d (qu B 54 (fd 3) (p + 1)) = y at h9 ⊢
      obtain ⟨F, rfl⟩ : ∃ F', F = F' + 1 := ⟨F - 1, by omega⟩
      rcases hx : f (p + 1) with e | ⟨q, c'⟩
      · rw [hx] at h9
        rw [h9.1, stopTerm36]
        refine ⟨rfl, ?_⟩
        show (fC_putr36 (lk p) 0 y.2) 54 (fd 4) = e
        rw [put36_54]
        exact h9.2
      · rw [hx] at h9 h8
        obtain ⟨a1, a2, a3⟩ := h8
        obtain ⟨b1, b2⟩ := h9
        rw [b1]
        refine binTerm36 hlk hok hf hA k (F + 1) (i + 1) _ q _ (by omega) (by omega) (aC36_put (aC36_tr hgo b2) ?_) ?_ a2 (by omega)
        · rw [List.length_append]; omega
        · simp only [List.length_append, List.length_cons, List.length_nil]; omega
theorem term36 {n : Int} {lk : Int → Int} {d : Int} {f : Int → pR} {pf : Int → qA → Int × qA} (hlk : lkok n lk) (hok : ∀ p, 0 ≤ p → p ≤ n → pOk n p (f p)) (hf : ∀ A, prC36 n lk A → rC36 A (f (A 54 (fd 3))) (pf d A)) {A : qA} (hA : prC36 n lk A) : rC36 A (p_bind (f (A 54 (fd 3))) fun q c => p_bin lk 4 f 200 q c) (fC_readTerm_36_B pf d A) := by
  have h9 := hf A hA
  have hA0 := hA.2.1
  have hA1 := hA.2.2.1
  have h8 := hok (A 54 (fd 3)) (by omega) hA.2.2.2
  unfold fC_readTerm_36_B
  simp only [qlp]
  rcases hx : f (A 54 (fd 3)) with e | ⟨q, c⟩
  · rw [hx] at h9
    rw [h9.1]
    show rC36 A (.inl e) (fC_readTerm_36_B_L pf (99999 + 1) 6 [d, 0, 0] (pf d A).2)
    rw [stopTerm36]
    exact ⟨rfl, h9.2⟩
  · rw [hx] at h9 h8
    rw [h9.1]
    exact binTerm36 hlk hok hf hA 200 100000 0 _ q c (by decide) (by decide) h9.2 (by have := h8.2.2; omega) h8.2.1 (by decide)
theorem stopSum36 (pf : Int → qA → Int × qA) (F : Nat) (d i : Int) (B : qA) : fC_readSum_36_B_L pf (F + 1) 6 [d, 0, i] B = (0, B) := by
  show fC_readSum_36_B_c6 pf _ d 0 i B = _
  unfold fC_readSum_36_B_c6
  split
  · rw [if_pos rfl]
  · rfl
theorem binSum36 {n : Int} {lk : Int → Int} {d : Int} {f : Int → pR} {pf : Int → qA → Int × qA} (hlk : lkok n lk) (hok : ∀ p, 0 ≤ p → p ≤ n → pOk n p (f p)) (hf : ∀ A, prC36 n lk A → rC36 A (f (A 54 (fd 3))) (pf d A)) {A0 : qA} (hA : prC36 n lk A0) : ∀ (k F : Nat) (i : Int) (B : qA) (p : Int) (c : List (Int × Int)), (k : Int) + i = 200 → k + 1 < F → aC36 A0 B p c → A0 54 (fd 3) + c.length ≤ p → p ≤ n → 0 ≤ i → rC36 A0 (p_bin lk 3 f k p c) (fC_readSum_36_B_L pf F 6 [d, 1, i] B)
  | _, 0, _, _, _, _, _, h, _, _, _, _ => absurd h (Nat.not_lt_zero _)
  | 0, F + 1, i, B, p, c, hk, hF, hB, h1, h2, h3 => by
    show rC36 A0 (.inr (p, c)) (fC_readSum_36_B_c6 pf (fC_readSum_36_B_L pf F) d 1 i B)
    unfold fC_readSum_36_B_c6
    rw [if_neg (show ¬ i < 200 by omega)]
    exact ⟨rfl, hB⟩
  | k + 1, F + 1, i, B, p, c, hk, hF, hB, h1, h2, h3 => by
    have hBp := hB.1
    have hpB := prC36_a hA hB h1 h2
    have hA0 := hA.2.1
    have hA1 := hA.2.2.1
    have hn := hA.1.2.1
    show rC36 A0 (if qone 3 (lk p) = 0 then .inr (p, c) else p_bind (f (p + 1)) fun q c' => p_bin lk 3 f k q (c ++ c' ++ [(lk p, 0)])) (fC_readSum_36_B_c6 pf (fC_readSum_36_B_L pf F) d 1 i B)
    unfold fC_readSum_36_B_c6
    simp only [qlet, qlp]
    rw [if_pos (show i < 200 by omega), if_neg (show ¬ (1 : Int) = 0 by decide), look36 hpB, hBp]
    by_cases hq : qone 3 (lk p) = 0
    · rw [if_pos hq, if_pos hq]
      exact ⟨rfl, hB⟩
    · rw [if_neg hq, if_neg hq]
      have hin := lk_one hlk (p := p) (by omega) hq
      have hgo := aC36_go hB (p + 1)
      have h9 := hf (qu B 54 (fd 3) (p + 1)) (prC36_a hA hgo (by omega) (by omega))
      rw [qu_at] at h9
      have h8 := hok (p + 1) (by omega) (by omega)
      generalize pf d (qu B 54 (fd 3) (p + 1)) = y at h9 ⊢
      obtain ⟨F, rfl⟩ : ∃ F', F = F' + 1 := ⟨F - 1, by omega⟩
      rcases hx : f (p + 1) with e | ⟨q, c'⟩
      · rw [hx] at h9
        rw [h9.1, stopSum36]
        refine ⟨rfl, ?_⟩
        show (fC_putr36 (lk p) 0 y.2) 54 (fd 4) = e
        rw [put36_54]
        exact h9.2
      · rw [hx] at h9 h8
        obtain ⟨a1, a2, a3⟩ := h8
        obtain ⟨b1, b2⟩ := h9
        rw [b1]
        refine binSum36 hlk hok hf hA k (F + 1) (i + 1) _ q _ (by omega) (by omega) (aC36_put (aC36_tr hgo b2) ?_) ?_ a2 (by omega)
        · rw [List.length_append]; omega
        · simp only [List.length_append, List.length_cons, List.length_nil]; omega
theorem sum36 {n : Int} {lk : Int → Int} {d : Int} {f : Int → pR} {pf : Int → qA → Int × qA} (hlk : lkok n lk) (hok : ∀ p, 0 ≤ p → p ≤ n → pOk n p (f p)) (hf : ∀ A, prC36 n lk A → rC36 A (f (A 54 (fd 3))) (pf d A)) {A : qA} (hA : prC36 n lk A) : rC36 A (p_bind (f (A 54 (fd 3))) fun q c => p_bin lk 3 f 200 q c) (fC_readSum_36_B pf d A) := by
  have h9 := hf A hA
  have hA0 := hA.2.1
  have hA1 := hA.2.2.1
  have h8 := hok (A 54 (fd 3)) (by omega) hA.2.2.2
  unfold fC_readSum_36_B
  simp only [qlp]
  rcases hx : f (A 54 (fd 3)) with e | ⟨q, c⟩
  · rw [hx] at h9
    rw [h9.1]
    show rC36 A (.inl e) (fC_readSum_36_B_L pf (99999 + 1) 6 [d, 0, 0] (pf d A).2)
    rw [stopSum36]
    exact ⟨rfl, h9.2⟩
  · rw [hx] at h9 h8
    rw [h9.1]
    exact binSum36 hlk hok hf hA 200 100000 0 _ q c (by decide) (by decide) h9.2 (by have := h8.2.2; omega) h8.2.1 (by decide)
/-- one thing in brackets -/
theorem clo36 {n : Int} {lk : Int → Int} {g : Int} {A A1 : qA} {x : pR} {y : Int × qA} (hA : prC36 n lk A) (h0 : A1 = qu A 54 (fd 3) (A 54 (fd 3) + 1)) (hok : pOk n (A 54 (fd 3) + 1) x) (h : rC36 A1 x y) : rC36 A (p_clo lk x g) (if y.1 = 0 then (0, y.2) else (if (fC_expect_36 g y.2).1 = 0 then (0, (fC_expect_36 g y.2).2) else (1, (fC_expect_36 g y.2).2))) := by
  have hgo := aC36_go (aC36_0 A) (A 54 (fd 3) + 1)
  rw [← h0] at hgo
  rcases x with e | ⟨q, c⟩
  · rw [if_pos h.1]
    exact ⟨rfl, h.2⟩
  · obtain ⟨a1, a2, a3⟩ := hok
    have hac := aC36_tr hgo h.2
    rw [List.nil_append] at hac
    have hp1 := prC36_a hA hac (by omega) a2
    have h9 := rC36_exp (g := g) hp1 hac
    rw [if_neg (show ¬ y.1 = 0 by rw [h.1]; decide)]
    show rC36 A (if lk q = g then .inr (q + 1, c) else .inl (-1000 - q)) _
    generalize fC_expect_36 g y.2 = w at h9 ⊢
    by_cases hg : lk q = g
    · rw [if_pos hg] at h9 ⊢
      rw [if_neg (show ¬ w.1 = 0 by rw [h9.1]; decide)]
      exact ⟨rfl, h9.2⟩
    · rw [if_neg hg] at h9 ⊢
      rw [if_pos h9.1]
      exact ⟨rfl, h9.2⟩
theorem ent36 {d : Int} {A : qA} (hd : d < 6) : fC_enter_36 d A = qu A 54 (fd 3) (A 54 (fd 3) + 1) := by
  unfold fC_enter_36
  simp only [qlet]
  rw [if_pos hd]
theorem ent36_6 {d : Int} {A : qA} (hd : ¬ d < 6) : (fC_enter_36 d A) 54 (fd 4) = -5000 - A 54 (fd 3) := by
  unfold fC_enter_36
  simp only [qlet]
  rw [if_neg hd, fail36]
  omega
theorem facR36 {n : Int} {lk : Int → Int} (hlk : lkok n lk) {A : qA} (hA : prC36 n lk A) {op : Int → pR} {y : Int × qA} (hy : lk (A 54 (fd 3)) = 91 → rC36 A (op (A 54 (fd 3))) y) : rC36 A (p_fac lk op (A 54 (fd 3))) (qlet (fC_look_36 A) fun r18 => (if r18 = 91 then y else (if 48 ≤ r18 ∧ r18 ≤ 57 then qlp (fC_readNumber_36 A) fun r36 A32 => (r36, A32) else qlet (qone 0 r18) fun v51 => (if v51 = 0 then qlet (fC_fail_36 1 A) fun A97 => (0, A97) else qlet (qix 0 r18) fun v59 => qlet (fC_putr36 107 v59 A) fun A62 => qlet (A62 54 (fd 3)) fun v76 => qlet (v76 + 1) fun v79 => qlet (qu A62 54 (fd 3) v79) fun A81 => (1, A81))))) := by
  have hA0 := hA.2.1
  have hA1 := hA.2.2.1
  have hn := hA.1.2.1
  unfold p_fac
  simp only [qlet, qlp]
  rw [look36 hA]
  by_cases h1 : lk (A 54 (fd 3)) = 91
  · rw [if_pos h1, if_pos h1]
    exact hy h1
  · rw [if_neg h1, if_neg h1]
    by_cases h2 : 48 ≤ lk (A 54 (fd 3)) ∧ lk (A 54 (fd 3)) ≤ 57
    · rw [if_pos h2, if_pos h2]
      exact num36 hlk hA 5 100000 0 0 A _ (by decide) (by decide) (aC36_0 A) (Int.le_refl _) hA.2.2.2 (Or.inr h2) (Int.le_refl _)
    · rw [if_neg h2, if_neg h2]
      by_cases h3 : qone 0 (lk (A 54 (fd 3))) = 0
      · rw [if_pos h3, if_pos h3]
        refine ⟨rfl, ?_⟩
        show (fC_fail_36 1 A) 54 (fd 4) = _
        rw [fail36]; omega
      · rw [if_neg h3, if_neg h3]
        have hin := lk_one hlk (p := A 54 (fd 3)) (by omega) h3
        rw [put36_54]
        refine ⟨rfl, aC36_go (aC36_put (c := []) (aC36_0 A) ?_) _⟩
        simp only [List.length_nil]; omega
theorem fac36 {n : Int} {lk : Int → Int} (hlk : lkok n lk) : ∀ (e : Nat) (A : qA), prC36 n lk A → rC36 A (p_facE lk e (A 54 (fd 3))) (fC_readFactor_36 e (6 - (e : Int)) A)
  | 0, A, hA => by
    show rC36 A (p_fac lk (fun p => .inl (-5000 - p)) (A 54 (fd 3))) (fC_readFactorZ_36_B (6 - ((0 : Nat) : Int)) A)
    unfold fC_readFactorZ_36_B
    refine facR36 hlk hA (fun _ => ?_)
    simp only [qlet]
    exact ⟨rfl, ent36_6 (d := 6 - ((0 : Nat) : Int)) (by decide)⟩
  | e + 1, A, hA => by
    show rC36 A (p_fac lk (fun p => p_clo lk (p_sumF lk (p_facE lk e) (p + 1)) 93) (A 54 (fd 3))) (fC_readFactorS_36_B (fC_readSum_36 e) (6 - ((e + 1 : Nat) : Int)) A)
    unfold fC_readFactorS_36_B
    refine facR36 hlk hA (fun h91 => ?_)
    have hA0 := hA.2.1
    have hA1 := hA.2.2.1
    have hin := lk_in hlk (p := A 54 (fd 3)) (by omega) (by omega)
    simp only [qlet, qlp]
    rw [ent36 (by omega), show 6 - ((e + 1 : Nat) : Int) + 1 = 6 - (e : Int) by omega]
    have hgo := aC36_go (aC36_0 A) (A 54 (fd 3) + 1)
    have hp1 := prC36_a hA hgo (by simp only [List.length_nil]; omega) (by omega)
    refine clo36 hA rfl (pOk_sumE hlk e _ (by omega) (by omega)) ?_
    have h9 := sum36 hlk (pOk_termE hlk e) (fun A' hA' => term36 hlk (pOk_facE hlk e) (fac36 hlk e) hA') hp1
    rw [qu_at] at h9
    exact h9
theorem termE36 {n : Int} {lk : Int → Int} (hlk : lkok n lk) (e : Nat) {A : qA} (hA : prC36 n lk A) : rC36 A (p_termE lk e (A 54 (fd 3))) (fC_readTerm_36 e (6 - (e : Int)) A) := term36 hlk (pOk_facE hlk e) (fac36 hlk e) hA
theorem sumE36 {n : Int} {lk : Int → Int} (hlk : lkok n lk) (e : Nat) {A : qA} (hA : prC36 n lk A) : rC36 A (p_sumE lk e (A 54 (fd 3))) (fC_readSum_36 e (6 - (e : Int)) A) := sum36 hlk (pOk_termE hlk e) (fun _ hA' => termE36 hlk e hA') hA
theorem cmpE36 {n : Int} {lk : Int → Int} (hlk : lkok n lk) (e : Nat) {A : qA} (hA : prC36 n lk A) : rC36 A (p_cmp lk (p_sumE lk e) (A 54 (fd 3))) (fC_readComparison_36 e (6 - (e : Int)) A) := by
  have h9 := sumE36 hlk e hA
  have hA0 := hA.2.1
  have hA1 := hA.2.2.1
  have hn := hA.1.2.1
  have h8 := pOk_sumE hlk e (A 54 (fd 3)) (by omega) hA.2.2.2
  show rC36 A _ (fC_readComparison_36_B (fC_readSum_36 e) (6 - (e : Int)) A)
  unfold fC_readComparison_36_B p_cmp
  simp only [qlet, qlp]
  generalize fC_readSum_36 e (6 - (e : Int)) A = y at h9 ⊢
  rcases hx : p_sumE lk e (A 54 (fd 3)) with f | ⟨q, c⟩
  · rw [hx] at h9
    rw [if_pos h9.1]
    exact ⟨rfl, h9.2⟩
  · rw [hx] at h9 h8
    obtain ⟨a1, a2, a3⟩ := h8
    obtain ⟨b1, b2⟩ := h9
    have hp1 := prC36_a hA b2 (by omega) a2
    have hyp := b2.1
    rw [if_neg (show ¬ y.1 = 0 by rw [b1]; decide), look36 hp1, hyp]
    show rC36 A (if qone 2 (lk q) = 0 then .inl (-1000 - q) else p_bind (p_sumE lk e (q + 1)) fun q' c' => .inr (q', c ++ c' ++ [(lk q, 0)])) _
    by_cases hq : qone 2 (lk q) = 0
    · rw [if_pos hq, if_pos hq]
      refine ⟨rfl, ?_⟩
      show (fC_fail_36 1 y.2) 54 (fd 4) = _
      rw [fail36, hyp]; omega
    · rw [if_neg hq, if_neg hq]
      have hin := lk_one hlk (p := q) (by omega) hq
      have hgo := aC36_go b2 (q + 1)
      have hp2 := prC36_a hA hgo (by omega) (by omega)
      have h9 := sumE36 hlk e hp2
      rw [qu_at] at h9
      have h8 := pOk_sumE hlk e (q + 1) (by omega) (by omega)
      generalize fC_readSum_36 e (6 - (e : Int)) (qu y.2 54 (fd 3) (q + 1)) = w at h9 ⊢
      rcases hx : p_sumE lk e (q + 1) with f | ⟨q', c'⟩
      · rw [hx] at h9
        rw [if_pos h9.1]
        exact ⟨rfl, h9.2⟩
      · rw [hx] at h9 h8
        obtain ⟨a1', a2', a3'⟩ := h8
        rw [if_neg (show ¬ w.1 = 0 by rw [h9.1]; decide)]
        exact ⟨rfl, aC36_put (aC36_tr hgo h9.2) (by rw [List.length_append]; omega)⟩
/-- parts and conditions -/
theorem jump36 {n : Int} {lk : Int → Int} {A : qA} (hA : prC36 n lk A) (h : A 54 (fd 3) < n) : fC_readJump_36 A = (A 36 (fd 8), qu (fC_putr36 (lk (A 54 (fd 3))) 0 A) 54 (fd 3) (A 54 (fd 3) + 1)) := by
  have hA1 := hA.2.2.1
  have hn := hA.1.2.1
  unfold fC_readJump_36
  simp only [qlet]
  rw [look36 hA, put36_54, Int.min_eq_left (by omega)]
/-- where a jump goes is told when what it leaves out is read -/
theorem land36 {A0 B A1 A2 : qA} {q g : Int} {c c' : List (Int × Int)} (hB : aC36 A0 B (B 54 (fd 3)) c) (hs : A0 36 (fd 8) + c.length < 200) (h1 : A1 = qu (fC_putr36 g 0 B) 54 (fd 3) (B 54 (fd 3) + 1)) (h2 : aC36 A1 A2 q c') : aC36 A0 (qu A2 38 (B 36 (fd 8)) (A2 36 (fd 8))) q (c ++ [(g, A0 36 (fd 8) + c.length + 1 + c'.length)] ++ c') := by
  have hz := hB.2.1
  have hp := aC36_go (aC36_put (g := g) (x := 0) hB hs) (B 54 (fd 3) + 1)
  rw [← h1] at hp
  have ht := aC36_tr hp h2
  obtain ⟨a1, a2, a3, a4, a5⟩ := ht
  have hsz : A2 36 (fd 8) = A0 36 (fd 8) + c.length + 1 + c'.length := by
    rw [a2]; simp only [List.length_append, List.length_cons, List.length_nil]; omega
  refine ⟨?_, ?_, ?_, ?_, ?_⟩
  · rw [← a1]; simp [qu_is]
  · rw [show (qu A2 38 (B 36 (fd 8)) (A2 36 (fd 8))) 36 (fd 8) = A2 36 (fd 8) by simp [qu_is], a2]
    simp only [List.length_append, List.length_cons, List.length_nil]
  · obtain ⟨u1, u2⟩ := cat_app.mp a3
    obtain ⟨u3, u4⟩ := cat_app.mp u1
    rw [show (c ++ [(g, (0 : Int))]).length = (c ++ [(g, A0 36 (fd 8) + (c.length : Int) + 1 + (c'.length : Int))]).length by simp] at u2
    refine cat_app.mpr ⟨cat_app.mpr ⟨cat_ext u3 (fun k k0 k1 => ⟨by simp [qu_is], by rw [qu_nj (by omega)]⟩), ⟨⟨?_, ?_⟩, trivial⟩⟩, cat_ext u2 (fun k k0 k1 => ⟨by simp [qu_is], ?_⟩)⟩
    · rw [show (qu A2 38 (B 36 (fd 8)) (A2 36 (fd 8))) 37 = A2 37 by funext i; simp [qu_is]]
      exact u4.1.1
    · rw [← hz, qu_at, hz]
      exact hsz
    · rw [qu_nj]
      simp only [List.length_append, List.length_cons, List.length_nil] at k0
      omega
  · intro k hk
    have := a4 k hk
    refine ⟨by rw [← this.1]; simp [qu_is], ?_⟩
    rw [qu_nj (by omega)]
    exact this.2
  · exact frm_s a5 rfl rfl
theorem stopPart36 (pf : Int → qA → Int × qA) (F : Nat) (d i : Int) (B : qA) : fC_readPart_36_B_L pf (F + 1) 6 [d, 0, i] B = (0, B) := by
  show fC_readPart_36_B_c6 pf _ d 0 i B = _
  unfold fC_readPart_36_B_c6
  split
  · rw [if_pos rfl]
  · rfl
theorem jmpPart36 {n : Int} {lk : Int → Int} {d z : Int} {f : Int → Int → pR} {pf : Int → qA → Int × qA} (hlk : lkok n lk) (hok : ∀ y p, 0 ≤ p → p ≤ n → pOk n p (f y p)) (hf : ∀ A, prC36 n lk A → rC36 A (f (A 36 (fd 8)) (A 54 (fd 3))) (pf d A)) {A0 : qA} (hA : prC36 n lk A0) (hz : A0 36 (fd 8) = z) : ∀ (k F : Nat) (i : Int) (B : qA) (p : Int) (c : List (Int × Int)), (k : Int) + i = 200 → k + 1 < F → aC36 A0 B p c → A0 54 (fd 3) + c.length ≤ p → A0 54 (fd 3) < p → p ≤ n → 0 ≤ i → rC36 A0 (p_jmp lk 38 f z k p c) (fC_readPart_36_B_L pf F 6 [d, 1, i] B)
  | _, 0, _, _, _, _, _, h, _, _, _, _, _ => absurd h (Nat.not_lt_zero _)
  | 0, F + 1, i, B, p, c, hk, hF, hB, h1, h1', h2, h3 => by
    show rC36 A0 (.inr (p, c)) (fC_readPart_36_B_c6 pf (fC_readPart_36_B_L pf F) d 1 i B)
    unfold fC_readPart_36_B_c6
    rw [if_neg (show ¬ i < 200 by omega)]
    exact ⟨rfl, hB⟩
  | k + 1, F + 1, i, B, p, c, hk, hF, hB, h1, h1', h2, h3 => by
    have hBp := hB.1
    have hBz := hB.2.1
    have hpB := prC36_a hA hB h1 h2
    have hA0 := hA.2.1
    have hA1 := hA.2.2.1
    have hn := hA.1.2.1
    show rC36 A0 (if lk p = 38 then p_bind (f (z + c.length + 1) (p + 1)) fun q c' => p_jmp lk 38 f z k q (c ++ [(38, z + c.length + 1 + c'.length)] ++ c') else .inr (p, c)) (fC_readPart_36_B_c6 pf (fC_readPart_36_B_L pf F) d 1 i B)
    unfold fC_readPart_36_B_c6
    simp only [qlet, qlp]
    rw [if_pos (show i < 200 by omega), if_neg (show ¬ (1 : Int) = 0 by decide), look36 hpB, hBp]
    by_cases hq : lk p = 38
    · rw [if_pos hq, if_pos hq]
      have hin := lk_in hlk (p := p) (by omega) (by omega)
      rw [jump36 hpB (by omega), hBp, hq]
      have hgo := aC36_go (aC36_put (g := 38) (x := 0) hB (by omega)) (p + 1)
      have hp2 := prC36_a hA hgo (by simp only [List.length_append, List.length_cons, List.length_nil]; omega) (by omega)
      have h9 := hf _ hp2
      have hzz : (qu (fC_putr36 38 0 B) 54 (fd 3) (p + 1)) 36 (fd 8) = z + c.length + 1 := by
        rw [hgo.2.1, hz]; simp only [List.length_append, List.length_cons, List.length_nil]; omega
      rw [qu_at, hzz] at h9
      have h8 := hok (z + c.length + 1) (p + 1) (by omega) (by omega)
      show rC36 A0 _ (fC_readPart_36_B_L pf F 6 [d, (pf d (qu (fC_putr36 38 0 B) 54 (fd 3) (p + 1))).1, i + 1] (qu (pf d (qu (fC_putr36 38 0 B) 54 (fd 3) (p + 1))).2 38 (B 36 (fd 8)) ((pf d (qu (fC_putr36 38 0 B) 54 (fd 3) (p + 1))).2 36 (fd 8))))
      generalize hy : pf d (qu (fC_putr36 38 0 B) 54 (fd 3) (p + 1)) = y at h9 ⊢
      obtain ⟨F, rfl⟩ : ∃ F', F = F' + 1 := ⟨F - 1, by omega⟩
      rcases hx : f (z + c.length + 1) (p + 1) with e | ⟨q, c'⟩
      · rw [hx] at h9
        rw [h9.1, stopPart36]
        refine ⟨rfl, ?_⟩
        rw [← h9.2]
        simp [qu_is]
      · rw [hx] at h9 h8
        obtain ⟨a1, a2, a3⟩ := h8
        obtain ⟨b1, b2⟩ := h9
        rw [b1]
        have hl := land36 (g := 38) (A0 := A0) (B := B) (c := c) (by rw [hBp]; exact hB) (by omega) (by rw [hBp]) b2
        rw [hz] at hl
        exact jmpPart36 hlk hok hf hA hz k (F + 1) (i + 1) _ q _ (by omega) (by omega) hl (by simp only [List.length_append, List.length_cons, List.length_nil]; omega) (by omega) a2 (by omega)
    · rw [if_neg hq, if_neg hq]
      exact ⟨rfl, hB⟩
theorem part36 {n : Int} {lk : Int → Int} {d : Int} {f : Int → Int → pR} {pf : Int → qA → Int × qA} (hlk : lkok n lk) (hok : ∀ y p, 0 ≤ p → p ≤ n → pOk n p (f y p)) (hf : ∀ A, prC36 n lk A → rC36 A (f (A 36 (fd 8)) (A 54 (fd 3))) (pf d A)) {A : qA} (hA : prC36 n lk A) : rC36 A (p_bind (f (A 36 (fd 8)) (A 54 (fd 3))) fun q c => p_jmp lk 38 f (A 36 (fd 8)) 200 q c) (fC_readPart_36_B pf d A) := by
  have h9 := hf A hA
  have hA0 := hA.2.1
  have hA1 := hA.2.2.1
  have h8 := hok (A 36 (fd 8)) (A 54 (fd 3)) (by omega) hA.2.2.2
  unfold fC_readPart_36_B
  simp only [qlp]
  rcases hx : f (A 36 (fd 8)) (A 54 (fd 3)) with e | ⟨q, c⟩
  · rw [hx] at h9
    rw [h9.1]
    show rC36 A (.inl e) (fC_readPart_36_B_L pf (99999 + 1) 6 [d, 0, 0] (pf d A).2)
    rw [stopPart36]
    exact ⟨rfl, h9.2⟩
  · rw [hx] at h9 h8
    rw [h9.1]
    exact jmpPart36 hlk hok hf hA rfl 200 100000 0 _ q c (by decide) (by decide) h9.2 (by have := h8.2.2; omega) h8.1 h8.2.1 (by decide)
theorem stopCondition36 (pf : Int → qA → Int × qA) (F : Nat) (d i : Int) (B : qA) : fC_readCondition_36_B_L pf (F + 1) 6 [d, 0, i] B = (0, B) := by
  show fC_readCondition_36_B_c6 pf _ d 0 i B = _
  unfold fC_readCondition_36_B_c6
  split
  · rw [if_pos rfl]
  · rfl
theorem jmpCondition36 {n : Int} {lk : Int → Int} {d z : Int} {f : Int → Int → pR} {pf : Int → qA → Int × qA} (hlk : lkok n lk) (hok : ∀ y p, 0 ≤ p → p ≤ n → pOk n p (f y p)) (hf : ∀ A, prC36 n lk A → rC36 A (f (A 36 (fd 8)) (A 54 (fd 3))) (pf d A)) {A0 : qA} (hA : prC36 n lk A0) (hz : A0 36 (fd 8) = z) : ∀ (k F : Nat) (i : Int) (B : qA) (p : Int) (c : List (Int × Int)), (k : Int) + i = 200 → k + 1 < F → aC36 A0 B p c → A0 54 (fd 3) + c.length ≤ p → A0 54 (fd 3) < p → p ≤ n → 0 ≤ i → rC36 A0 (p_jmp lk 124 f z k p c) (fC_readCondition_36_B_L pf F 6 [d, 1, i] B)
  | _, 0, _, _, _, _, _, h, _, _, _, _, _ => absurd h (Nat.not_lt_zero _)
  | 0, F + 1, i, B, p, c, hk, hF, hB, h1, h1', h2, h3 => by
    show rC36 A0 (.inr (p, c)) (fC_readCondition_36_B_c6 pf (fC_readCondition_36_B_L pf F) d 1 i B)
    unfold fC_readCondition_36_B_c6
    rw [if_neg (show ¬ i < 200 by omega)]
    exact ⟨rfl, hB⟩
  | k + 1, F + 1, i, B, p, c, hk, hF, hB, h1, h1', h2, h3 => by
    have hBp := hB.1
    have hBz := hB.2.1
    have hpB := prC36_a hA hB h1 h2
    have hA0 := hA.2.1
    have hA1 := hA.2.2.1
    have hn := hA.1.2.1
    show rC36 A0 (if lk p = 124 then p_bind (f (z + c.length + 1) (p + 1)) fun q c' => p_jmp lk 124 f z k q (c ++ [(124, z + c.length + 1 + c'.length)] ++ c') else .inr (p, c)) (fC_readCondition_36_B_c6 pf (fC_readCondition_36_B_L pf F) d 1 i B)
    unfold fC_readCondition_36_B_c6
    simp only [qlet, qlp]
    rw [if_pos (show i < 200 by omega), if_neg (show ¬ (1 : Int) = 0 by decide), look36 hpB, hBp]
    by_cases hq : lk p = 124
    · rw [if_pos hq, if_pos hq]
      have hin := lk_in hlk (p := p) (by omega) (by omega)
      rw [jump36 hpB (by omega), hBp, hq]
      have hgo := aC36_go (aC36_put (g := 124) (x := 0) hB (by omega)) (p + 1)
      have hp2 := prC36_a hA hgo (by simp only [List.length_append, List.length_cons, List.length_nil]; omega) (by omega)
      have h9 := hf _ hp2
      have hzz : (qu (fC_putr36 124 0 B) 54 (fd 3) (p + 1)) 36 (fd 8) = z + c.length + 1 := by
        rw [hgo.2.1, hz]; simp only [List.length_append, List.length_cons, List.length_nil]; omega
      rw [qu_at, hzz] at h9
      have h8 := hok (z + c.length + 1) (p + 1) (by omega) (by omega)
      show rC36 A0 _ (fC_readCondition_36_B_L pf F 6 [d, (pf d (qu (fC_putr36 124 0 B) 54 (fd 3) (p + 1))).1, i + 1] (qu (pf d (qu (fC_putr36 124 0 B) 54 (fd 3) (p + 1))).2 38 (B 36 (fd 8)) ((pf d (qu (fC_putr36 124 0 B) 54 (fd 3) (p + 1))).2 36 (fd 8))))
      generalize hy : pf d (qu (fC_putr36 124 0 B) 54 (fd 3) (p + 1)) = y at h9 ⊢
      obtain ⟨F, rfl⟩ : ∃ F', F = F' + 1 := ⟨F - 1, by omega⟩
      rcases hx : f (z + c.length + 1) (p + 1) with e | ⟨q, c'⟩
      · rw [hx] at h9
        rw [h9.1, stopCondition36]
        refine ⟨rfl, ?_⟩
        rw [← h9.2]
        simp [qu_is]
      · rw [hx] at h9 h8
        obtain ⟨a1, a2, a3⟩ := h8
        obtain ⟨b1, b2⟩ := h9
        rw [b1]
        have hl := land36 (g := 124) (A0 := A0) (B := B) (c := c) (by rw [hBp]; exact hB) (by omega) (by rw [hBp]) b2
        rw [hz] at hl
        exact jmpCondition36 hlk hok hf hA hz k (F + 1) (i + 1) _ q _ (by omega) (by omega) hl (by simp only [List.length_append, List.length_cons, List.length_nil]; omega) (by omega) a2 (by omega)
    · rw [if_neg hq, if_neg hq]
      exact ⟨rfl, hB⟩
theorem cond36 {n : Int} {lk : Int → Int} {d : Int} {f : Int → Int → pR} {pf : Int → qA → Int × qA} (hlk : lkok n lk) (hok : ∀ y p, 0 ≤ p → p ≤ n → pOk n p (f y p)) (hf : ∀ A, prC36 n lk A → rC36 A (f (A 36 (fd 8)) (A 54 (fd 3))) (pf d A)) {A : qA} (hA : prC36 n lk A) : rC36 A (p_bind (f (A 36 (fd 8)) (A 54 (fd 3))) fun q c => p_jmp lk 124 f (A 36 (fd 8)) 200 q c) (fC_readCondition_36_B pf d A) := by
  have h9 := hf A hA
  have hA0 := hA.2.1
  have hA1 := hA.2.2.1
  have h8 := hok (A 36 (fd 8)) (A 54 (fd 3)) (by omega) hA.2.2.2
  unfold fC_readCondition_36_B
  simp only [qlp]
  rcases hx : f (A 36 (fd 8)) (A 54 (fd 3)) with e | ⟨q, c⟩
  · rw [hx] at h9
    rw [h9.1]
    show rC36 A (.inl e) (fC_readCondition_36_B_L pf (99999 + 1) 6 [d, 0, 0] (pf d A).2)
    rw [stopCondition36]
    exact ⟨rfl, h9.2⟩
  · rw [hx] at h9 h8
    rw [h9.1]
    exact jmpCondition36 hlk hok hf hA rfl 200 100000 0 _ q c (by decide) (by decide) h9.2 (by have := h8.2.2; omega) h8.1 h8.2.1 (by decide)
theorem piece36 {n : Int} {lk : Int → Int} (hlk : lkok n lk) : ∀ (e : Nat) (A : qA), prC36 n lk A → rC36 A (p_pieceE lk e (A 36 (fd 8)) (A 54 (fd 3))) (fC_readPiece_36 e (6 - (e : Int)) A)
  | 0, A, hA => by
    show rC36 A (if lk (A 54 (fd 3)) = 40 then .inl (-5000 - A 54 (fd 3)) else (if lk (A 54 (fd 3)) = 33 then .inl (-5000 - A 54 (fd 3)) else p_cmp lk (p_sumE lk 0) (A 54 (fd 3)))) (fC_readPieceZ_36_B (fC_readComparison_36 0) (6 - ((0 : Nat) : Int)) A)
    unfold fC_readPieceZ_36_B
    simp only [qlet, qlp]
    rw [look36 hA]
    by_cases h1 : lk (A 54 (fd 3)) = 40
    · rw [if_pos h1, if_pos h1]
      exact ⟨rfl, ent36_6 (d := 6 - ((0 : Nat) : Int)) (by decide)⟩
    · rw [if_neg h1, if_neg h1]
      by_cases h2 : lk (A 54 (fd 3)) = 33
      · rw [if_pos h2, if_pos h2]
        exact ⟨rfl, ent36_6 (d := 6 - ((0 : Nat) : Int)) (by decide)⟩
      · rw [if_neg h2, if_neg h2]
        exact cmpE36 hlk 0 hA
  | e + 1, A, hA => by
    show rC36 A (if lk (A 54 (fd 3)) = 40 then p_clo lk (p_cond lk (p_pieceE lk e) (A 36 (fd 8)) (A 54 (fd 3) + 1)) 41 else (if lk (A 54 (fd 3)) = 33 then p_bind (p_pieceE lk e (A 36 (fd 8)) (A 54 (fd 3) + 1)) fun q c => .inr (q, c ++ [(33, 0)]) else p_cmp lk (p_sumE lk (e + 1)) (A 54 (fd 3)))) (fC_readPieceS_36_B (fC_readCondition_36 e) (fC_readPiece_36 e) (fC_readComparison_36 (e + 1)) (6 - ((e + 1 : Nat) : Int)) A)
    have hA0 := hA.2.1
    have hA1 := hA.2.2.1
    have hn := hA.1.2.1
    unfold fC_readPieceS_36_B
    simp only [qlet, qlp]
    rw [look36 hA]
    have hgo := aC36_go (aC36_0 A) (A 54 (fd 3) + 1)
    by_cases h1 : lk (A 54 (fd 3)) = 40
    · rw [if_pos h1, if_pos h1]
      have hin := lk_in hlk (p := A 54 (fd 3)) (by omega) (by omega)
      rw [ent36 (by omega), show 6 - ((e + 1 : Nat) : Int) + 1 = 6 - (e : Int) by omega]
      have hp1 := prC36_a hA hgo (by simp only [List.length_nil]; omega) (by omega)
      refine clo36 hA rfl (pOk_condE hlk e _ _ (by omega) (by omega)) ?_
      have h9 := cond36 hlk (pOk_part hlk (pOk_pieceE hlk e)) (fun A' hA' => part36 hlk (pOk_pieceE hlk e) (piece36 hlk e) hA') hp1
      rw [qu_at, hgo.2.1, List.length_nil, Int.natCast_zero, Int.add_zero] at h9
      exact h9
    · rw [if_neg h1, if_neg h1]
      by_cases h2 : lk (A 54 (fd 3)) = 33
      · rw [if_pos h2, if_pos h2]
        have hin := lk_in hlk (p := A 54 (fd 3)) (by omega) (by omega)
        rw [ent36 (by omega), show 6 - ((e + 1 : Nat) : Int) + 1 = 6 - (e : Int) by omega]
        have hp1 := prC36_a hA hgo (by simp only [List.length_nil]; omega) (by omega)
        have h9 := piece36 hlk e _ hp1
        rw [qu_at, hgo.2.1, List.length_nil, Int.natCast_zero, Int.add_zero] at h9
        have h8 := pOk_pieceE hlk e (A 36 (fd 8)) (A 54 (fd 3) + 1) (by omega) (by omega)
        generalize fC_readPiece_36 e (6 - (e : Int)) (qu A 54 (fd 3) (A 54 (fd 3) + 1)) = y at h9 ⊢
        rcases hx : p_pieceE lk e (A 36 (fd 8)) (A 54 (fd 3) + 1) with f | ⟨q, c⟩
        · rw [hx] at h9
          rw [if_pos h9.1]
          exact ⟨rfl, h9.2⟩
        · rw [hx] at h9 h8
          obtain ⟨a1, a2, a3⟩ := h8
          rw [if_neg (show ¬ y.1 = 0 by rw [h9.1]; decide)]
          have hac := aC36_tr hgo h9.2
          rw [List.nil_append] at hac
          exact ⟨rfl, aC36_put hac (by omega)⟩
      · rw [if_neg h2, if_neg h2]
        exact cmpE36 hlk (e + 1) hA
theorem condE36 {n : Int} {lk : Int → Int} (hlk : lkok n lk) (e : Nat) {A : qA} (hA : prC36 n lk A) : rC36 A (p_condE lk e (A 36 (fd 8)) (A 54 (fd 3))) (fC_readCondition_36 e (6 - (e : Int)) A) := cond36 hlk (pOk_part hlk (pOk_pieceE hlk e)) (fun _ hA' => part36 hlk (pOk_pieceE hlk e) (piece36 hlk e) hA') hA
