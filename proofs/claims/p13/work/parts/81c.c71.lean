/-! THE CLASS READS SO -/
def aC71 (A A' : qA) (q : Int) (c : List (Int × Int)) : Prop := A' 54 (fd 3) = q ∧ A' 71 (fd 8) = A 71 (fd 8) + c.length ∧ cat (A' 72) (A' 73) (A 71 (fd 8)) c ∧ (∀ k, k < A 71 (fd 8) → A' 72 k = A 72 k ∧ A' 73 k = A 73 k) ∧ frm [72, 73] [(71, 8), (54, 3), (54, 4)] A A'
def rC71 (A : qA) (x : pR) (y : Int × qA) : Prop := match x with
  | .inl f => y.1 = 0 ∧ y.2 54 (fd 4) = f
  | .inr (q, c) => y.1 = 1 ∧ aC71 A y.2 q c
def prC71 (n : Int) (lk : Int → Int) (A : qA) : Prop := (A 54 (fd 2) = n ∧ n ≤ 200 ∧ (∀ p, 0 ≤ p → lk p = if p < n then A 53 p else -1)) ∧ 0 ≤ A 71 (fd 8) ∧ A 71 (fd 8) ≤ A 54 (fd 3) ∧ A 54 (fd 3) ≤ n
theorem aC71_0 (A : qA) : aC71 A A (A 54 (fd 3)) [] := ⟨rfl, by simp, trivial, fun _ _ => ⟨rfl, rfl⟩, frm_0 _ _ _⟩
theorem aC71_tr {A A1 A2 : qA} {q q' : Int} {c c' : List (Int × Int)} (h : aC71 A A1 q c) (h2 : aC71 A1 A2 q' c') : aC71 A A2 q' (c ++ c') := by
  obtain ⟨_, b, e, d, f⟩ := h
  obtain ⟨a', b', e', d', f'⟩ := h2
  refine ⟨a', by rw [b', b, List.length_append]; omega, cat_app.mpr ⟨cat_ext e (fun k _ h1 => d' k (by omega)), ?_⟩, fun k hk => ?_, frm_c f f' rfl⟩
  · rw [← b]; exact e'
  · have h1 := d k hk
    have h2 := d' k (by omega)
    exact ⟨h2.1.trans h1.1, h2.2.trans h1.2⟩
theorem aC71_go {A A1 : qA} {q : Int} {c : List (Int × Int)} (h : aC71 A A1 q c) (v : Int) : aC71 A (qu A1 54 (fd 3) v) v c := by
  have := aC71_tr h (A2 := qu A1 54 (fd 3) v) (q' := v) (c' := []) ⟨qu_at _ _ _ _, by simp [qu_is], trivial, fun k _ => ⟨by simp [qu_is], by simp [qu_is]⟩, frm_sf (frm_0 _ _ _) rfl rfl⟩
  rwa [List.append_nil] at this
theorem aC71_put {A A1 : qA} {q g x : Int} {c : List (Int × Int)} (h : aC71 A A1 q c) (hs : A 71 (fd 8) + c.length < 200) : aC71 A (fC_putr71 g x A1) q (c ++ [(g, x)]) := by
  have hz : A1 71 (fd 8) < 200 := by have := h.2.1; omega
  have e : fC_putr71 g x A1 = qu (qu (qu A1 72 (A1 71 (fd 8)) g) 73 (A1 71 (fd 8)) x) 71 (fd 8) (A1 71 (fd 8) + 1) := by
    unfold fC_putr71
    simp only [qlet]
    rw [if_pos hz]
  rw [e]
  refine aC71_tr h ⟨?_, ?_, ?_, ?_, ?_⟩
  · simp [qu_is, h.1]
  · simp [qu_is]
  · refine ⟨⟨?_, ?_⟩, trivial⟩
    · simp [qu_is]
    · simp [qu_is]
  · intro k hk
    have hk' : k ≠ A1 71 (fd 8) := by omega
    constructor <;> simp [qu_is, hk']
  · exact frm_sf (frm_s (frm_s (frm_0 _ _ _) rfl rfl) rfl rfl) rfl rfl
theorem prC71_a {n : Int} {lk : Int → Int} {A A1 : qA} {q : Int} {c : List (Int × Int)} (hp : prC71 n lk A) (h : aC71 A A1 q c) (h1 : A 54 (fd 3) + c.length ≤ q) (h2 : q ≤ n) : prC71 n lk A1 := by
  obtain ⟨⟨a, b, e⟩, d, f, g⟩ := hp
  obtain ⟨a', b', e', d', f'⟩ := h
  refine ⟨⟨?_, b, ?_⟩, ?_, ?_, ?_⟩
  · rw [frm_f f' (r := 54) (j := 2) rfl]; exact a
  · rw [frm_a f' (r := 53) rfl]; exact e
  · omega
  · omega
  · omega
theorem look71 {n : Int} {lk : Int → Int} {A : qA} (hp : prC71 n lk A) : fC_look_71 A = lk (A 54 (fd 3)) := by
  obtain ⟨⟨a, b, e⟩, d, f, g⟩ := hp
  unfold fC_look_71
  simp only [qlet]
  rw [e _ (by omega), a]
theorem put71_54 (g x : Int) (A : qA) : (fC_putr71 g x A) 54 = A 54 := by
  unfold fC_putr71
  simp only [qlet]
  split <;> funext i <;> simp [qu_is]
theorem fail71 (x : Int) (A : qA) : (fC_fail_71 x A) 54 (fd 4) = (-1000) * x - A 54 (fd 3) := by
  unfold fC_fail_71
  simp only [qlet]
  exact qu_at _ _ _ _
theorem rC71_exp {n : Int} {lk : Int → Int} {A A1 : qA} {q g : Int} {c : List (Int × Int)} (hp : prC71 n lk A1) (h : aC71 A A1 q c) : rC71 A (if lk q = g then .inr (q + 1, c) else .inl (-1000 - q)) (fC_expect_71 g A1) := by
  have hq := h.1
  unfold fC_expect_71
  simp only [qlet]
  rw [look71 hp, hq]
  by_cases hg : lk q = g
  · rw [if_pos hg, if_pos hg]
    exact ⟨rfl, aC71_go h _⟩
  · rw [if_neg hg, if_neg hg]
    refine ⟨rfl, ?_⟩
    show (fC_fail_71 1 A1) 54 (fd 4) = -1000 - q
    rw [fail71, hq]
    omega
theorem num71 {n : Int} {lk : Int → Int} (hlk : lkok n lk) {A0 : qA} (hA : prC71 n lk A0) : ∀ (k F : Nat) (x i : Int) (B : qA) (p : Int), (k : Int) + i = 5 → k < F → aC71 A0 B p [] → A0 54 (fd 3) ≤ p → p ≤ n → (A0 54 (fd 3) < p ∨ (48 ≤ lk p ∧ lk p ≤ 57)) → 0 ≤ i → rC71 A0 (p_num lk k p x) (fC_readNumber_71_L F 4 [x, i] B)
  | _, 0, _, _, _, _, _, h, _, _, _, _, _ => absurd h (Nat.not_lt_zero _)
  | 0, F + 1, x, i, B, p, hk, hF, hB, h1, h2, h3, h4 => by
    have hBp := hB.1
    have hpB := prC71_a hA hB (by simp only [List.length_nil]; omega) h2
    show rC71 A0 (if 48 ≤ lk p ∧ lk p ≤ 57 then .inl (-2000 - p) else .inr (p, [(48, x)])) (fC_readNumber_71_c4 (fC_readNumber_71_L F) x i B)
    unfold fC_readNumber_71_c4
    simp only [qlet]
    rw [if_neg (show ¬ i < 5 by omega), look71 hpB, hBp]
    by_cases hd : 48 ≤ lk p ∧ lk p ≤ 57
    · rw [if_pos hd, if_pos hd]
      refine ⟨rfl, ?_⟩
      show (fC_fail_71 2 B) 54 (fd 4) = _
      rw [fail71, hBp]; omega
    · rw [if_neg hd, if_neg hd]
      refine ⟨rfl, aC71_put (c := []) hB ?_⟩
      have := hA.1.2.1
      have := hA.2.2.1
      simp only [List.length_nil]; omega
  | k + 1, F + 1, x, i, B, p, hk, hF, hB, h1, h2, h3, h4 => by
    have hBp := hB.1
    have hpB := prC71_a hA hB (by simp only [List.length_nil]; omega) h2
    have hA0 := hA.2.1
    have hA1 := hA.2.2.1
    show rC71 A0 (if 48 ≤ lk p ∧ lk p ≤ 57 then p_num lk k (p + 1) (10 * x + lk p - 48) else .inr (p, [(48, x)])) (fC_readNumber_71_c4 (fC_readNumber_71_L F) x i B)
    unfold fC_readNumber_71_c4
    simp only [qlet]
    rw [if_pos (show i < 5 by omega), look71 hpB, hBp]
    by_cases hd : 48 ≤ lk p ∧ lk p ≤ 57
    · rw [if_pos hd, if_pos hd]
      have hlt := lk_in hlk (p := p) (by omega) (by omega)
      exact num71 hlk hA k F _ (i + 1) _ (p + 1) (by omega) (by omega) (aC71_go hB _) (by omega) (by omega) (Or.inl (by omega)) (by omega)
    · rw [if_neg hd, if_neg hd, if_neg hd]
      refine ⟨rfl, aC71_put (c := []) hB ?_⟩
      have := hA.1.2.1
      simp only [List.length_nil]; omega
/-- terms and sums -/
theorem stopTerm71 (pf : Int → qA → Int × qA) (F : Nat) (d i : Int) (B : qA) : fC_readTerm_71_B_L pf (F + 1) 6 [d, 0, i] B = (0, B) := by
  show fC_readTerm_71_B_c6 pf _ d 0 i B = _
  unfold fC_readTerm_71_B_c6
  split
  · rw [if_pos rfl]
  · rfl
theorem binTerm71 {n : Int} {lk : Int → Int} {d : Int} {f : Int → pR} {pf : Int → qA → Int × qA} (hlk : lkok n lk) (hok : ∀ p, 0 ≤ p → p ≤ n → pOk n p (f p)) (hf : ∀ A, prC71 n lk A → rC71 A (f (A 54 (fd 3))) (pf d A)) {A0 : qA} (hA : prC71 n lk A0) : ∀ (k F : Nat) (i : Int) (B : qA) (p : Int) (c : List (Int × Int)), (k : Int) + i = 200 → k + 1 < F → aC71 A0 B p c → A0 54 (fd 3) + c.length ≤ p → p ≤ n → 0 ≤ i → rC71 A0 (p_bin lk 4 f k p c) (fC_readTerm_71_B_L pf F 6 [d, 1, i] B)
  | _, 0, _, _, _, _, _, h, _, _, _, _ => absurd h (Nat.not_lt_zero _)
  | 0, F + 1, i, B, p, c, hk, hF, hB, h1, h2, h3 => by
    show rC71 A0 (.inr (p, c)) (fC_readTerm_71_B_c6 pf (fC_readTerm_71_B_L pf F) d 1 i B)
    unfold fC_readTerm_71_B_c6
    rw [if_neg (show ¬ i < 200 by omega)]
    exact ⟨rfl, hB⟩
  | k + 1, F + 1, i, B, p, c, hk, hF, hB, h1, h2, h3 => by
    have hBp := hB.1
    have hpB := prC71_a hA hB h1 h2
    have hA0 := hA.2.1
    have hA1 := hA.2.2.1
    have hn := hA.1.2.1
    show rC71 A0 (if qone 4 (lk p) = 0 then .inr (p, c) else p_bind (f (p + 1)) fun q c' => p_bin lk 4 f k q (c ++ c' ++ [(lk p, 0)])) (fC_readTerm_71_B_c6 pf (fC_readTerm_71_B_L pf F) d 1 i B)
    unfold fC_readTerm_71_B_c6
    simp only [qlet, qlp]
    rw [if_pos (show i < 200 by omega), if_neg (show ¬ (1 : Int) = 0 by decide), look71 hpB, hBp]
    by_cases hq : qone 4 (lk p) = 0
    · rw [if_pos hq, if_pos hq]
      exact ⟨rfl, hB⟩
    · rw [if_neg hq, if_neg hq]
      have hin := lk_one hlk (p := p) (by omega) hq
      have hgo := aC71_go hB (p + 1)
      have h9 := hf (qu B 54 (fd 3) (p + 1)) (prC71_a hA hgo (by omega) (by omega))
      rw [qu_at] at h9
      have h8 := hok (p + 1) (by omega) (by omega)
      generalize pf d (qu B 54 (fd 3) (p + 1)) = y at h9 ⊢
      obtain ⟨F, rfl⟩ : ∃ F', F = F' + 1 := ⟨F - 1, by omega⟩
      rcases hx : f (p + 1) with e | ⟨q, c'⟩
      · rw [hx] at h9
        rw [h9.1, stopTerm71]
        refine ⟨rfl, ?_⟩
        show (fC_putr71 (lk p) 0 y.2) 54 (fd 4) = e
        rw [put71_54]
        exact h9.2
      · rw [hx] at h9 h8
        obtain ⟨a1, a2, a3⟩ := h8
        obtain ⟨b1, b2⟩ := h9
        rw [b1]
        refine binTerm71 hlk hok hf hA k (F + 1) (i + 1) _ q _ (by omega) (by omega) (aC71_put (aC71_tr hgo b2) ?_) ?_ a2 (by omega)
        · rw [List.length_append]; omega
        · simp only [List.length_append, List.length_cons, List.length_nil]; omega
theorem term71 {n : Int} {lk : Int → Int} {d : Int} {f : Int → pR} {pf : Int → qA → Int × qA} (hlk : lkok n lk) (hok : ∀ p, 0 ≤ p → p ≤ n → pOk n p (f p)) (hf : ∀ A, prC71 n lk A → rC71 A (f (A 54 (fd 3))) (pf d A)) {A : qA} (hA : prC71 n lk A) : rC71 A (p_bind (f (A 54 (fd 3))) fun q c => p_bin lk 4 f 200 q c) (fC_readTerm_71_B pf d A) := by
  have h9 := hf A hA
  have hA0 := hA.2.1
  have hA1 := hA.2.2.1
  have h8 := hok (A 54 (fd 3)) (by omega) hA.2.2.2
  unfold fC_readTerm_71_B
  simp only [qlp]
  rcases hx : f (A 54 (fd 3)) with e | ⟨q, c⟩
  · rw [hx] at h9
    rw [h9.1]
    show rC71 A (.inl e) (fC_readTerm_71_B_L pf (99999 + 1) 6 [d, 0, 0] (pf d A).2)
    rw [stopTerm71]
    exact ⟨rfl, h9.2⟩
  · rw [hx] at h9 h8
    rw [h9.1]
    exact binTerm71 hlk hok hf hA 200 100000 0 _ q c (by decide) (by decide) h9.2 (by have := h8.2.2; omega) h8.2.1 (by decide)
theorem stopSum71 (pf : Int → qA → Int × qA) (F : Nat) (d i : Int) (B : qA) : fC_readSum_71_B_L pf (F + 1) 6 [d, 0, i] B = (0, B) := by
  show fC_readSum_71_B_c6 pf _ d 0 i B = _
  unfold fC_readSum_71_B_c6
  split
  · rw [if_pos rfl]
  · rfl
theorem binSum71 {n : Int} {lk : Int → Int} {d : Int} {f : Int → pR} {pf : Int → qA → Int × qA} (hlk : lkok n lk) (hok : ∀ p, 0 ≤ p → p ≤ n → pOk n p (f p)) (hf : ∀ A, prC71 n lk A → rC71 A (f (A 54 (fd 3))) (pf d A)) {A0 : qA} (hA : prC71 n lk A0) : ∀ (k F : Nat) (i : Int) (B : qA) (p : Int) (c : List (Int × Int)), (k : Int) + i = 200 → k + 1 < F → aC71 A0 B p c → A0 54 (fd 3) + c.length ≤ p → p ≤ n → 0 ≤ i → rC71 A0 (p_bin lk 3 f k p c) (fC_readSum_71_B_L pf F 6 [d, 1, i] B)
  | _, 0, _, _, _, _, _, h, _, _, _, _ => absurd h (Nat.not_lt_zero _)
  | 0, F + 1, i, B, p, c, hk, hF, hB, h1, h2, h3 => by
    show rC71 A0 (.inr (p, c)) (fC_readSum_71_B_c6 pf (fC_readSum_71_B_L pf F) d 1 i B)
    unfold fC_readSum_71_B_c6
    rw [if_neg (show ¬ i < 200 by omega)]
    exact ⟨rfl, hB⟩
  | k + 1, F + 1, i, B, p, c, hk, hF, hB, h1, h2, h3 => by
    have hBp := hB.1
    have hpB := prC71_a hA hB h1 h2
    have hA0 := hA.2.1
    have hA1 := hA.2.2.1
    have hn := hA.1.2.1
    show rC71 A0 (if qone 3 (lk p) = 0 then .inr (p, c) else p_bind (f (p + 1)) fun q c' => p_bin lk 3 f k q (c ++ c' ++ [(lk p, 0)])) (fC_readSum_71_B_c6 pf (fC_readSum_71_B_L pf F) d 1 i B)
    unfold fC_readSum_71_B_c6
    simp only [qlet, qlp]
    rw [if_pos (show i < 200 by omega), if_neg (show ¬ (1 : Int) = 0 by decide), look71 hpB, hBp]
    by_cases hq : qone 3 (lk p) = 0
    · rw [if_pos hq, if_pos hq]
      exact ⟨rfl, hB⟩
    · rw [if_neg hq, if_neg hq]
      have hin := lk_one hlk (p := p) (by omega) hq
      have hgo := aC71_go hB (p + 1)
      have h9 := hf (qu B 54 (fd 3) (p + 1)) (prC71_a hA hgo (by omega) (by omega))
      rw [qu_at] at h9
      have h8 := hok (p + 1) (by omega) (by omega)
      generalize pf d (qu B 54 (fd 3) (p + 1)) = y at h9 ⊢
      obtain ⟨F, rfl⟩ : ∃ F', F = F' + 1 := ⟨F - 1, by omega⟩
      rcases hx : f (p + 1) with e | ⟨q, c'⟩
      · rw [hx] at h9
        rw [h9.1, stopSum71]
        refine ⟨rfl, ?_⟩
        show (fC_putr71 (lk p) 0 y.2) 54 (fd 4) = e
        rw [put71_54]
        exact h9.2
      · rw [hx] at h9 h8
        obtain ⟨a1, a2, a3⟩ := h8
        obtain ⟨b1, b2⟩ := h9
        rw [b1]
        refine binSum71 hlk hok hf hA k (F + 1) (i + 1) _ q _ (by omega) (by omega) (aC71_put (aC71_tr hgo b2) ?_) ?_ a2 (by omega)
        · rw [List.length_append]; omega
        · simp only [List.length_append, List.length_cons, List.length_nil]; omega
theorem sum71 {n : Int} {lk : Int → Int} {d : Int} {f : Int → pR} {pf : Int → qA → Int × qA} (hlk : lkok n lk) (hok : ∀ p, 0 ≤ p → p ≤ n → pOk n p (f p)) (hf : ∀ A, prC71 n lk A → rC71 A (f (A 54 (fd 3))) (pf d A)) {A : qA} (hA : prC71 n lk A) : rC71 A (p_bind (f (A 54 (fd 3))) fun q c => p_bin lk 3 f 200 q c) (fC_readSum_71_B pf d A) := by
  have h9 := hf A hA
  have hA0 := hA.2.1
  have hA1 := hA.2.2.1
  have h8 := hok (A 54 (fd 3)) (by omega) hA.2.2.2
  unfold fC_readSum_71_B
  simp only [qlp]
  rcases hx : f (A 54 (fd 3)) with e | ⟨q, c⟩
  · rw [hx] at h9
    rw [h9.1]
    show rC71 A (.inl e) (fC_readSum_71_B_L pf (99999 + 1) 6 [d, 0, 0] (pf d A).2)
    rw [stopSum71]
    exact ⟨rfl, h9.2⟩
  · rw [hx] at h9 h8
    rw [h9.1]
    exact binSum71 hlk hok hf hA 200 100000 0 _ q c (by decide) (by decide) h9.2 (by have := h8.2.2; omega) h8.2.1 (by decide)
/-- one thing in brackets -/
theorem clo71 {n : Int} {lk : Int → Int} {g : Int} {A A1 : qA} {x : pR} {y : Int × qA} (hA : prC71 n lk A) (h0 : A1 = qu A 54 (fd 3) (A 54 (fd 3) + 1)) (hok : pOk n (A 54 (fd 3) + 1) x) (h : rC71 A1 x y) : rC71 A (p_clo lk x g) (if y.1 = 0 then (0, y.2) else (if (fC_expect_71 g y.2).1 = 0 then (0, (fC_expect_71 g y.2).2) else (1, (fC_expect_71 g y.2).2))) := by
  have hgo := aC71_go (aC71_0 A) (A 54 (fd 3) + 1)
  rw [← h0] at hgo
  rcases x with e | ⟨q, c⟩
  · rw [if_pos h.1]
    exact ⟨rfl, h.2⟩
  · obtain ⟨a1, a2, a3⟩ := hok
    have hac := aC71_tr hgo h.2
    rw [List.nil_append] at hac
    have hp1 := prC71_a hA hac (by omega) a2
    have h9 := rC71_exp (g := g) hp1 hac
    rw [if_neg (show ¬ y.1 = 0 by rw [h.1]; decide)]
    show rC71 A (if lk q = g then .inr (q + 1, c) else .inl (-1000 - q)) _
    generalize fC_expect_71 g y.2 = w at h9 ⊢
    by_cases hg : lk q = g
    · rw [if_pos hg] at h9 ⊢
      rw [if_neg (show ¬ w.1 = 0 by rw [h9.1]; decide)]
      exact ⟨rfl, h9.2⟩
    · rw [if_neg hg] at h9 ⊢
      rw [if_pos h9.1]
      exact ⟨rfl, h9.2⟩
theorem ent71 {d : Int} {A : qA} (hd : d < 6) : fC_enter_71 d A = qu A 54 (fd 3) (A 54 (fd 3) + 1) := by
  unfold fC_enter_71
  simp only [qlet]
  rw [if_pos hd]
theorem ent71_6 {d : Int} {A : qA} (hd : ¬ d < 6) : (fC_enter_71 d A) 54 (fd 4) = -5000 - A 54 (fd 3) := by
  unfold fC_enter_71
  simp only [qlet]
  rw [if_neg hd, fail71]
  omega
theorem facR71 {n : Int} {lk : Int → Int} (hlk : lkok n lk) {A : qA} (hA : prC71 n lk A) {op : Int → pR} {y : Int × qA} (hy : lk (A 54 (fd 3)) = 91 → rC71 A (op (A 54 (fd 3))) y) : rC71 A (p_fac lk op (A 54 (fd 3))) (qlet (fC_look_71 A) fun r18 => (if r18 = 91 then y else (if 48 ≤ r18 ∧ r18 ≤ 57 then qlp (fC_readNumber_71 A) fun r36 A32 => (r36, A32) else qlet (qone 0 r18) fun v51 => (if v51 = 0 then qlet (fC_fail_71 1 A) fun A97 => (0, A97) else qlet (qix 0 r18) fun v59 => qlet (fC_putr71 107 v59 A) fun A62 => qlet (A62 54 (fd 3)) fun v76 => qlet (v76 + 1) fun v79 => qlet (qu A62 54 (fd 3) v79) fun A81 => (1, A81))))) := by
  have hA0 := hA.2.1
  have hA1 := hA.2.2.1
  have hn := hA.1.2.1
  unfold p_fac
  simp only [qlet, qlp]
  rw [look71 hA]
  by_cases h1 : lk (A 54 (fd 3)) = 91
  · rw [if_pos h1, if_pos h1]
    exact hy h1
  · rw [if_neg h1, if_neg h1]
    by_cases h2 : 48 ≤ lk (A 54 (fd 3)) ∧ lk (A 54 (fd 3)) ≤ 57
    · rw [if_pos h2, if_pos h2]
      exact num71 hlk hA 5 100000 0 0 A _ (by decide) (by decide) (aC71_0 A) (Int.le_refl _) hA.2.2.2 (Or.inr h2) (Int.le_refl _)
    · rw [if_neg h2, if_neg h2]
      by_cases h3 : qone 0 (lk (A 54 (fd 3))) = 0
      · rw [if_pos h3, if_pos h3]
        refine ⟨rfl, ?_⟩
        show (fC_fail_71 1 A) 54 (fd 4) = _
        rw [fail71]; omega
      · rw [if_neg h3, if_neg h3]
        have hin := lk_one hlk (p := A 54 (fd 3)) (by omega) h3
        rw [put71_54]
        refine ⟨rfl, aC71_go (aC71_put (c := []) (aC71_0 A) ?_) _⟩
        simp only [List.length_nil]; omega
theorem fac71 {n : Int} {lk : Int → Int} (hlk : lkok n lk) : ∀ (e : Nat) (A : qA), prC71 n lk A → rC71 A (p_facE lk e (A 54 (fd 3))) (fC_readFactor_71 e (6 - (e : Int)) A)
  | 0, A, hA => by
    show rC71 A (p_fac lk (fun p => .inl (-5000 - p)) (A 54 (fd 3))) (fC_readFactorZ_71_B (6 - ((0 : Nat) : Int)) A)
    unfold fC_readFactorZ_71_B
    refine facR71 hlk hA (fun _ => ?_)
    simp only [qlet]
    exact ⟨rfl, ent71_6 (d := 6 - ((0 : Nat) : Int)) (by decide)⟩
  | e + 1, A, hA => by
    show rC71 A (p_fac lk (fun p => p_clo lk (p_sumF lk (p_facE lk e) (p + 1)) 93) (A 54 (fd 3))) (fC_readFactorS_71_B (fC_readSum_71 e) (6 - ((e + 1 : Nat) : Int)) A)
    unfold fC_readFactorS_71_B
    refine facR71 hlk hA (fun h91 => ?_)
    have hA0 := hA.2.1
    have hA1 := hA.2.2.1
    have hin := lk_in hlk (p := A 54 (fd 3)) (by omega) (by omega)
    simp only [qlet, qlp]
    rw [ent71 (by omega), show 6 - ((e + 1 : Nat) : Int) + 1 = 6 - (e : Int) by omega]
    have hgo := aC71_go (aC71_0 A) (A 54 (fd 3) + 1)
    have hp1 := prC71_a hA hgo (by simp only [List.length_nil]; omega) (by omega)
    refine clo71 hA rfl (pOk_sumE hlk e _ (by omega) (by omega)) ?_
    have h9 := sum71 hlk (pOk_termE hlk e) (fun A' hA' => term71 hlk (pOk_facE hlk e) (fac71 hlk e) hA') hp1
    rw [qu_at] at h9
    exact h9
theorem termE71 {n : Int} {lk : Int → Int} (hlk : lkok n lk) (e : Nat) {A : qA} (hA : prC71 n lk A) : rC71 A (p_termE lk e (A 54 (fd 3))) (fC_readTerm_71 e (6 - (e : Int)) A) := term71 hlk (pOk_facE hlk e) (fac71 hlk e) hA
theorem sumE71 {n : Int} {lk : Int → Int} (hlk : lkok n lk) (e : Nat) {A : qA} (hA : prC71 n lk A) : rC71 A (p_sumE lk e (A 54 (fd 3))) (fC_readSum_71 e (6 - (e : Int)) A) := sum71 hlk (pOk_termE hlk e) (fun _ hA' => termE71 hlk e hA') hA
theorem cmpE71 {n : Int} {lk : Int → Int} (hlk : lkok n lk) (e : Nat) {A : qA} (hA : prC71 n lk A) : rC71 A (p_cmp lk (p_sumE lk e) (A 54 (fd 3))) (fC_readComparison_71 e (6 - (e : Int)) A) := by
  have h9 := sumE71 hlk e hA
  have hA0 := hA.2.1
  have hA1 := hA.2.2.1
  have hn := hA.1.2.1
  have h8 := pOk_sumE hlk e (A 54 (fd 3)) (by omega) hA.2.2.2
  show rC71 A _ (fC_readComparison_71_B (fC_readSum_71 e) (6 - (e : Int)) A)
  unfold fC_readComparison_71_B p_cmp
  simp only [qlet, qlp]
  generalize fC_readSum_71 e (6 - (e : Int)) A = y at h9 ⊢
  rcases hx : p_sumE lk e (A 54 (fd 3)) with f | ⟨q, c⟩
  · rw [hx] at h9
    rw [if_pos h9.1]
    exact ⟨rfl, h9.2⟩
  · rw [hx] at h9 h8
    obtain ⟨a1, a2, a3⟩ := h8
    obtain ⟨b1, b2⟩ := h9
    have hp1 := prC71_a hA b2 (by omega) a2
    have hyp := b2.1
    rw [if_neg (show ¬ y.1 = 0 by rw [b1]; decide), look71 hp1, hyp]
    show rC71 A (if qone 2 (lk q) = 0 then .inl (-1000 - q) else p_bind (p_sumE lk e (q + 1)) fun q' c' => .inr (q', c ++ c' ++ [(lk q, 0)])) _
    by_cases hq : qone 2 (lk q) = 0
    · rw [if_pos hq, if_pos hq]
      refine ⟨rfl, ?_⟩
      show (fC_fail_71 1 y.2) 54 (fd 4) = _
      rw [fail71, hyp]; omega
    · rw [if_neg hq, if_neg hq]
      have hin := lk_one hlk (p := q) (by omega) hq
      have hgo := aC71_go b2 (q + 1)
      have hp2 := prC71_a hA hgo (by omega) (by omega)
      have h9 := sumE71 hlk e hp2
      rw [qu_at] at h9
      have h8 := pOk_sumE hlk e (q + 1) (by omega) (by omega)
      generalize fC_readSum_71 e (6 - (e : Int)) (qu y.2 54 (fd 3) (q + 1)) = w at h9 ⊢
      rcases hx : p_sumE lk e (q + 1) with f | ⟨q', c'⟩
      · rw [hx] at h9
        rw [if_pos h9.1]
        exact ⟨rfl, h9.2⟩
      · rw [hx] at h9 h8
        obtain ⟨a1', a2', a3'⟩ := h8
        rw [if_neg (show ¬ w.1 = 0 by rw [h9.1]; decide)]
        exact ⟨rfl, aC71_put (aC71_tr hgo h9.2) (by rw [List.length_append]; omega)⟩
/-- parts and conditions -/
theorem jump71 {n : Int} {lk : Int → Int} {A : qA} (hA : prC71 n lk A) (h : A 54 (fd 3) < n) : fC_readJump_71 A = (A 71 (fd 8), qu (fC_putr71 (lk (A 54 (fd 3))) 0 A) 54 (fd 3) (A 54 (fd 3) + 1)) := by
  have hA1 := hA.2.2.1
  have hn := hA.1.2.1
  unfold fC_readJump_71
  simp only [qlet]
  rw [look71 hA, put71_54, Int.min_eq_left (by omega)]
/-- where a jump goes is told when what it leaves out is read -/
theorem land71 {A0 B A1 A2 : qA} {q g : Int} {c c' : List (Int × Int)} (hB : aC71 A0 B (B 54 (fd 3)) c) (hs : A0 71 (fd 8) + c.length < 200) (h1 : A1 = qu (fC_putr71 g 0 B) 54 (fd 3) (B 54 (fd 3) + 1)) (h2 : aC71 A1 A2 q c') : aC71 A0 (qu A2 73 (B 71 (fd 8)) (A2 71 (fd 8))) q (c ++ [(g, A0 71 (fd 8) + c.length + 1 + c'.length)] ++ c') := by
  have hz := hB.2.1
  have hp := aC71_go (aC71_put (g := g) (x := 0) hB hs) (B 54 (fd 3) + 1)
  rw [← h1] at hp
  have ht := aC71_tr hp h2
  obtain ⟨a1, a2, a3, a4, a5⟩ := ht
  have hsz : A2 71 (fd 8) = A0 71 (fd 8) + c.length + 1 + c'.length := by
    rw [a2]; simp only [List.length_append, List.length_cons, List.length_nil]; omega
  refine ⟨?_, ?_, ?_, ?_, ?_⟩
  · rw [← a1]; simp [qu_is]
  · rw [show (qu A2 73 (B 71 (fd 8)) (A2 71 (fd 8))) 71 (fd 8) = A2 71 (fd 8) by simp [qu_is], a2]
    simp only [List.length_append, List.length_cons, List.length_nil]
  · obtain ⟨u1, u2⟩ := cat_app.mp a3
    obtain ⟨u3, u4⟩ := cat_app.mp u1
    rw [show (c ++ [(g, (0 : Int))]).length = (c ++ [(g, A0 71 (fd 8) + (c.length : Int) + 1 + (c'.length : Int))]).length by simp] at u2
    refine cat_app.mpr ⟨cat_app.mpr ⟨cat_ext u3 (fun k k0 k1 => ⟨by simp [qu_is], by rw [qu_nj (by omega)]⟩), ⟨⟨?_, ?_⟩, trivial⟩⟩, cat_ext u2 (fun k k0 k1 => ⟨by simp [qu_is], ?_⟩)⟩
    · rw [show (qu A2 73 (B 71 (fd 8)) (A2 71 (fd 8))) 72 = A2 72 by funext i; simp [qu_is]]
      exact u4.1.1
    · rw [← hz, qu_at, hz]
      exact hsz
    · rw [qu_nj]
      simp only [List.length_append, List.length_cons, List.length_nil] at k0
      omega
  · intro k hk
    have := a4 k hk
    refine ⟨by rw [← this.1]; simp [qu_is], ?_⟩
    rw [qu_nj (by omega)]
    exact this.2
  · exact frm_s a5 rfl rfl
theorem stopPart71 (pf : Int → qA → Int × qA) (F : Nat) (d i : Int) (B : qA) : fC_readPart_71_B_L pf (F + 1) 6 [d, 0, i] B = (0, B) := by
  show fC_readPart_71_B_c6 pf _ d 0 i B = _
  unfold fC_readPart_71_B_c6
  split
  · rw [if_pos rfl]
  · rfl
theorem jmpPart71 {n : Int} {lk : Int → Int} {d z : Int} {f : Int → Int → pR} {pf : Int → qA → Int × qA} (hlk : lkok n lk) (hok : ∀ y p, 0 ≤ p → p ≤ n → pOk n p (f y p)) (hf : ∀ A, prC71 n lk A → rC71 A (f (A 71 (fd 8)) (A 54 (fd 3))) (pf d A)) {A0 : qA} (hA : prC71 n lk A0) (hz : A0 71 (fd 8) = z) : ∀ (k F : Nat) (i : Int) (B : qA) (p : Int) (c : List (Int × Int)), (k : Int) + i = 200 → k + 1 < F → aC71 A0 B p c → A0 54 (fd 3) + c.length ≤ p → A0 54 (fd 3) < p → p ≤ n → 0 ≤ i → rC71 A0 (p_jmp lk 38 f z k p c) (fC_readPart_71_B_L pf F 6 [d, 1, i] B)
  | _, 0, _, _, _, _, _, h, _, _, _, _, _ => absurd h (Nat.not_lt_zero _)
  | 0, F + 1, i, B, p, c, hk, hF, hB, h1, h1', h2, h3 => by
    show rC71 A0 (.inr (p, c)) (fC_readPart_71_B_c6 pf (fC_readPart_71_B_L pf F) d 1 i B)
    unfold fC_readPart_71_B_c6
    rw [if_neg (show ¬ i < 200 by omega)]
    exact ⟨rfl, hB⟩
  | k + 1, F + 1, i, B, p, c, hk, hF, hB, h1, h1', h2, h3 => by
    have hBp := hB.1
    have hBz := hB.2.1
    have hpB := prC71_a hA hB h1 h2
    have hA0 := hA.2.1
    have hA1 := hA.2.2.1
    have hn := hA.1.2.1
    show rC71 A0 (if lk p = 38 then p_bind (f (z + c.length + 1) (p + 1)) fun q c' => p_jmp lk 38 f z k q (c ++ [(38, z + c.length + 1 + c'.length)] ++ c') else .inr (p, c)) (fC_readPart_71_B_c6 pf (fC_readPart_71_B_L pf F) d 1 i B)
    unfold fC_readPart_71_B_c6
    simp only [qlet, qlp]
    rw [if_pos (show i < 200 by omega), if_neg (show ¬ (1 : Int) = 0 by decide), look71 hpB, hBp]
    by_cases hq : lk p = 38
    · rw [if_pos hq, if_pos hq]
      have hin := lk_in hlk (p := p) (by omega) (by omega)
      rw [jump71 hpB (by omega), hBp, hq]
      have hgo := aC71_go (aC71_put (g := 38) (x := 0) hB (by omega)) (p + 1)
      have hp2 := prC71_a hA hgo (by simp only [List.length_append, List.length_cons, List.length_nil]; omega) (by omega)
      have h9 := hf _ hp2
      have hzz : (qu (fC_putr71 38 0 B) 54 (fd 3) (p + 1)) 71 (fd 8) = z + c.length + 1 := by
        rw [hgo.2.1, hz]; simp only [List.length_append, List.length_cons, List.length_nil]; omega
      rw [qu_at, hzz] at h9
      have h8 := hok (z + c.length + 1) (p + 1) (by omega) (by omega)
      show rC71 A0 _ (fC_readPart_71_B_L pf F 6 [d, (pf d (qu (fC_putr71 38 0 B) 54 (fd 3) (p + 1))).1, i + 1] (qu (pf d (qu (fC_putr71 38 0 B) 54 (fd 3) (p + 1))).2 73 (B 71 (fd 8)) ((pf d (qu (fC_putr71 38 0 B) 54 (fd 3) (p + 1))).2 71 (fd 8))))
      generalize hy : pf d (qu (fC_putr71 38 0 B) 54 (fd 3) (p + 1)) = y at h9 ⊢
      obtain ⟨F, rfl⟩ : ∃ F', F = F' + 1 := ⟨F - 1, by omega⟩
      rcases hx : f (z + c.length + 1) (p + 1) with e | ⟨q, c'⟩
      · rw [hx] at h9
        rw [h9.1, stopPart71]
        refine ⟨rfl, ?_⟩
        rw [← h9.2]
        simp [qu_is]
      · rw [hx] at h9 h8
        obtain ⟨a1, a2, a3⟩ := h8
        obtain ⟨b1, b2⟩ := h9
        rw [b1]
        have hl := land71 (g := 38) (A0 := A0) (B := B) (c := c) (by rw [hBp]; exact hB) (by omega) (by rw [hBp]) b2
        rw [hz] at hl
        exact jmpPart71 hlk hok hf hA hz k (F + 1) (i + 1) _ q _ (by omega) (by omega) hl (by simp only [List.length_append, List.length_cons, List.length_nil]; omega) (by omega) a2 (by omega)
    · rw [if_neg hq, if_neg hq]
      exact ⟨rfl, hB⟩
theorem part71 {n : Int} {lk : Int → Int} {d : Int} {f : Int → Int → pR} {pf : Int → qA → Int × qA} (hlk : lkok n lk) (hok : ∀ y p, 0 ≤ p → p ≤ n → pOk n p (f y p)) (hf : ∀ A, prC71 n lk A → rC71 A (f (A 71 (fd 8)) (A 54 (fd 3))) (pf d A)) {A : qA} (hA : prC71 n lk A) : rC71 A (p_bind (f (A 71 (fd 8)) (A 54 (fd 3))) fun q c => p_jmp lk 38 f (A 71 (fd 8)) 200 q c) (fC_readPart_71_B pf d A) := by
  have h9 := hf A hA
  have hA0 := hA.2.1
  have hA1 := hA.2.2.1
  have h8 := hok (A 71 (fd 8)) (A 54 (fd 3)) (by omega) hA.2.2.2
  unfold fC_readPart_71_B
  simp only [qlp]
  rcases hx : f (A 71 (fd 8)) (A 54 (fd 3)) with e | ⟨q, c⟩
  · rw [hx] at h9
    rw [h9.1]
    show rC71 A (.inl e) (fC_readPart_71_B_L pf (99999 + 1) 6 [d, 0, 0] (pf d A).2)
    rw [stopPart71]
    exact ⟨rfl, h9.2⟩
  · rw [hx] at h9 h8
    rw [h9.1]
    exact jmpPart71 hlk hok hf hA rfl 200 100000 0 _ q c (by decide) (by decide) h9.2 (by have := h8.2.2; omega) h8.1 h8.2.1 (by decide)
theorem stopCondition71 (pf : Int → qA → Int × qA) (F : Nat) (d i : Int) (B : qA) : fC_readCondition_71_B_L pf (F + 1) 6 [d, 0, i] B = (0, B) := by
  show fC_readCondition_71_B_c6 pf _ d 0 i B = _
  unfold fC_readCondition_71_B_c6
  split
  · rw [if_pos rfl]
  · rfl
theorem jmpCondition71 {n : Int} {lk : Int → Int} {d z : Int} {f : Int → Int → pR} {pf : Int → qA → Int × qA} (hlk : lkok n lk) (hok : ∀ y p, 0 ≤ p → p ≤ n → pOk n p (f y p)) (hf : ∀ A, prC71 n lk A → rC71 A (f (A 71 (fd 8)) (A 54 (fd 3))) (pf d A)) {A0 : qA} (hA : prC71 n lk A0) (hz : A0 71 (fd 8) = z) : ∀ (k F : Nat) (i : Int) (B : qA) (p : Int) (c : List (Int × Int)), (k : Int) + i = 200 → k + 1 < F → aC71 A0 B p c → A0 54 (fd 3) + c.length ≤ p → A0 54 (fd 3) < p → p ≤ n → 0 ≤ i → rC71 A0 (p_jmp lk 124 f z k p c) (fC_readCondition_71_B_L pf F 6 [d, 1, i] B)
  | _, 0, _, _, _, _, _, h, _, _, _, _, _ => absurd h (Nat.not_lt_zero _)
  | 0, F + 1, i, B, p, c, hk, hF, hB, h1, h1', h2, h3 => by
    show rC71 A0 (.inr (p, c)) (fC_readCondition_71_B_c6 pf (fC_readCondition_71_B_L pf F) d 1 i B)
    unfold fC_readCondition_71_B_c6
    rw [if_neg (show ¬ i < 200 by omega)]
    exact ⟨rfl, hB⟩
  | k + 1, F + 1, i, B, p, c, hk, hF, hB, h1, h1', h2, h3 => by
    have hBp := hB.1
    have hBz := hB.2.1
    have hpB := prC71_a hA hB h1 h2
    have hA0 := hA.2.1
    have hA1 := hA.2.2.1
    have hn := hA.1.2.1
    show rC71 A0 (if lk p = 124 then p_bind (f (z + c.length + 1) (p + 1)) fun q c' => p_jmp lk 124 f z k q (c ++ [(124, z + c.length + 1 + c'.length)] ++ c') else .inr (p, c)) (fC_readCondition_71_B_c6 pf (fC_readCondition_71_B_L pf F) d 1 i B)
    unfold fC_readCondition_71_B_c6
    simp only [qlet, qlp]
    rw [if_pos (show i < 200 by omega), if_neg (show ¬ (1 : Int) = 0 by decide), look71 hpB, hBp]
    by_cases hq : lk p = 124
    · rw [if_pos hq, if_pos hq]
      have hin := lk_in hlk (p := p) (by omega) (by omega)
      rw [jump71 hpB (by omega), hBp, hq]
      have hgo := aC71_go (aC71_put (g := 124) (x := 0) hB (by omega)) (p + 1)
      have hp2 := prC71_a hA hgo (by simp only [List.length_append, List.length_cons, List.length_nil]; omega) (by omega)
      have h9 := hf _ hp2
      have hzz : (qu (fC_putr71 124 0 B) 54 (fd 3) (p + 1)) 71 (fd 8) = z + c.length + 1 := by
        rw [hgo.2.1, hz]; simp only [List.length_append, List.length_cons, List.length_nil]; omega
      rw [qu_at, hzz] at h9
      have h8 := hok (z + c.length + 1) (p + 1) (by omega) (by omega)
      show rC71 A0 _ (fC_readCondition_71_B_L pf F 6 [d, (pf d (qu (fC_putr71 124 0 B) 54 (fd 3) (p + 1))).1, i + 1] (qu (pf d (qu (fC_putr71 124 0 B) 54 (fd 3) (p + 1))).2 73 (B 71 (fd 8)) ((pf d (qu (fC_putr71 124 0 B) 54 (fd 3) (p + 1))).2 71 (fd 8))))
      generalize hy : pf d (qu (fC_putr71 124 0 B) 54 (fd 3) (p + 1)) = y at h9 ⊢
      obtain ⟨F, rfl⟩ : ∃ F', F = F' + 1 := ⟨F - 1, by omega⟩
      rcases hx : f (z + c.length + 1) (p + 1) with e | ⟨q, c'⟩
      · rw [hx] at h9
        rw [h9.1, stopCondition71]
        refine ⟨rfl, ?_⟩
        rw [← h9.2]
        simp [qu_is]
      · rw [hx] at h9 h8
        obtain ⟨a1, a2, a3⟩ := h8
        obtain ⟨b1, b2⟩ := h9
        rw [b1]
        have hl := land71 (g := 124) (A0 := A0) (B := B) (c := c) (by rw [hBp]; exact hB) (by omega) (by rw [hBp]) b2
        rw [hz] at hl
        exact jmpCondition71 hlk hok hf hA hz k (F + 1) (i + 1) _ q _ (by omega) (by omega) hl (by simp only [List.length_append, List.length_cons, List.length_nil]; omega) (by omega) a2 (by omega)
    · rw [if_neg hq, if_neg hq]
      exact ⟨rfl, hB⟩
theorem cond71 {n : Int} {lk : Int → Int} {d : Int} {f : Int → Int → pR} {pf : Int → qA → Int × qA} (hlk : lkok n lk) (hok : ∀ y p, 0 ≤ p → p ≤ n → pOk n p (f y p)) (hf : ∀ A, prC71 n lk A → rC71 A (f (A 71 (fd 8)) (A 54 (fd 3))) (pf d A)) {A : qA} (hA : prC71 n lk A) : rC71 A (p_bind (f (A 71 (fd 8)) (A 54 (fd 3))) fun q c => p_jmp lk 124 f (A 71 (fd 8)) 200 q c) (fC_readCondition_71_B pf d A) := by
  have h9 := hf A hA
  have hA0 := hA.2.1
  have hA1 := hA.2.2.1
  have h8 := hok (A 71 (fd 8)) (A 54 (fd 3)) (by omega) hA.2.2.2
  unfold fC_readCondition_71_B
  simp only [qlp]
  rcases hx : f (A 71 (fd 8)) (A 54 (fd 3)) with e | ⟨q, c⟩
  · rw [hx] at h9
    rw [h9.1]
    show rC71 A (.inl e) (fC_readCondition_71_B_L pf (99999 + 1) 6 [d, 0, 0] (pf d A).2)
    rw [stopCondition71]
    exact ⟨rfl, h9.2⟩
  · rw [hx] at h9 h8
    rw [h9.1]
    exact jmpCondition71 hlk hok hf hA rfl 200 100000 0 _ q c (by decide) (by decide) h9.2 (by have := h8.2.2; omega) h8.1 h8.2.1 (by decide)
theorem piece71 {n : Int} {lk : Int → Int} (hlk : lkok n lk) : ∀ (e : Nat) (A : qA), prC71 n lk A → rC71 A (p_pieceE lk e (A 71 (fd 8)) (A 54 (fd 3))) (fC_readPiece_71 e (6 - (e : Int)) A)
  | 0, A, hA => by
    show rC71 A (if lk (A 54 (fd 3)) = 40 then .inl (-5000 - A 54 (fd 3)) else (if lk (A 54 (fd 3)) = 33 then .inl (-5000 - A 54 (fd 3)) else p_cmp lk (p_sumE lk 0) (A 54 (fd 3)))) (fC_readPieceZ_71_B (fC_readComparison_71 0) (6 - ((0 : Nat) : Int)) A)
    unfold fC_readPieceZ_71_B
    simp only [qlet, qlp]
    rw [look71 hA]
    by_cases h1 : lk (A 54 (fd 3)) = 40
    · rw [if_pos h1, if_pos h1]
      exact ⟨rfl, ent71_6 (d := 6 - ((0 : Nat) : Int)) (by decide)⟩
    · rw [if_neg h1, if_neg h1]
      by_cases h2 : lk (A 54 (fd 3)) = 33
      · rw [if_pos h2, if_pos h2]
        exact ⟨rfl, ent71_6 (d := 6 - ((0 : Nat) : Int)) (by decide)⟩
      · rw [if_neg h2, if_neg h2]
        exact cmpE71 hlk 0 hA
  | e + 1, A, hA => by
    show rC71 A (if lk (A 54 (fd 3)) = 40 then p_clo lk (p_cond lk (p_pieceE lk e) (A 71 (fd 8)) (A 54 (fd 3) + 1)) 41 else (if lk (A 54 (fd 3)) = 33 then p_bind (p_pieceE lk e (A 71 (fd 8)) (A 54 (fd 3) + 1)) fun q c => .inr (q, c ++ [(33, 0)]) else p_cmp lk (p_sumE lk (e + 1)) (A 54 (fd 3)))) (fC_readPieceS_71_B (fC_readCondition_71 e) (fC_readPiece_71 e) (fC_readComparison_71 (e + 1)) (6 - ((e + 1 : Nat) : Int)) A)
    have hA0 := hA.2.1
    have hA1 := hA.2.2.1
    have hn := hA.1.2.1
    unfold fC_readPieceS_71_B
    simp only [qlet, qlp]
    rw [look71 hA]
    have hgo := aC71_go (aC71_0 A) (A 54 (fd 3) + 1)
    by_cases h1 : lk (A 54 (fd 3)) = 40
    · rw [if_pos h1, if_pos h1]
      have hin := lk_in hlk (p := A 54 (fd 3)) (by omega) (by omega)
      rw [ent71 (by omega), show 6 - ((e + 1 : Nat) : Int) + 1 = 6 - (e : Int) by omega]
      have hp1 := prC71_a hA hgo (by simp only [List.length_nil]; omega) (by omega)
      refine clo71 hA rfl (pOk_condE hlk e _ _ (by omega) (by omega)) ?_
      have h9 := cond71 hlk (pOk_part hlk (pOk_pieceE hlk e)) (fun A' hA' => part71 hlk (pOk_pieceE hlk e) (piece71 hlk e) hA') hp1
      rw [qu_at, hgo.2.1, List.length_nil, Int.natCast_zero, Int.add_zero] at h9
      exact h9
    · rw [if_neg h1, if_neg h1]
      by_cases h2 : lk (A 54 (fd 3)) = 33
      · rw [if_pos h2, if_pos h2]
        have hin := lk_in hlk (p := A 54 (fd 3)) (by omega) (by omega)
        rw [ent71 (by omega), show 6 - ((e + 1 : Nat) : Int) + 1 = 6 - (e : Int) by omega]
        have hp1 := prC71_a hA hgo (by simp only [List.length_nil]; omega) (by omega)
        have h9 := piece71 hlk e _ hp1
        rw [qu_at, hgo.2.1, List.length_nil, Int.natCast_zero, Int.add_zero] at h9
        have h8 := pOk_pieceE hlk e (A 71 (fd 8)) (A 54 (fd 3) + 1) (by omega) (by omega)
        generalize fC_readPiece_71 e (6 - (e : Int)) (qu A 54 (fd 3) (A 54 (fd 3) + 1)) = y at h9 ⊢
        rcases hx : p_pieceE lk e (A 71 (fd 8)) (A 54 (fd 3) + 1) with f | ⟨q, c⟩
        · rw [hx] at h9
          rw [if_pos h9.1]
          exact ⟨rfl, h9.2⟩
        · rw [hx] at h9 h8
          obtain ⟨a1, a2, a3⟩ := h8
          rw [if_neg (show ¬ y.1 = 0 by rw [h9.1]; decide)]
          have hac := aC71_tr hgo h9.2
          rw [List.nil_append] at hac
          exact ⟨rfl, aC71_put hac (by omega)⟩
      · rw [if_neg h2, if_neg h2]
        exact cmpE71 hlk (e + 1) hA
theorem condE71 {n : Int} {lk : Int → Int} (hlk : lkok n lk) (e : Nat) {A : qA} (hA : prC71 n lk A) : rC71 A (p_condE lk e (A 71 (fd 8)) (A 54 (fd 3))) (fC_readCondition_71 e (6 - (e : Int)) A) := cond71 hlk (pOk_part hlk (pOk_pieceE hlk e)) (fun _ hA' => part71 hlk (pOk_pieceE hlk e) (piece71 hlk e) hA') hA
