/-! THE REFERENCE'S READER: the byte that it stands at, its code, and what waits -/
def HR (A : qA) : Int := if A 0 (fd 27) < A 0 (fd 28) then ia (A 22 (A 0 (fd 27))) 255 else -1
theorem HR_p {A : qA} (h : 0 ≤ HR A) : A 0 (fd 27) < A 0 (fd 28) := by
  unfold HR at h
  split at h
  · assumption
  · omega
theorem HR_k {A A' : qA} (h1 : A' 22 = A 22) (h2 : A' 0 (fd 27) = A 0 (fd 27)) (h3 : A' 0 (fd 28) = A 0 (fd 28)) : HR A' = HR A := by
  unfold HR
  rw [h1, h2, h3]
theorem cu {a b : Int → Int} {j v : Int} (h : a = b) : (fun i : Int => if i = j then v else a i) = (fun i : Int => if i = j then v else b i) := by rw [h]
theorem st_u {A A' : qA} {r : Nat} {j v : Int} (e : A' = qu A r j v) : A' r = (fun i : Int => if i = j then v else A r i) := by
  subst e
  funext i
  rw [qu_is]
  by_cases h : i = j
  · rw [if_pos ⟨rfl, h⟩, if_pos h]
  · rw [if_neg (fun q => h q.2), if_neg h]
theorem up2 {g c : Int → Int} {j z j' z' : Int} (h : g = (fun i : Int => if i = j then z else c i)) (hj : j = j') (hz : z = z') : g = (fun i : Int => if i = j' then z' else c i) := by
  subst hj hz
  exact h
/-- a step of the code that is being written: a jump may still be open -/
def OST (c w δ : Int → Int) (cm wt k : Int) : Prop := 0 ≤ δ k ∧ δ k ≤ k ∧ ((c k / 1048576 = 0 ∧ δ (k + 1) = δ k + 1) ∨ (c k / 1048576 = 1 ∧ c k % 1048576 ≤ 13 ∧ δ (k + 1) = δ k + 1) ∨ (c k / 1048576 = 10 ∧ 1 ≤ δ k ∧ δ (k + 1) = δ k) ∨ ((c k / 1048576 = 11 ∨ c k / 1048576 = 12) ∧ 1 ≤ δ k ∧ δ (k + 1) = δ k - 1 ∧ ((k < c k % 1048576 ∧ c k % 1048576 ≤ cm ∧ δ (c k % 1048576) = δ k) ∨ ∃ j, 0 ≤ j ∧ j < wt ∧ (w j / 1048576 = 11 ∨ w j / 1048576 = 12) ∧ w j % 1048576 = k)) ∨ (2 ≤ c k / 1048576 ∧ c k / 1048576 ≤ 9 ∧ 2 ≤ δ k ∧ δ (k + 1) = δ k - 1))
/-- one that waits: signs and brackets of a sum from b on, what is open in a condition below -/
def VWT (c w δ φ ω : Int → Int) (f b cm j : Int) : Prop := 0 ≤ φ j ∧ 0 ≤ ω j ∧ ((b ≤ j ∧ 2 ≤ w j / 1048576 ∧ w j / 1048576 ≤ 6 ∧ φ (j + 1) = φ j + 1 ∧ ω (j + 1) = ω j + 1) ∨ (b ≤ j ∧ w j / 1048576 = 14 ∧ φ (j + 1) = φ j ∧ ω (j + 1) = ω j + 1) ∨ (j < b ∧ (w j / 1048576 = 10 ∨ w j / 1048576 = 13) ∧ φ (j + 1) = φ j ∧ ω (j + 1) = ω j + 1) ∨ (j < b ∧ (w j / 1048576 = 11 ∨ w j / 1048576 = 12) ∧ φ (j + 1) = φ j ∧ ω (j + 1) = ω j ∧ f ≤ w j % 1048576 ∧ w j % 1048576 < cm ∧ δ (w j % 1048576) = 1 ∧ (c (w j % 1048576) / 1048576 = 11 ∨ c (w j % 1048576) / 1048576 = 12))) ∧ (j = 0 → b ≠ 0 → w 0 / 1048576 = 13)
def PSr (c w : Int → Int) (cm wt pl : Int) (c0 : Int → Int) (f b e x : Int) : Prop := ∃ δ φ ω : Int → Int, ((0 ≤ f ∧ f ≤ cm) ∧ δ f = 0 ∧ δ cm = φ wt + e ∧ 0 ≤ δ cm ∧ δ cm ≤ cm) ∧ ((0 ≤ b ∧ b ≤ wt) ∧ φ b = 0 ∧ 0 ≤ φ wt ∧ 0 ≤ ω wt ∧ wt ≤ pl ∧ cm + ω wt + x ≤ pl) ∧ (∀ k, f ≤ k → k < cm → OST c w δ cm wt k) ∧ (∀ j, 0 ≤ j → j < wt → VWT c w δ φ ω f b cm j) ∧ (∀ k, k < f → c k = c0 k)
def PS (A : qA) (c0 : Int → Int) (f b e x : Int) : Prop := PSr (A 23) (A 24) (A 0 (fd 31)) (A 0 (fd 32)) (A 0 (fd 27)) c0 f b e x
theorem OST_m {c w δ c' w' δ' : Int → Int} {cm wt cm' wt' k : Int} (h : OST c w δ cm wt k) (hk : k < cm) (hc : c' k = c k) (hd : ∀ t, k ≤ t → t ≤ cm → δ' t = δ t) (hm : cm ≤ cm') (hw : ∀ j, 0 ≤ j → j < wt → (w j / 1048576 = 11 ∨ w j / 1048576 = 12) → w j % 1048576 = k → j < wt' ∧ w' j = w j) : OST c' w' δ' cm' wt' k := by
  unfold OST at h ⊢
  obtain ⟨h1, h2, h⟩ := h
  have d0 := hd k (by (first | (clear hm hnf; omega) | omega)) (by (first | (clear hm hnf; omega) | omega))
  have d1 := hd (k + 1) (by (first | (clear hm hnf; omega) | omega)) (by (first | (clear hm hnf; omega) | omega))
  rw [d0, d1, hc]
  refine ⟨h1, h2, ?_⟩
  rcases h with a | a | a | a | a
  · exact Or.inl a
  · exact Or.inr (Or.inl a)
  · exact Or.inr (Or.inr (Or.inl a))
  · obtain ⟨a1, a2, a3, a4⟩ := a
    refine Or.inr (Or.inr (Or.inr (Or.inl ⟨a1, a2, a3, ?_⟩)))
    rcases a4 with ⟨t1, t2, t3⟩ | ⟨j, j1, j2, j3, j4⟩
    · exact Or.inl ⟨t1, by (first | (clear hm hnf; omega) | omega), by rw [hd _ (by (first | (clear hm hnf; omega) | omega)) t2]; exact t3⟩
    · have hj := hw j j1 j2 j3 j4
      exact Or.inr ⟨j, j1, hj.1, by rw [hj.2]; exact j3, by rw [hj.2]; exact j4⟩
  · exact Or.inr (Or.inr (Or.inr (Or.inr a)))
theorem VWT_m {c w δ φ ω c' w' δ' φ' ω' : Int → Int} {f b cm b' cm' j : Int} (h : VWT c w δ φ ω f b cm j) (hw : w' j = w j) (hf0 : φ' j = φ j) (hf1 : φ' (j + 1) = φ (j + 1)) (ho0 : ω' j = ω j) (ho1 : ω' (j + 1) = ω (j + 1)) (hc : ∀ k, f ≤ k → k < cm → c' k / 1048576 = c k / 1048576 ∧ δ' k = δ k) (hm : cm ≤ cm') (hb : b ≤ j ↔ b' ≤ j) (hz : j = 0 → b' ≠ 0 → w' 0 / 1048576 = 13) : VWT c' w' δ' φ' ω' f b' cm' j := by
  unfold VWT at h ⊢
  obtain ⟨h1, h2, h, h3⟩ := h
  rw [hw, hf0, hf1, ho0, ho1]
  refine ⟨h1, h2, ?_, hz⟩
  rcases h with a | a | a | a
  · exact Or.inl ⟨hb.mp a.1, a.2⟩
  · exact Or.inr (Or.inl ⟨hb.mp a.1, a.2⟩)
  · exact Or.inr (Or.inr (Or.inl ⟨by have := a.1; omega, a.2⟩))
  · obtain ⟨a1, a2, a3, a4, a5, a6, a7, a8⟩ := a
    have hq := hc _ a5 a6
    refine Or.inr (Or.inr (Or.inr ⟨by (first | (clear hm hnf; omega) | omega), a2, a3, a4, a5, by (first | (clear hm hnf; omega) | omega), by rw [hq.2]; exact a7, by rw [hq.1]; exact a8⟩))
theorem up_n {c c' : Int → Int} {j z : Int} (h : c' = (fun i : Int => if i = j then z else c i)) {i : Int} (hi : i ≠ j) : c' i = c i := by
  subst h
  exact if_neg hi
theorem up_e {c c' : Int → Int} {j z : Int} (h : c' = (fun i : Int => if i = j then z else c i)) : c' j = z := by
  subst h
  exact if_pos rfl
/-- a step is written -/
theorem PSr_n {c w c' c0 : Int → Int} {cm wt pl pl' f b e x e' x' j z : Int} (h : PSr c w cm wt pl c0 f b e x) (hc : c' = (fun i : Int => if i = j then z else c i)) (hj : j = cm) (hp : pl ≤ pl') (hx : x' + 1 + pl ≤ x + pl') (ho : (z / 1048576 = 0 ∧ e' = e + 1) ∨ (z / 1048576 = 1 ∧ z % 1048576 ≤ 13 ∧ e' = e + 1) ∨ (z / 1048576 = 10 ∧ 1 ≤ e ∧ e' = e) ∨ (2 ≤ z / 1048576 ∧ z / 1048576 ≤ 9 ∧ e' = e - 1 ∧ (2 ≤ e ∨ (1 ≤ e ∧ 1 ≤ wt ∧ 2 ≤ w (wt - 1) / 1048576 ∧ w (wt - 1) / 1048576 ≤ 6)))) : PSr c' w (cm + 1) wt pl' c0 f b e' x' := by
  obtain ⟨δ, φ, ω, ⟨⟨a1, a2⟩, a3, a4, a5, a6⟩, ⟨⟨b1, b2⟩, b3, b4, b5, b6, b7⟩, hs, hv, h0⟩ := h
  subst hj
  obtain ⟨δ', hd, hd1⟩ : ∃ δ' : Int → Int, (∀ k, k ≤ j → δ' k = δ k) ∧ δ' (j + 1) = φ wt + e' := ⟨fun k => if k = j + 1 then φ wt + e' else δ k, fun k hk => if_neg (by (first | (clear hm hnf; omega) | omega)), if_pos rfl⟩
  have hz := up_e hc
  have hn : ∀ i, i ≠ j → c' i = c i := fun i hi => up_n hc hi
  have ht : (1 ≤ e ∧ 1 ≤ wt ∧ 2 ≤ w (wt - 1) / 1048576 ∧ w (wt - 1) / 1048576 ≤ 6) → 1 ≤ φ wt := fun ⟨_, q1, q2, q3⟩ => by
    have hq := hv (wt - 1) (by (first | (clear hm hnf; omega) | omega)) (by (first | (clear hm hnf; omega) | omega))
    unfold VWT at hq
    rw [show wt - 1 + 1 = wt by (first | (clear hm hnf; omega) | omega)] at hq
    omega
  refine ⟨δ', φ, ω, ⟨⟨a1, by (first | (clear hm hnf; omega) | omega)⟩, by rw [hd _ a2]; exact a3, hd1, by (first | (clear hm hnf; omega) | omega), by (first | (clear hm hnf; omega) | omega)⟩, ⟨⟨b1, b2⟩, b3, b4, b5, by (first | (clear hm hnf; omega) | omega), by (first | (clear hm hnf; omega) | omega)⟩, ?_, ?_, ?_⟩
  · intro k k0 k1
    by_cases hk : k = j
    · subst hk
      unfold OST
      rw [hd k (Int.le_refl _), hd1, hz]
      refine ⟨a5, a6, ?_⟩
      rcases ho with q | q | q | q
      · exact Or.inl ⟨q.1, by (first | (clear hm hnf; omega) | omega)⟩
      · exact Or.inr (Or.inl ⟨q.1, q.2.1, by (first | (clear hm hnf; omega) | omega)⟩)
      · exact Or.inr (Or.inr (Or.inl ⟨q.1, by (first | (clear hm hnf; omega) | omega), by (first | (clear hm hnf; omega) | omega)⟩))
      · exact Or.inr (Or.inr (Or.inr (Or.inr ⟨q.1, q.2.1, by (first | (clear hm hnf; omega) | omega), by (first | (clear hm hnf; omega) | omega)⟩)))
    · exact OST_m (hs k k0 (by (first | (clear hm hnf; omega) | omega))) (by (first | (clear hm hnf; omega) | omega)) (hn k hk) (fun t _ q => hd t q) (by (first | (clear hm hnf; omega) | omega)) (fun i _ q _ _ => ⟨q, rfl⟩)
  · intro i i0 i1
    have hq := hv i i0 i1
    exact VWT_m hq rfl rfl rfl rfl rfl (fun k k0 k1 => ⟨by rw [hn k (by (first | (clear hm hnf; omega) | omega))], hd k (by (first | (clear hm hnf; omega) | omega))⟩) (by (first | (clear hm hnf; omega) | omega)) Iff.rfl hq.2.2.2
  · intro k hk
    rw [hn k (by (first | (clear hm hnf; omega) | omega))]
    exact h0 k hk
/-- nothing of the code or of what waits changes -/
theorem PS_k {A A' : qA} {c0 : Int → Int} {f b e x b' e' x' : Int} (h : PS A c0 f b e x) (h23 : A' 23 = A 23) (h24 : A' 24 = A 24) (h31 : A' 0 (fd 31) = A 0 (fd 31)) (h32 : A' 0 (fd 32) = A 0 (fd 32)) (h27 : A 0 (fd 27) ≤ A' 0 (fd 27)) (hx : x' + A 0 (fd 27) ≤ x + A' 0 (fd 27)) (hb : b' = b) (he : e' = e) : PS A' c0 f b' e' x' := by
  subst hb he
  unfold PS at h ⊢
  rw [h23, h24, h31, h32]
  obtain ⟨δ, φ, ω, a, ⟨b0, b3, b4, b5, b6, b7⟩, hs⟩ := h
  exact ⟨δ, φ, ω, a, ⟨b0, b3, b4, b5, by (first | (clear hm hnf; omega) | omega), by (first | (clear hm hnf; omega) | omega)⟩, hs⟩
theorem PS_bd {A : qA} {c0 : Int → Int} {f b e x : Int} (h : PS A c0 f b e x) : 0 ≤ f ∧ f ≤ A 0 (fd 31) ∧ 0 ≤ b ∧ b ≤ A 0 (fd 32) ∧ A 0 (fd 32) ≤ A 0 (fd 27) ∧ A 0 (fd 31) + x ≤ A 0 (fd 27) := by
  obtain ⟨δ, φ, ω, ⟨⟨a1, a2⟩, a3, a4, a5, a6⟩, ⟨⟨b1, b2⟩, b3, b4, b5, b6, b7⟩, hs, hv, h0⟩ := h
  exact ⟨a1, a2, b1, b2, b6, by (first | (clear hm hnf; omega) | omega)⟩
theorem PS_n {A A' : qA} {c0 : Int → Int} {f b e x b' e' x' j z : Int} (h : PS A c0 f b e x) (h23 : A' 23 = (fun i : Int => if i = j then z else A 23 i)) (h24 : A' 24 = A 24) (hj : j = A 0 (fd 31)) (h31 : A' 0 (fd 31) = A 0 (fd 31) + 1) (h32 : A' 0 (fd 32) = A 0 (fd 32)) (h27 : A 0 (fd 27) ≤ A' 0 (fd 27)) (hx : x' + 1 + A 0 (fd 27) ≤ x + A' 0 (fd 27)) (hb : b' = b) (ho : (z / 1048576 = 0 ∧ e' = e + 1) ∨ (z / 1048576 = 1 ∧ z % 1048576 ≤ 13 ∧ e' = e + 1) ∨ (z / 1048576 = 10 ∧ 1 ≤ e ∧ e' = e) ∨ (2 ≤ z / 1048576 ∧ z / 1048576 ≤ 9 ∧ e' = e - 1 ∧ (2 ≤ e ∨ (1 ≤ e ∧ 1 ≤ A 0 (fd 32) ∧ 2 ≤ A 24 (A 0 (fd 32) - 1) / 1048576 ∧ A 24 (A 0 (fd 32) - 1) / 1048576 ≤ 6)))) : PS A' c0 f b' e' x' := by
  subst hb
  unfold PS at h ⊢
  rw [h24, h31, h32]
  exact PSr_n h h23 hj h27 hx ho
/-- the last one that waits is taken away -/
theorem PSr_p {c w c0 : Int → Int} {cm wt pl pl' f b e x e' x' b' : Int} (h : PSr c w cm wt pl c0 f b e x) (hw : 1 ≤ wt) (hp : pl ≤ pl') (hx : x' + pl ≤ x + 1 + pl') (hb : (b' = b ∧ b < wt) ∨ (b' = wt - 1 ∧ b = wt)) (hn : w (wt - 1) / 1048576 ≠ 11 ∧ w (wt - 1) / 1048576 ≠ 12) (hd : (2 ≤ w (wt - 1) / 1048576 ∧ w (wt - 1) / 1048576 ≤ 6 ∧ e' = e + 1) ∨ ((w (wt - 1) / 1048576 < 2 ∨ 6 < w (wt - 1) / 1048576) ∧ e' = e)) : PSr c w cm (wt - 1) pl' c0 f b' e' x' := by
  obtain ⟨δ, φ, ω, ⟨⟨a1, a2⟩, a3, a4, a5, a6⟩, ⟨⟨b1, b2⟩, b3, b4, b5, b6, b7⟩, hs, hv, h0⟩ := h
  have hq := hv (wt - 1) (by (first | (clear hm hnf; omega) | omega)) (by (first | (clear hm hnf; omega) | omega))
  have hq2 := hq
  unfold VWT at hq
  rw [show wt - 1 + 1 = wt by (first | (clear hm hnf; omega) | omega)] at hq
  obtain ⟨q1, q2, q3, q4⟩ := hq
  have hfb : φ b' = 0 := by
    rcases hb with ⟨r1, r2⟩ | ⟨r1, r2⟩
    · rw [r1]; exact b3
    · rw [r1]; rw [r2] at b3; omega
  refine ⟨δ, φ, ω, ⟨⟨a1, a2⟩, a3, by (first | (clear hm hnf; omega) | omega), a5, a6⟩, ⟨⟨by (first | (clear hm hnf; omega) | omega), by (first | (clear hm hnf; omega) | omega)⟩, hfb, q1, q2, by (first | (clear hm hnf; omega) | omega), by (first | (clear hm hnf; omega) | omega)⟩, ?_, ?_, h0⟩
  · intro k k0 k1
    refine OST_m (hs k k0 k1) k1 rfl (fun _ _ _ => rfl) (Int.le_refl _) (fun i i0 i1 i2 _ => ⟨?_, rfl⟩)
    by_cases hi : i = wt - 1
    · rw [hi] at i2; omega
    · omega
  · intro i i0 i1
    have hq := hv i i0 (by (first | (clear hm hnf; omega) | omega))
    exact VWT_m hq rfl rfl rfl rfl rfl (fun k _ _ => ⟨rfl, rfl⟩) (Int.le_refl _) (by (first | (clear hm hnf; omega) | omega)) (fun z1 z2 => hq.2.2.2 z1 (by (first | (clear hm hnf; omega) | omega)))
theorem PS_p {A A' : qA} {c0 : Int → Int} {f b e x b' e' x' : Int} (h : PS A c0 f b e x) (h23 : A' 23 = A 23) (h24 : A' 24 = A 24) (h31 : A' 0 (fd 31) = A 0 (fd 31)) (hw : 1 ≤ A 0 (fd 32)) (h32 : A' 0 (fd 32) = A 0 (fd 32) - 1) (h27 : A 0 (fd 27) ≤ A' 0 (fd 27)) (hx : x' + A 0 (fd 27) ≤ x + 1 + A' 0 (fd 27)) (hb : (b' = b ∧ b < A 0 (fd 32)) ∨ (b' = A 0 (fd 32) - 1 ∧ b = A 0 (fd 32))) (hn : A 24 (A 0 (fd 32) - 1) / 1048576 ≠ 11 ∧ A 24 (A 0 (fd 32) - 1) / 1048576 ≠ 12) (hd : (2 ≤ A 24 (A 0 (fd 32) - 1) / 1048576 ∧ A 24 (A 0 (fd 32) - 1) / 1048576 ≤ 6 ∧ e' = e + 1) ∨ ((A 24 (A 0 (fd 32) - 1) / 1048576 < 2 ∨ 6 < A 24 (A 0 (fd 32) - 1) / 1048576) ∧ e' = e)) : PS A' c0 f b' e' x' := by
  unfold PS at h ⊢
  rw [h23, h24, h31, h32]
  exact PSr_p h hw h27 hx hb hn hd
/-- one more waits -/
theorem PSr_q {c w w' c0 : Int → Int} {cm wt pl pl' f b e x e' x' b' j z : Int} (h : PSr c w cm wt pl c0 f b e x) (hc : w' = (fun i : Int => if i = j then z else w i)) (hj : j = wt) (hp : pl + 1 ≤ pl') (hx : x' + 1 + pl ≤ x + pl') (ho : (2 ≤ z / 1048576 ∧ z / 1048576 ≤ 6 ∧ b' = b ∧ b = 0 ∧ e' = e - 1) ∨ (2 ≤ z / 1048576 ∧ z / 1048576 ≤ 6 ∧ b' = b ∧ 1 ≤ b ∧ e' = e - 1) ∨ (z / 1048576 = 14 ∧ b' = b ∧ e' = e) ∨ ((z / 1048576 = 10 ∨ z / 1048576 = 13) ∧ b = wt ∧ b' = wt + 1 ∧ e' = e ∧ (wt = 0 → z / 1048576 = 13))) : PSr c w' cm (wt + 1) pl' c0 f b' e' x' := by
  obtain ⟨δ, φ, ω, ⟨⟨a1, a2⟩, a3, a4, a5, a6⟩, ⟨⟨b1, b2⟩, b3, b4, b5, b6, b7⟩, hs, hv, h0⟩ := h
  subst hj
  obtain ⟨φ', hf, hf1⟩ : ∃ φ' : Int → Int, (∀ k, k ≤ j → φ' k = φ k) ∧ φ' (j + 1) = φ j + e - e' := ⟨fun k => if k = j + 1 then φ j + e - e' else φ k, fun k hk => if_neg (by (first | (clear hm hnf; omega) | omega)), if_pos rfl⟩
  obtain ⟨ω', hg, hg1⟩ : ∃ ω' : Int → Int, (∀ k, k ≤ j → ω' k = ω k) ∧ ω' (j + 1) = ω j + 1 := ⟨fun k => if k = j + 1 then ω j + 1 else ω k, fun k hk => if_neg (by (first | (clear hm hnf; omega) | omega)), if_pos rfl⟩
  have hz := up_e hc
  have hn : ∀ i, i ≠ j → w' i = w i := fun i hi => up_n hc hi
  have hfb : φ' b' = 0 := by
    by_cases hbb : b' = b
    · rw [hbb, hf b b2]; exact b3
    · have e1 : b' = j + 1 := by (first | (clear hm hnf; omega) | omega)
      have e2 : b = j := by (first | (clear hm hnf; omega) | omega)
      rw [e2] at b3
      rw [e1]; omega
  refine ⟨δ, φ', ω', ⟨⟨a1, a2⟩, a3, by (first | (clear hm hnf; omega) | omega), a5, a6⟩, ⟨⟨by (first | (clear hm hnf; omega) | omega), by (first | (clear hm hnf; omega) | omega)⟩, hfb, by (first | (clear hm hnf; omega) | omega), by (first | (clear hm hnf; omega) | omega), by (first | (clear hm hnf; omega) | omega), by (first | (clear hm hnf; omega) | omega)⟩, ?_, ?_, h0⟩
  · intro k k0 k1
    exact OST_m (hs k k0 k1) k1 rfl (fun _ _ _ => rfl) (Int.le_refl _) (fun i i0 i1 i2 _ => ⟨by (first | (clear hm hnf; omega) | omega), hn i (by (first | (clear hm hnf; omega) | omega))⟩)
  · intro i i0 i1
    by_cases hi : i = j
    · subst hi
      unfold VWT
      rw [hf i (Int.le_refl _), hf1, hg i (Int.le_refl _), hg1, hz]
      refine ⟨b4, b5, ?_, ?_⟩
      · rcases ho with q | q | q | q
        · exact Or.inl ⟨by (first | (clear hm hnf; omega) | omega), q.1, q.2.1, by (first | (clear hm hnf; omega) | omega), by (first | (clear hm hnf; omega) | omega)⟩
        · exact Or.inl ⟨by (first | (clear hm hnf; omega) | omega), q.1, q.2.1, by (first | (clear hm hnf; omega) | omega), by (first | (clear hm hnf; omega) | omega)⟩
        · exact Or.inr (Or.inl ⟨by (first | (clear hm hnf; omega) | omega), q.1, by (first | (clear hm hnf; omega) | omega), by (first | (clear hm hnf; omega) | omega)⟩)
        · exact Or.inr (Or.inr (Or.inl ⟨by (first | (clear hm hnf; omega) | omega), q.1, by (first | (clear hm hnf; omega) | omega), by (first | (clear hm hnf; omega) | omega)⟩))
      · intro z1 z2
        rw [← z1, hz]
        omega
    · have hq := hv i i0 (by (first | (clear hm hnf; omega) | omega))
      refine VWT_m hq (hn i hi) (hf i (by (first | (clear hm hnf; omega) | omega))) (hf (i + 1) (by (first | (clear hm hnf; omega) | omega))) (hg i (by (first | (clear hm hnf; omega) | omega))) (hg (i + 1) (by (first | (clear hm hnf; omega) | omega))) (fun k _ _ => ⟨rfl, rfl⟩) (Int.le_refl _) (by (first | (clear hm hnf; omega) | omega)) (fun z1 z2 => ?_)
      rw [hn 0 (by (first | (clear hm hnf; omega) | omega))]
      exact hq.2.2.2 z1 (by (first | (clear hm hnf; omega) | omega))
theorem PS_q {A A' : qA} {c0 : Int → Int} {f b e x b' e' x' j z : Int} (h : PS A c0 f b e x) (h23 : A' 23 = A 23) (h24 : A' 24 = (fun i : Int => if i = j then z else A 24 i)) (hj : j = A 0 (fd 32)) (h31 : A' 0 (fd 31) = A 0 (fd 31)) (h32 : A' 0 (fd 32) = A 0 (fd 32) + 1) (h27 : A 0 (fd 27) + 1 ≤ A' 0 (fd 27)) (hx : x' + 1 + A 0 (fd 27) ≤ x + A' 0 (fd 27)) (ho : (2 ≤ z / 1048576 ∧ z / 1048576 ≤ 6 ∧ b' = b ∧ b = 0 ∧ e' = e - 1) ∨ (2 ≤ z / 1048576 ∧ z / 1048576 ≤ 6 ∧ b' = b ∧ 1 ≤ b ∧ e' = e - 1) ∨ (z / 1048576 = 14 ∧ b' = b ∧ e' = e) ∨ ((z / 1048576 = 10 ∨ z / 1048576 = 13) ∧ b = A 0 (fd 32) ∧ b' = A 0 (fd 32) + 1 ∧ e' = e ∧ (A 0 (fd 32) = 0 → z / 1048576 = 13))) : PS A' c0 f b' e' x' := by
  unfold PS at h ⊢
  rw [h23, h31, h32]
  exact PSr_q h h24 hj h27 hx ho
/-- a jump that waits for its end -/
theorem PSr_j {c w c' w' c0 : Int → Int} {cm wt pl pl' f b e x e' x' b' j z i0 y : Int} (h : PSr c w cm wt pl c0 f b e x) (hc : c' = (fun i : Int => if i = j then z else c i)) (hw : w' = (fun i : Int => if i = i0 then y else w i)) (hj : j = cm) (hi : i0 = wt) (hp : pl + 1 ≤ pl') (hx : x' + 1 + pl ≤ x + pl') (hb : b = wt) (hb' : b' = wt + 1) (h1 : 1 ≤ wt) (he : e = 1) (he' : e' = 0) (hz : z / 1048576 = 11 ∨ z / 1048576 = 12) (hy : (y / 1048576 = 11 ∨ y / 1048576 = 12) ∧ y % 1048576 = cm) : PSr c' w' (cm + 1) (wt + 1) pl' c0 f b' e' x' := by
  obtain ⟨δ, φ, ω, ⟨⟨a1, a2⟩, a3, a4, a5, a6⟩, ⟨⟨b1, b2⟩, b3, b4, b5, b6, b7⟩, hs, hv, h0⟩ := h
  subst hj hi
  subst hb he he'
  subst hb'
  obtain ⟨δ', hd, hd1⟩ : ∃ δ' : Int → Int, (∀ k, k ≤ j → δ' k = δ k) ∧ δ' (j + 1) = 0 := ⟨fun k => if k = j + 1 then 0 else δ k, fun k hk => if_neg (by (first | (clear hm hnf; omega) | omega)), if_pos rfl⟩
  obtain ⟨φ', hf, hf1⟩ : ∃ φ' : Int → Int, (∀ k, k ≤ b → φ' k = φ k) ∧ φ' (b + 1) = φ b := ⟨fun k => if k = b + 1 then φ b else φ k, fun k hk => if_neg (by (first | (clear hm hnf; omega) | omega)), if_pos rfl⟩
  obtain ⟨ω', hg, hg1⟩ : ∃ ω' : Int → Int, (∀ k, k ≤ b → ω' k = ω k) ∧ ω' (b + 1) = ω b := ⟨fun k => if k = b + 1 then ω b else ω k, fun k hk => if_neg (by (first | (clear hm hnf; omega) | omega)), if_pos rfl⟩
  have hcz := up_e hc
  have hcn : ∀ i, i ≠ j → c' i = c i := fun i hi => up_n hc hi
  have hwz := up_e hw
  have hwn : ∀ i, i ≠ b → w' i = w i := fun i hi => up_n hw hi
  refine ⟨δ', φ', ω', ⟨⟨a1, by (first | (clear hm hnf; omega) | omega)⟩, by rw [hd _ a2]; exact a3, by (first | (clear hm hnf; omega) | omega), by (first | (clear hm hnf; omega) | omega), by (first | (clear hm hnf; omega) | omega)⟩, ⟨⟨by (first | (clear hm hnf; omega) | omega), by (first | (clear hm hnf; omega) | omega)⟩, by (first | (clear hm hnf; omega) | omega), by (first | (clear hm hnf; omega) | omega), by (first | (clear hm hnf; omega) | omega), by (first | (clear hm hnf; omega) | omega), by (first | (clear hm hnf; omega) | omega)⟩, ?_, ?_, ?_⟩
  · intro k k0 k1
    by_cases hk : k = j
    · subst hk
      unfold OST
      rw [hd k (Int.le_refl _), hd1, hcz]
      exact ⟨a5, a6, Or.inr (Or.inr (Or.inr (Or.inl ⟨hz, by (first | (clear hm hnf; omega) | omega), by (first | (clear hm hnf; omega) | omega), Or.inr ⟨b, b1, by (first | (clear hm hnf; omega) | omega), by rw [hwz]; exact hy.1, by rw [hwz]; exact hy.2⟩⟩)))⟩
    · exact OST_m (hs k k0 (by (first | (clear hm hnf; omega) | omega))) (by (first | (clear hm hnf; omega) | omega)) (hcn k hk) (fun t _ q => hd t q) (by (first | (clear hm hnf; omega) | omega)) (fun i _ q _ _ => ⟨by (first | (clear hm hnf; omega) | omega), hwn i (by (first | (clear hm hnf; omega) | omega))⟩)
  · intro i q0 q1
    by_cases hi : i = b
    · subst hi
      unfold VWT
      rw [hf i (Int.le_refl _), hf1, hg i (Int.le_refl _), hg1, hwz, hy.2]
      refine ⟨b4, b5, Or.inr (Or.inr (Or.inr ⟨by (first | (clear hm hnf; omega) | omega), hy.1, rfl, rfl, a2, by (first | (clear hm hnf; omega) | omega), ?_, ?_⟩)), fun z1 z2 => by (first | (clear hm hnf; omega) | omega)⟩
      · rw [hd j (Int.le_refl _)]; omega
      · rw [hcz]; exact hz
    · have hq := hv i q0 (by (first | (clear hm hnf; omega) | omega))
      refine VWT_m hq (hwn i hi) (hf i (by (first | (clear hm hnf; omega) | omega))) (hf (i + 1) (by (first | (clear hm hnf; omega) | omega))) (hg i (by (first | (clear hm hnf; omega) | omega))) (hg (i + 1) (by (first | (clear hm hnf; omega) | omega))) (fun k _ k1 => ⟨by rw [hcn k (by (first | (clear hm hnf; omega) | omega))], hd k (by (first | (clear hm hnf; omega) | omega))⟩) (by (first | (clear hm hnf; omega) | omega)) (by (first | (clear hm hnf; omega) | omega)) (fun z1 z2 => ?_)
      rw [hwn 0 (by (first | (clear hm hnf; omega) | omega))]
      exact hq.2.2.2 z1 (by (first | (clear hm hnf; omega) | omega))
  · intro k hk
    rw [hcn k (by (first | (clear hm hnf; omega) | omega))]
    exact h0 k hk
theorem PS_j {A A' : qA} {c0 : Int → Int} {f b e x b' e' x' j z i0 y : Int} (h : PS A c0 f b e x) (h23 : A' 23 = (fun i : Int => if i = j then z else A 23 i)) (h24 : A' 24 = (fun i : Int => if i = i0 then y else A 24 i)) (hj : j = A 0 (fd 31)) (hi : i0 = A 0 (fd 32)) (h31 : A' 0 (fd 31) = A 0 (fd 31) + 1) (h32 : A' 0 (fd 32) = A 0 (fd 32) + 1) (h27 : A 0 (fd 27) + 1 ≤ A' 0 (fd 27)) (hx : x' + 1 + A 0 (fd 27) ≤ x + A' 0 (fd 27)) (hb : b = A 0 (fd 32)) (hb' : b' = A 0 (fd 32) + 1) (h1 : 1 ≤ A 0 (fd 32)) (he : e = 1) (he' : e' = 0) (hz : z / 1048576 = 11 ∨ z / 1048576 = 12) (hy : (y / 1048576 = 11 ∨ y / 1048576 = 12) ∧ y % 1048576 = A 0 (fd 31)) : PS A' c0 f b' e' x' := by
  unfold PS at h ⊢
  rw [h31, h32]
  exact PSr_j h h23 h24 hj hi h27 hx hb hb' h1 he he' hz hy
/-- where the last jump that waits stands -/
theorem PS_fr {A : qA} {c0 : Int → Int} {f b e x : Int} (h : PS A c0 f b e x) (h1 : 1 ≤ A 0 (fd 32)) (ht : A 24 (A 0 (fd 32) - 1) / 1048576 = 11 ∨ A 24 (A 0 (fd 32) - 1) / 1048576 = 12) : f ≤ A 24 (A 0 (fd 32) - 1) % 1048576 ∧ A 24 (A 0 (fd 32) - 1) % 1048576 < A 0 (fd 31) := by
  obtain ⟨δ, φ, ω, ⟨⟨a1, a2⟩, a3, a4, a5, a6⟩, ⟨⟨b1, b2⟩, b3, b4, b5, b6, b7⟩, hs, hv, h0⟩ := h
  have hq := hv (A 0 (fd 32) - 1) (by (first | (clear hm hnf; omega) | omega)) (by (first | (clear hm hnf; omega) | omega))
  unfold VWT at hq
  omega
/-- the last jump that waits lands -/
theorem PSr_l {c w c' c0 : Int → Int} {cm wt pl pl' f b e x b' x' j z : Int} (h : PSr c w cm wt pl c0 f b e x) (hc : c' = (fun i : Int => if i = j then z else c i)) (hw : 1 ≤ wt) (hb : b = wt) (hb' : b' = wt - 1) (he : e = 1) (hp : pl ≤ pl') (hx : x' + pl ≤ x + pl') (ht : w (wt - 1) / 1048576 = 11 ∨ w (wt - 1) / 1048576 = 12) (hj : j = w (wt - 1) % 1048576) (hz : z = 1048576 * (c j / 1048576) + cm) (hm : cm < 1048576) : PSr c' w cm (wt - 1) pl' c0 f b' e x' := by
  obtain ⟨δ, φ, ω, ⟨⟨a1, a2⟩, a3, a4, a5, a6⟩, ⟨⟨b1, b2⟩, b3, b4, b5, b6, b7⟩, hs, hv, h0⟩ := h
  subst hb
  have hq := hv (b - 1) (by (first | (clear hm hnf; omega) | omega)) (by (first | (clear hm hnf; omega) | omega))
  unfold VWT at hq
  rw [show b - 1 + 1 = b by (first | (clear hm hnf; omega) | omega), ← hj] at hq
  obtain ⟨q1, q2, q3, q4⟩ := hq
  have hcz := up_e hc
  have hcn : ∀ i, i ≠ j → c' i = c i := fun i hi => up_n hc hi
  have hcd : ∀ i, c' i / 1048576 = c i / 1048576 := fun i => by
    by_cases hi : i = j
    · rw [hi, hcz]; omega
    · rw [hcn i hi]
  have hjj : f ≤ j ∧ j < cm ∧ δ j = 1 ∧ (c j / 1048576 = 11 ∨ c j / 1048576 = 12) ∧ φ b = φ (b - 1) ∧ ω b = ω (b - 1) := by (first | (clear hm hnf; omega) | omega)
  subst hb'
  refine ⟨δ, φ, ω, ⟨⟨a1, a2⟩, a3, by (first | (clear hm hnf; omega) | omega), a5, a6⟩, ⟨⟨by (first | (clear hm hnf; omega) | omega), by (first | (clear hm hnf; omega) | omega)⟩, by (first | (clear hm hnf; omega) | omega), by (first | (clear hm hnf; omega) | omega), by (first | (clear hm hnf; omega) | omega), by (first | (clear hm hnf; omega) | omega), by (first | (clear hm hnf; omega) | omega)⟩, ?_, ?_, ?_⟩
  · intro k k0 k1
    by_cases hk : k = j
    · have ho := hs k k0 k1
      unfold OST at ho ⊢
      rw [hcd k]
      have h3 : c' k % 1048576 = cm := by rw [hk, hcz]; omega
      rw [h3]
      rw [← hk] at hjj
      refine ⟨ho.1, ho.2.1, Or.inr (Or.inr (Or.inr (Or.inl ⟨hjj.2.2.2.1, by (first | (clear hm hnf; omega) | omega), by (first | (clear hm hnf; omega) | omega), Or.inl ⟨k1, Int.le_refl _, by (first | (clear hm hnf; omega) | omega)⟩⟩)))⟩
    · refine OST_m (hs k k0 k1) k1 (hcn k hk) (fun _ _ _ => rfl) (Int.le_refl _) (fun i _ i1 _ i3 => ⟨?_, rfl⟩)
      by_cases hi : i = b - 1
      · rw [hi] at i3; omega
      · omega
  · intro i i0 i1
    have hq := hv i i0 (by (first | (clear hm hnf; omega) | omega))
    exact VWT_m hq rfl rfl rfl rfl rfl (fun k _ _ => ⟨hcd k, rfl⟩) (Int.le_refl _) (by (first | (clear hm hnf; omega) | omega)) (fun z1 z2 => hq.2.2.2 z1 (by (first | (clear hm hnf; omega) | omega)))
  · intro k hk
    rw [hcn k (by (first | (clear hm hnf; omega) | omega))]
    exact h0 k hk
theorem PS_l {A A' : qA} {c0 : Int → Int} {f b e x b' e' x' j z : Int} (h : PS A c0 f b e x) (h23 : A' 23 = (fun i : Int => if i = j then z else A 23 i)) (h24 : A' 24 = A 24) (h31 : A' 0 (fd 31) = A 0 (fd 31)) (hw : 1 ≤ A 0 (fd 32)) (h32 : A' 0 (fd 32) = A 0 (fd 32) - 1) (hb : b = A 0 (fd 32)) (hb' : b' = A 0 (fd 32) - 1) (he : e = 1) (he' : e' = 1) (h27 : A 0 (fd 27) ≤ A' 0 (fd 27)) (hx : x' + A 0 (fd 27) ≤ x + A' 0 (fd 27)) (ht : A 24 (A 0 (fd 32) - 1) / 1048576 = 11 ∨ A 24 (A 0 (fd 32) - 1) / 1048576 = 12) (hj : j = A 24 (A 0 (fd 32) - 1) % 1048576) (hz : z = 1048576 * (A 23 j / 1048576) + A 0 (fd 31)) (hm : A 0 (fd 31) < 1048576) : PS A' c0 f b' e' x' := by
  rw [show e' = e by (first | (clear hm hnf; omega) | omega)]
  unfold PS at h ⊢
  rw [h24, h31, h32]
  exact PSr_l h h23 hw hb hb' he h27 hx ht hj hz hm
/-- the first one that waits in a condition -/
theorem PS_w1 {A : qA} {c0 : Int → Int} {f b e x : Int} (h : PS A c0 f b e x) (hb : b = A 0 (fd 32)) (h1 : 1 ≤ A 0 (fd 32)) (ht : A 24 (A 0 (fd 32) - 1) / 1048576 ≠ 13) : 2 ≤ A 0 (fd 32) := by
  obtain ⟨δ, φ, ω, ⟨⟨a1, a2⟩, a3, a4, a5, a6⟩, ⟨⟨b1, b2⟩, b3, b4, b5, b6, b7⟩, hs, hv, h0⟩ := h
  by_cases hw : A 0 (fd 32) = 1
  · have hq := (hv 0 (by (first | (clear hm hnf; omega) | omega)) (by (first | (clear hm hnf; omega) | omega))).2.2.2 rfl (by (first | (clear hm hnf; omega) | omega))
    rw [hw] at ht
    exact absurd hq ht
  · omega
theorem PS_end {A : qA} {c0 : Int → Int} {f b e x : Int} (h : PS A c0 f b e x) (hs : A 0 (fd 32) = 0 ∨ A 24 (A 0 (fd 32) - 1) / 1048576 < 2 ∨ 6 < A 24 (A 0 (fd 32) - 1) / 1048576) (hn : ∀ j, b ≤ j → j < A 0 (fd 32) → A 24 j / 1048576 ≠ 14) : A 0 (fd 32) = b := by
  obtain ⟨δ, φ, ω, ⟨⟨a1, a2⟩, a3, a4, a5, a6⟩, ⟨⟨b1, b2⟩, b3, b4, b5, b6, b7⟩, _, hv, h0⟩ := h
  by_cases hw : A 0 (fd 32) = b
  · exact hw
  · have hq := hv (A 0 (fd 32) - 1) (by (first | (clear hm hnf; omega) | omega)) (by (first | (clear hm hnf; omega) | omega))
    have hq2 := hn (A 0 (fd 32) - 1) (by (first | (clear hm hnf; omega) | omega)) (by (first | (clear hm hnf; omega) | omega))
    unfold VWT at hq
    omega
theorem PS_top {A : qA} {c0 : Int → Int} {f b e x : Int} (h : PS A c0 f b e x) (hb : b < A 0 (fd 32)) (hs : A 0 (fd 32) = 0 ∨ A 24 (A 0 (fd 32) - 1) / 1048576 < 2 ∨ 6 < A 24 (A 0 (fd 32) - 1) / 1048576) : A 24 (A 0 (fd 32) - 1) / 1048576 = 14 := by
  obtain ⟨δ, φ, ω, ⟨⟨a1, a2⟩, a3, a4, a5, a6⟩, ⟨⟨b1, b2⟩, b3, b4, b5, b6, b7⟩, _, hv, h0⟩ := h
  have hq := hv (A 0 (fd 32) - 1) (by (first | (clear hm hnf; omega) | omega)) (by (first | (clear hm hnf; omega) | omega))
  unfold VWT at hq
  omega
theorem PS_low {A : qA} {c0 : Int → Int} {f b e x : Int} (h : PS A c0 f b e x) (hb : b = A 0 (fd 32)) (h1 : 1 ≤ A 0 (fd 32)) : 10 ≤ A 24 (A 0 (fd 32) - 1) / 1048576 ∧ A 24 (A 0 (fd 32) - 1) / 1048576 ≤ 13 := by
  obtain ⟨δ, φ, ω, ⟨⟨a1, a2⟩, a3, a4, a5, a6⟩, ⟨⟨b1, b2⟩, b3, b4, b5, b6, b7⟩, _, hv, h0⟩ := h
  have hq := hv (A 0 (fd 32) - 1) (by (first | (clear hm hnf; omega) | omega)) (by (first | (clear hm hnf; omega) | omega))
  unfold VWT at hq
  omega
theorem PS_0 {A A' : qA} (h23 : A' 23 = A 23) (h31 : A' 0 (fd 31) = A 0 (fd 31)) (h32 : A' 0 (fd 32) = 0) (h0 : 0 ≤ A 0 (fd 31)) (hp : A 0 (fd 31) ≤ A' 0 (fd 27)) : PS A' (A 23) (A 0 (fd 31)) 0 0 0 := by
  unfold PS
  rw [h23, h31, h32]
  exact ⟨fun _ => 0, fun _ => 0, fun _ => 0, ⟨⟨h0, Int.le_refl _⟩, rfl, rfl, Int.le_refl _, h0⟩, ⟨⟨Int.le_refl _, Int.le_refl _⟩, rfl, Int.le_refl _, Int.le_refl _, by (first | (clear hm hnf; omega) | omega), by show A 0 (fd 31) + 0 + 0 ≤ _; omega⟩, fun k q1 q2 => by (first | (clear hm hnf; omega) | omega), fun j q1 q2 => by (first | (clear hm hnf; omega) | omega), fun _ _ => rfl⟩
/-- code that is done -/
theorem SEG_c {c c' : Int → Int} {f t : Int} (h : SEG (fun _ => c) f t) (e : ∀ k, f ≤ k → k < t → c' k = c k) : SEG (fun _ => c') f t := by
  obtain ⟨δ, a, b, d, g, h⟩ := h
  refine ⟨δ, a, b, d, g, fun k h0 h1 => ?_⟩
  have := h k h0 h1
  unfold STEP at this ⊢
  simp only at this ⊢
  rw [e k h0 h1]
  exact this
theorem SEG_of {A : qA} {c : Int → Int} {f t : Int} (h : SEG (fun _ => c) f t) (e : ∀ k, f ≤ k → k < t → A 29 k = c k) : SEG A f t := by
  obtain ⟨δ, a, b, d, g, h⟩ := SEG_c h e
  exact ⟨δ, a, b, d, g, h⟩
theorem PS_seg {A : qA} {c0 : Int → Int} {f b e x : Int} (h : PS A c0 f b e x) (hw : A 0 (fd 32) = 0) (hm : A 0 (fd 31) ≤ 219) : SEG (fun _ => A 23) f (A 0 (fd 31)) := by
  obtain ⟨δ, φ, ω, ⟨⟨a1, a2⟩, a3, a4, a5, a6⟩, ⟨⟨b1, b2⟩, b3, b4, b5, b6, b7⟩, hs, hv, h0⟩ := h
  refine ⟨δ, a1, by (first | (clear hm hnf; omega) | omega), ⟨a2, by (first | (clear hm hnf; omega) | omega)⟩, a3, fun k k0 k1 => ?_⟩
  have hq := hs k k0 k1
  unfold OST at hq
  unfold STEP
  simp only
  obtain ⟨h1, h2, hq⟩ := hq
  refine ⟨h1, by (first | (clear hm hnf; omega) | omega), ?_⟩
  rcases hq with a | a | a | a | a
  · exact Or.inl a
  · exact Or.inr (Or.inl a)
  · exact Or.inr (Or.inr (Or.inl a))
  · obtain ⟨a1, a2, a3, a4⟩ := a
    rcases a4 with a4 | ⟨j, j1, j2, _⟩
    · exact Or.inr (Or.inr (Or.inr (Or.inl ⟨a1, a2, a3, a4.1, a4.2.1, a4.2.2⟩)))
    · omega
  · exact Or.inr (Or.inr (Or.inr (Or.inr a)))
theorem PS_c0 {A : qA} {c0 : Int → Int} {f b e x : Int} (h : PS A c0 f b e x) : ∀ k, k < f → A 23 k = c0 k := by
  obtain ⟨δ, φ, ω, _, _, _, _, h0⟩ := h
  exact h0
theorem top_k {A A' : qA} (h24 : A' 24 = A 24) (h32 : A' 0 (fd 32) = A 0 (fd 32)) : A' 24 (A' 0 (fd 32) - 1) = A 24 (A 0 (fd 32) - 1) := by rw [h24, h32]
theorem PS_hi {A : qA} {c0 : Int → Int} {f b e x : Int} (h : PS A c0 f b e x) (h1 : 1 ≤ A 0 (fd 32)) (ht : 2 ≤ A 24 (A 0 (fd 32) - 1) / 1048576 ∧ A 24 (A 0 (fd 32) - 1) / 1048576 ≤ 6) : b < A 0 (fd 32) := by
  obtain ⟨δ, φ, ω, ⟨⟨a1, a2⟩, a3, a4, a5, a6⟩, ⟨⟨b1, b2⟩, b3, b4, b5, b6, b7⟩, _, hv, h0⟩ := h
  have hq := hv (A 0 (fd 32) - 1) (by (first | (clear hm hnf; omega) | omega)) (by (first | (clear hm hnf; omega) | omega))
  unfold VWT at hq
  omega
def fM_here (A : qA) : Int := qlet (A 0 (fd 27)) fun v1 => qlet (A 0 (fd 28)) fun v4 => (if v1 < v4 then qlet (A 0 (fd 27)) fun v8 => qlet (A 22 v1) fun v12 => qlet (ia v12 255) fun v15 => v15 else (-1))
def sM_here : qS := fun as A K => as = [rf 0] ∧ (iva IM A ∧ ivf JM A) ∧ (∀ r : Int, (-1) ≤ r → r ≤ 255 → ((r < 0 ∧ A 0 (fd 28) ≤ A 0 (fd 27)) ∨ (A 0 (fd 27) < A 0 (fd 28) ∧ 0 ≤ r)) → (r = HR A) → (r = fM_here A) → K (some (ni r)) A)
theorem okM_here : okM LM 1 162 sM_here := by
  refine qmeth [] false [] 21 rfl trivial ?_
  rintro _ A K hA has ⟨rfl, ⟨i0, j0⟩, hK⟩
  have f0 := frm_0 [] [] A
  have hT : _ = fM_here A := (fM_here.eq_1 A).symm
  refine ⟨Nat.le_of_ble_eq_true rfl, [], trivial, ?_⟩
  refine fun v1 gv1 e2 => ?_
  replace hT := qlc e2 hT
  have b3 := ivf_at j0 6 rfl
  refine fun v4 gv4 e5 => ?_
  replace hT := qlc e5 hT
  have b6 := ivf_at j0 7 rfl
  refine And.intro (fun h7 => ?_) (fun h7 => ?_)
  · replace hT := (if_neg (Int.not_lt.mpr h7)).symm.trans hT
    exact hK _ (by (first | (clear hm hnf; omega) | omega)) (by (first | (clear hm hnf; omega) | omega)) (by first | assumption | omega | (unfold HR; split <;> first | omega | (subst_vars; rfl)) | simp_all) (by first | assumption | omega | (unfold HR; split <;> first | omega | (subst_vars; rfl)) | simp_all) hT
  · replace hT := (if_pos h7).symm.trans hT
    refine fun v8 gv8 e9 => ?_
    replace hT := qlc e9 hT
    have b10 := ivf_at j0 6 rfl
    have q11 : v1 = v8 := (e9.trans e2.symm).symm
    subst q11
    refine And.intro (by (first | (clear hm hnf; omega) | omega)) (fun v12 gv12 e13 => ?_)
    replace hT := qlc e13 hT
    have b14 := iva_at i0 10 rfl (i := v1) (by (first | (clear hm hnf; omega) | omega)) (by (first | (clear hm hnf; omega) | omega))
    refine fun v15 e16 => ?_
    replace hT := qlc e16 hT
    have h17 := ia_bd (a := v12) (b := 255) (by (first | (clear hm hnf; omega) | omega)) (by (first | (clear hm hnf; omega) | omega))
    exact hK _ (by (first | (clear hm hnf; omega) | omega)) (by (first | (clear hm hnf; omega) | omega)) (by first | assumption | omega | (unfold HR; split <;> first | omega | (subst_vars; rfl)) | simp_all) (by first | assumption | omega | (unfold HR; split <;> first | omega | (subst_vars; rfl)) | simp_all) hT
theorem pM_here {A : qA} (hA : qokA LM A) (p0 : iva IM A) (p1 : ivf JM A) : ((-1) ≤ (fM_here A) ∧ (fM_here A) ≤ 255) ∧ (((fM_here A) < 0 ∧ A 0 (fd 28) ≤ A 0 (fd 27)) ∨ (A 0 (fd 27) < A 0 (fd 28) ∧ 0 ≤ (fM_here A))) ∧ ((fM_here A) = HR A) := by
  obtain ⟨r, B, hB, _, hk⟩ := okM_ex okM_here (as := [rf 0]) (K := fun _ B => B = A ∧ ((-1) ≤ (fM_here A) ∧ (fM_here A) ≤ 255) ∧ (((fM_here A) < 0 ∧ A 0 (fd 28) ≤ A 0 (fd 27)) ∨ (A 0 (fd 27) < A 0 (fd 28) ∧ 0 ≤ (fM_here A))) ∧ ((fM_here A) = HR A)) hA (qoks_c (show qok (rf _) from trivial) qoks_n) ⟨rfl, ⟨p0, p1⟩, fun r9 g8 g9 x0 x1 x2 => (by rw [← x2]; exact ⟨rfl, ⟨g8, g9⟩, x0, x1⟩)⟩
  exact hk.2
def fM_isDigit (A : qA) : Int := qlet (fM_here A) fun r1 => (if r1 < 48 then 0 else qlet (fM_here A) fun r8 => (if 57 < r8 then 0 else 1))
def sM_isDigit : qS := fun as A K => as = [rf 0] ∧ (iva IM A ∧ ivf JM A) ∧ (∀ r : Int, 0 ≤ r → r ≤ 1 → (r = 0 ∨ A 0 (fd 27) < A 0 (fd 28)) → ((r = 1 ∧ 48 ≤ HR A ∧ HR A ≤ 57) ∨ (r = 0 ∧ (HR A < 48 ∨ 57 < HR A))) → (r = fM_isDigit A) → K (some (ni r)) A)
theorem okM_isDigit : okM LM 2 163 sM_isDigit := by
  refine qmeth [] false [(162, sM_here)] 18 rfl ⟨okM_here.le (by decide), trivial⟩ ?_
  rintro _ A K hA has ⟨rfl, ⟨i0, j0⟩, hK⟩
  have f0 := frm_0 [] [] A
  have hT : _ = fM_isDigit A := (fM_isDigit.eq_1 A).symm
  refine ⟨Nat.le_of_ble_eq_true rfl, [], trivial, ?_⟩
  refine And.intro rfl (And.intro (And.intro i0 j0) (fun r1 g5 g6 g2 g3 g4 => ?_))
  replace hT := qlc g4 hT
  clear g4
  refine And.intro (fun h7 => ?_) (fun h7 => ?_)
  · replace hT := (if_pos h7).symm.trans hT
    exact And.intro (by (first | (clear hm hnf; omega) | omega)) (hK _ (by (first | (clear hm hnf; omega) | omega)) (by (first | (clear hm hnf; omega) | omega)) (by first | assumption | omega | simp_all) (by first | assumption | omega | simp_all) hT)
  · replace hT := (if_neg (Int.not_lt.mpr h7)).symm.trans hT
    refine And.intro rfl (And.intro (And.intro i0 j0) (fun r8 g12 g13 g9 g10 g11 => ?_))
    replace hT := qlc g11 hT
    clear g11
    refine And.intro (fun h14 => ?_) (fun h14 => ?_)
    · replace hT := (if_pos h14).symm.trans hT
      exact And.intro (by (first | (clear hm hnf; omega) | omega)) (hK _ (by (first | (clear hm hnf; omega) | omega)) (by (first | (clear hm hnf; omega) | omega)) (by first | assumption | omega | simp_all) (by first | assumption | omega | simp_all) hT)
    · replace hT := (if_neg (Int.not_lt.mpr h14)).symm.trans hT
      exact And.intro (by (first | (clear hm hnf; omega) | omega)) (hK _ (by (first | (clear hm hnf; omega) | omega)) (by (first | (clear hm hnf; omega) | omega)) (by first | assumption | omega | simp_all) (by first | assumption | omega | simp_all) hT)
theorem pM_isDigit {A : qA} (hA : qokA LM A) (p0 : iva IM A) (p1 : ivf JM A) : (0 ≤ (fM_isDigit A) ∧ (fM_isDigit A) ≤ 1) ∧ ((fM_isDigit A) = 0 ∨ A 0 (fd 27) < A 0 (fd 28)) ∧ (((fM_isDigit A) = 1 ∧ 48 ≤ HR A ∧ HR A ≤ 57) ∨ ((fM_isDigit A) = 0 ∧ (HR A < 48 ∨ 57 < HR A))) := by
  obtain ⟨r, B, hB, _, hk⟩ := okM_ex okM_isDigit (as := [rf 0]) (K := fun _ B => B = A ∧ (0 ≤ (fM_isDigit A) ∧ (fM_isDigit A) ≤ 1) ∧ ((fM_isDigit A) = 0 ∨ A 0 (fd 27) < A 0 (fd 28)) ∧ (((fM_isDigit A) = 1 ∧ 48 ≤ HR A ∧ HR A ≤ 57) ∨ ((fM_isDigit A) = 0 ∧ (HR A < 48 ∨ 57 < HR A)))) hA (qoks_c (show qok (rf _) from trivial) qoks_n) ⟨rfl, ⟨p0, p1⟩, fun r9 g8 g9 x0 x1 x2 => (by rw [← x2]; exact ⟨rfl, ⟨g8, g9⟩, x0, x1⟩)⟩
  exact hk.2
def fM_wrongAt (w p : Int) (A : qA) : qA := qlet ((-1000) * w) fun v5 => qlet (v5 - p) fun v7 => qlet (qu A 0 (fd 29) v7) fun A9 => A9
def sM_wrongAt : qS := fun as A K => ∃ w p : Int, as = [rf 0, ni w, ni p] ∧ (iva IM A ∧ ivf JM A ∧ 1 ≤ w ∧ w ≤ 5 ∧ 0 ≤ p ∧ p ≤ 200) ∧ (∀ A' : qA, iva IM A' → ivf JM A' → frm [] [(0, 29)] A A' → (A' = fM_wrongAt w p A) → (True → K (some (ni 0)) A'))
theorem okM_wrongAt : okM LM 1 164 sM_wrongAt := by
  refine qmeth [] false [] 15 rfl trivial ?_
  rintro _ A K hA has ⟨w, p, rfl, ⟨i0, j0, p1, p2, p3, p4⟩, hK⟩
  have rg_w : rng w := has (ni w) (by simp)
  have rg_p : rng p := has (ni p) (by simp)
  have f0 := frm_0 [] [(0, 29)] A
  have hT : _ = fM_wrongAt w p A := (fM_wrongAt.eq_1 w p A).symm
  refine ⟨Nat.le_of_ble_eq_true rfl, [], trivial, ?_⟩
  refine fun v5 e6 => ?_
  replace hT := qlc e6 hT
  refine fun v7 e8 => ?_
  replace hT := qlc e8 hT
  refine And.intro (by (first | (clear hm hnf; omega) | omega)) (fun A9 e10 => ?_)
  replace hT := qlc e10 hT
  have i11 := iva_sf i0 e10 rfl
  have j12 := ivf_st j0 e10 trivial
  have f13 := frm_sf f0 e10 rfl
  exact And.intro (by (first | (clear hm hnf; omega) | omega)) ((hK _ i11 j12 f13 hT) (by first | omega | (subst_vars; omega) | (simp_all; done) | (simp_all; omega)))
theorem pM_wrongAt {w p : Int} {A : qA} (hA : qokA LM A) (p0 : iva IM A) (p1 : ivf JM A) (p2 : 1 ≤ w) (p3 : w ≤ 5) (p4 : 0 ≤ p) (p5 : p ≤ 200) : qokA LM (fM_wrongAt w p A) ∧ iva IM (fM_wrongAt w p A) ∧ ivf JM (fM_wrongAt w p A) ∧ frm [] [(0, 29)] A (fM_wrongAt w p A) := by
  obtain ⟨r, B, hB, _, hk⟩ := okM_ex okM_wrongAt (as := [rf 0, ni w, ni p]) (K := fun _ B => B = (fM_wrongAt w p A) ∧ iva IM (fM_wrongAt w p A) ∧ ivf JM (fM_wrongAt w p A) ∧ frm [] [(0, 29)] A (fM_wrongAt w p A)) hA (qoks_c (show qok (rf _) from trivial) (qoks_c (show rng w from ⟨by (first | (clear hm hnf; omega) | omega), by (first | (clear hm hnf; omega) | omega)⟩) (qoks_c (show rng p from ⟨by (first | (clear hm hnf; omega) | omega), by (first | (clear hm hnf; omega) | omega)⟩) qoks_n))) ⟨w, p, rfl, ⟨p0, p1, p2, p3, p4, p5⟩, fun A9 i9 j9 f9 x0 => (by rw [← x0]; exact fun _ => ⟨rfl, i9, j9, f9⟩)⟩
  exact ⟨hk.1 ▸ hB, hk.2⟩
def fM_takes (c : Int) (A : qA) : Int × qA := qlet (fM_here A) fun r3 => (if r3 = c then qlet (A 0 (fd 27)) fun v10 => qlet (v10 + 1) fun v13 => qlet (qu A 0 (fd 27) v13) fun A15 => (1, A15) else qlet (A 0 (fd 27)) fun v22 => qlet (fM_wrongAt 1 v22 A) fun A25 => (0, A25))
def sM_takes : qS := fun as A K => ∃ c : Int, as = [rf 0, ni c] ∧ (iva IM A ∧ ivf JM A ∧ 0 ≤ c ∧ c ≤ 255) ∧ (∀ A' : qA, iva IM A' → ivf JM A' → frm [] [(0, 27), (0, 29)] A A' → ∀ r : Int, 0 ≤ r → r ≤ 1 → (A 0 (fd 27) ≤ A' 0 (fd 27)) → (r = (fM_takes c A).1) → (A' = (fM_takes c A).2) → K (some (ni r)) A')
theorem okM_takes : okM LM 2 165 sM_takes := by
  refine qmeth [] false [(162, sM_here), (164, sM_wrongAt)] 24 rfl ⟨okM_here.le (by decide), ⟨okM_wrongAt.le (by decide), trivial⟩⟩ ?_
  rintro _ A K hA has ⟨c, rfl, ⟨i0, j0, p1, p2⟩, hK⟩
  have rg_c : rng c := has (ni c) (by simp)
  have f0 := frm_0 [] [(0, 27), (0, 29)] A
  have hb_0_27 := ivf_at j0 6 rfl
  have hb_0_28 := ivf_at j0 7 rfl
  have hT : _ = fM_takes c A := (fM_takes.eq_1 c A).symm
  refine ⟨Nat.le_of_ble_eq_true rfl, [], trivial, ?_⟩
  refine And.intro rfl (And.intro (And.intro i0 j0) (fun r3 g7 g8 g4 g5 g6 => ?_))
  replace hT := qlc g6 hT
  clear g6
  refine And.intro (fun h9 => ?_) (fun h9 => ?_)
  · replace hT := (if_pos h9).symm.trans hT
    refine fun v10 gv10 e11 => ?_
    replace hT := qlc e11 hT
    have b12 := ivf_at j0 6 rfl
    refine fun v13 e14 => ?_
    replace hT := qlc e14 hT
    refine And.intro (by (first | (clear hm hnf; omega) | omega)) (fun A15 e16 => ?_)
    replace hT := qlc e16 hT
    have i17 := iva_sf i0 e16 rfl
    have j18 := ivf_st j0 e16 (And.intro (by (first | (clear hm hnf; omega) | omega)) trivial)
    have f19 := frm_sf f0 e16 rfl
    have t20 := st_v e16
    have t21 : A15 0 (fd 28) = A 0 (fd 28) := (st_f e16 rfl)
    exact And.intro (by (first | (clear hm hnf; omega) | omega)) (hK _ i17 j18 f19 _ (by (first | (clear hm hnf; omega) | omega)) (by (first | (clear hm hnf; omega) | omega)) (by first | assumption | omega | simp_all) (congrArg Prod.fst hT) (congrArg Prod.snd hT))
  · replace hT := (if_neg h9).symm.trans hT
    refine fun v22 gv22 e23 => ?_
    replace hT := qlc e23 hT
    have b24 := ivf_at j0 6 rfl
    refine Exists.intro 1 (Exists.intro v22 (And.intro rfl (And.intro (And.intro i0 (And.intro j0 (And.intro (by (first | (clear hm hnf; omega) | omega)) (And.intro (by (first | (clear hm hnf; omega) | omega)) (And.intro (by (first | (clear hm hnf; omega) | omega)) (by (first | (clear hm hnf; omega) | omega))))))) (fun A25 i26 j27 f28 g29 => (fun h30 => ?_)))))
    · replace hT := qlc g29 hT
      have f31 := frm_c f0 f28 rfl
      have t32 : A25 0 (fd 27) = A 0 (fd 27) := (frm_f f28 rfl)
      have t33 : A25 0 (fd 28) = A 0 (fd 28) := (frm_f f28 rfl)
      exact And.intro (by (first | (clear hm hnf; omega) | omega)) (hK _ i26 j27 f31 _ (by (first | (clear hm hnf; omega) | omega)) (by (first | (clear hm hnf; omega) | omega)) (by first | assumption | omega | simp_all) (congrArg Prod.fst hT) (congrArg Prod.snd hT))
theorem pM_takes {c : Int} {A : qA} (hA : qokA LM A) (p0 : iva IM A) (p1 : ivf JM A) (p2 : 0 ≤ c) (p3 : c ≤ 255) : qokA LM (fM_takes c A).2 ∧ iva IM (fM_takes c A).2 ∧ ivf JM (fM_takes c A).2 ∧ frm [] [(0, 27), (0, 29)] A (fM_takes c A).2 ∧ (0 ≤ (fM_takes c A).1 ∧ (fM_takes c A).1 ≤ 1) ∧ (A 0 (fd 27) ≤ (fM_takes c A).2 0 (fd 27)) := by
  obtain ⟨r, B, hB, _, hk⟩ := okM_ex okM_takes (as := [rf 0, ni c]) (K := fun _ B => B = (fM_takes c A).2 ∧ iva IM (fM_takes c A).2 ∧ ivf JM (fM_takes c A).2 ∧ frm [] [(0, 27), (0, 29)] A (fM_takes c A).2 ∧ (0 ≤ (fM_takes c A).1 ∧ (fM_takes c A).1 ≤ 1) ∧ (A 0 (fd 27) ≤ (fM_takes c A).2 0 (fd 27))) hA (qoks_c (show qok (rf _) from trivial) (qoks_c (show rng c from ⟨by (first | (clear hm hnf; omega) | omega), by (first | (clear hm hnf; omega) | omega)⟩) qoks_n)) ⟨c, rfl, ⟨p0, p1, p2, p3⟩, fun A9 i9 j9 f9 r9 g8 g9 x0 x1 x2 => (by rw [← x2]; (try rw [← x1]); exact ⟨rfl, i9, j9, f9, ⟨g8, g9⟩, x0⟩)⟩
  exact ⟨hk.1 ▸ hB, hk.2⟩
def fM_factOf (c : Int) (A : qA) : Int := (if c = 98 then 13 else (if c = 99 then (-1) else (if c = 100 then 10 else (if c = 101 then (-1) else (if c = 102 then (-1) else (if c = 103 then (-1) else (if c = 104 then (-1) else (if c = 105 then (-1) else (if c = 106 then 6 else (if c = 107 then 0 else (if c = 108 then 3 else (if c = 109 then 12 else (if c = 110 then 5 else (if c = 111 then (-1) else (if c = 112 then 9 else (if c = 113 then (-1) else (if c = 114 then 8 else (if c = 115 then 4 else (if c = 116 then 11 else (if c = 117 then (-1) else (if c = 118 then (-1) else (if c = 119 then 7 else (if c = 120 then 2 else (if c = 121 then 1 else (-1)))))))))))))))))))))))))
def sM_factOf : qS := fun as A K => ∃ c : Int, as = [ni c] ∧ (∀ r : Int, (-1) ≤ r → r ≤ 13 → (r = -1 ∨ 0 < c) → (r = fM_factOf c A) → K (some (ni r)) A)
theorem okM_factOf : okM LM 1 170 sM_factOf := by
  refine qmeth [] false [] 38 rfl trivial ?_
  rintro _ A K hA has ⟨c, rfl, hK⟩
  have rg_c : rng c := has (ni c) (by simp)
  have hT : _ = fM_factOf c A := (fM_factOf.eq_1 c A).symm
  refine ⟨Nat.le_of_ble_eq_true rfl, [], trivial, ?_⟩
  refine (And.intro (fun h1 => ?_) (And.intro (fun h1 => ?_) (And.intro (fun h1 => ?_) (And.intro (fun h1 => ?_) (And.intro (fun h1 => ?_) (And.intro (fun h1 => ?_) (And.intro (fun h1 => ?_) (And.intro (fun h1 => ?_) (And.intro (fun h1 => ?_) (And.intro (fun h1 => ?_) (And.intro (fun h1 => ?_) (And.intro (fun h1 => ?_) (And.intro (fun h1 => ?_) (And.intro (fun h1 => ?_) (And.intro (fun h1 => ?_) (And.intro (fun h1 => ?_) (And.intro (fun h1 => ?_) (And.intro (fun h1 => ?_) (And.intro (fun h1 => ?_) (And.intro (fun h1 => ?_) (And.intro (fun h1 => ?_) (And.intro (fun h1 => ?_) (And.intro (fun h1 => ?_) (And.intro (fun h1 => ?_) (And.intro (fun h1 => ?_) trivial)))))))))))))))))))))))))
  · replace hT := (if_neg (show ¬ (c = 98) by (first | (clear hm hnf; omega) | omega))).symm.trans hT
    replace hT := (if_neg (show ¬ (c = 99) by (first | (clear hm hnf; omega) | omega))).symm.trans hT
    replace hT := (if_neg (show ¬ (c = 100) by (first | (clear hm hnf; omega) | omega))).symm.trans hT
    replace hT := (if_neg (show ¬ (c = 101) by (first | (clear hm hnf; omega) | omega))).symm.trans hT
    replace hT := (if_neg (show ¬ (c = 102) by (first | (clear hm hnf; omega) | omega))).symm.trans hT
    replace hT := (if_neg (show ¬ (c = 103) by (first | (clear hm hnf; omega) | omega))).symm.trans hT
    replace hT := (if_neg (show ¬ (c = 104) by (first | (clear hm hnf; omega) | omega))).symm.trans hT
    replace hT := (if_neg (show ¬ (c = 105) by (first | (clear hm hnf; omega) | omega))).symm.trans hT
    replace hT := (if_neg (show ¬ (c = 106) by (first | (clear hm hnf; omega) | omega))).symm.trans hT
    replace hT := (if_neg (show ¬ (c = 107) by (first | (clear hm hnf; omega) | omega))).symm.trans hT
    replace hT := (if_neg (show ¬ (c = 108) by (first | (clear hm hnf; omega) | omega))).symm.trans hT
    replace hT := (if_neg (show ¬ (c = 109) by (first | (clear hm hnf; omega) | omega))).symm.trans hT
    replace hT := (if_neg (show ¬ (c = 110) by (first | (clear hm hnf; omega) | omega))).symm.trans hT
    replace hT := (if_neg (show ¬ (c = 111) by (first | (clear hm hnf; omega) | omega))).symm.trans hT
    replace hT := (if_neg (show ¬ (c = 112) by (first | (clear hm hnf; omega) | omega))).symm.trans hT
    replace hT := (if_neg (show ¬ (c = 113) by (first | (clear hm hnf; omega) | omega))).symm.trans hT
    replace hT := (if_neg (show ¬ (c = 114) by (first | (clear hm hnf; omega) | omega))).symm.trans hT
    replace hT := (if_neg (show ¬ (c = 115) by (first | (clear hm hnf; omega) | omega))).symm.trans hT
    replace hT := (if_neg (show ¬ (c = 116) by (first | (clear hm hnf; omega) | omega))).symm.trans hT
    replace hT := (if_neg (show ¬ (c = 117) by (first | (clear hm hnf; omega) | omega))).symm.trans hT
    replace hT := (if_neg (show ¬ (c = 118) by (first | (clear hm hnf; omega) | omega))).symm.trans hT
    replace hT := (if_neg (show ¬ (c = 119) by (first | (clear hm hnf; omega) | omega))).symm.trans hT
    replace hT := (if_neg (show ¬ (c = 120) by (first | (clear hm hnf; omega) | omega))).symm.trans hT
    replace hT := (if_neg (show ¬ (c = 121) by (first | (clear hm hnf; omega) | omega))).symm.trans hT
    exact hK _ (by (first | (clear hm hnf; omega) | omega)) (by (first | (clear hm hnf; omega) | omega)) (by first | assumption | omega | simp_all) hT
  · replace hT := (if_pos (show c = 98 by (first | (clear hm hnf; omega) | omega))).symm.trans hT
    exact hK _ (by (first | (clear hm hnf; omega) | omega)) (by (first | (clear hm hnf; omega) | omega)) (by first | assumption | omega | simp_all) hT
  · replace hT := (if_neg (show ¬ (c = 98) by (first | (clear hm hnf; omega) | omega))).symm.trans hT
    replace hT := (if_pos (show c = 99 by (first | (clear hm hnf; omega) | omega))).symm.trans hT
    exact hK _ (by (first | (clear hm hnf; omega) | omega)) (by (first | (clear hm hnf; omega) | omega)) (by first | assumption | omega | simp_all) hT
  · replace hT := (if_neg (show ¬ (c = 98) by (first | (clear hm hnf; omega) | omega))).symm.trans hT
    replace hT := (if_neg (show ¬ (c = 99) by (first | (clear hm hnf; omega) | omega))).symm.trans hT
    replace hT := (if_pos (show c = 100 by (first | (clear hm hnf; omega) | omega))).symm.trans hT
    exact hK _ (by (first | (clear hm hnf; omega) | omega)) (by (first | (clear hm hnf; omega) | omega)) (by first | assumption | omega | simp_all) hT
  · replace hT := (if_neg (show ¬ (c = 98) by (first | (clear hm hnf; omega) | omega))).symm.trans hT
    replace hT := (if_neg (show ¬ (c = 99) by (first | (clear hm hnf; omega) | omega))).symm.trans hT
    replace hT := (if_neg (show ¬ (c = 100) by (first | (clear hm hnf; omega) | omega))).symm.trans hT
    replace hT := (if_pos (show c = 101 by (first | (clear hm hnf; omega) | omega))).symm.trans hT
    exact hK _ (by (first | (clear hm hnf; omega) | omega)) (by (first | (clear hm hnf; omega) | omega)) (by first | assumption | omega | simp_all) hT
  · replace hT := (if_neg (show ¬ (c = 98) by (first | (clear hm hnf; omega) | omega))).symm.trans hT
    replace hT := (if_neg (show ¬ (c = 99) by (first | (clear hm hnf; omega) | omega))).symm.trans hT
    replace hT := (if_neg (show ¬ (c = 100) by (first | (clear hm hnf; omega) | omega))).symm.trans hT
    replace hT := (if_neg (show ¬ (c = 101) by (first | (clear hm hnf; omega) | omega))).symm.trans hT
    replace hT := (if_pos (show c = 102 by (first | (clear hm hnf; omega) | omega))).symm.trans hT
    exact hK _ (by (first | (clear hm hnf; omega) | omega)) (by (first | (clear hm hnf; omega) | omega)) (by first | assumption | omega | simp_all) hT
  · replace hT := (if_neg (show ¬ (c = 98) by (first | (clear hm hnf; omega) | omega))).symm.trans hT
    replace hT := (if_neg (show ¬ (c = 99) by (first | (clear hm hnf; omega) | omega))).symm.trans hT
    replace hT := (if_neg (show ¬ (c = 100) by (first | (clear hm hnf; omega) | omega))).symm.trans hT
    replace hT := (if_neg (show ¬ (c = 101) by (first | (clear hm hnf; omega) | omega))).symm.trans hT
    replace hT := (if_neg (show ¬ (c = 102) by (first | (clear hm hnf; omega) | omega))).symm.trans hT
    replace hT := (if_pos (show c = 103 by (first | (clear hm hnf; omega) | omega))).symm.trans hT
    exact hK _ (by (first | (clear hm hnf; omega) | omega)) (by (first | (clear hm hnf; omega) | omega)) (by first | assumption | omega | simp_all) hT
  · replace hT := (if_neg (show ¬ (c = 98) by (first | (clear hm hnf; omega) | omega))).symm.trans hT
    replace hT := (if_neg (show ¬ (c = 99) by (first | (clear hm hnf; omega) | omega))).symm.trans hT
    replace hT := (if_neg (show ¬ (c = 100) by (first | (clear hm hnf; omega) | omega))).symm.trans hT
    replace hT := (if_neg (show ¬ (c = 101) by (first | (clear hm hnf; omega) | omega))).symm.trans hT
    replace hT := (if_neg (show ¬ (c = 102) by (first | (clear hm hnf; omega) | omega))).symm.trans hT
    replace hT := (if_neg (show ¬ (c = 103) by (first | (clear hm hnf; omega) | omega))).symm.trans hT
    replace hT := (if_pos (show c = 104 by (first | (clear hm hnf; omega) | omega))).symm.trans hT
    exact hK _ (by (first | (clear hm hnf; omega) | omega)) (by (first | (clear hm hnf; omega) | omega)) (by first | assumption | omega | simp_all) hT
  · replace hT := (if_neg (show ¬ (c = 98) by (first | (clear hm hnf; omega) | omega))).symm.trans hT
    replace hT := (if_neg (show ¬ (c = 99) by (first | (clear hm hnf; omega) | omega))).symm.trans hT
    replace hT := (if_neg (show ¬ (c = 100) by (first | (clear hm hnf; omega) | omega))).symm.trans hT
    replace hT := (if_neg (show ¬ (c = 101) by (first | (clear hm hnf; omega) | omega))).symm.trans hT
    replace hT := (if_neg (show ¬ (c = 102) by (first | (clear hm hnf; omega) | omega))).symm.trans hT
    replace hT := (if_neg (show ¬ (c = 103) by (first | (clear hm hnf; omega) | omega))).symm.trans hT
    replace hT := (if_neg (show ¬ (c = 104) by (first | (clear hm hnf; omega) | omega))).symm.trans hT
    replace hT := (if_pos (show c = 105 by (first | (clear hm hnf; omega) | omega))).symm.trans hT
    exact hK _ (by (first | (clear hm hnf; omega) | omega)) (by (first | (clear hm hnf; omega) | omega)) (by first | assumption | omega | simp_all) hT
  · replace hT := (if_neg (show ¬ (c = 98) by (first | (clear hm hnf; omega) | omega))).symm.trans hT
    replace hT := (if_neg (show ¬ (c = 99) by (first | (clear hm hnf; omega) | omega))).symm.trans hT
    replace hT := (if_neg (show ¬ (c = 100) by (first | (clear hm hnf; omega) | omega))).symm.trans hT
    replace hT := (if_neg (show ¬ (c = 101) by (first | (clear hm hnf; omega) | omega))).symm.trans hT
    replace hT := (if_neg (show ¬ (c = 102) by (first | (clear hm hnf; omega) | omega))).symm.trans hT
    replace hT := (if_neg (show ¬ (c = 103) by (first | (clear hm hnf; omega) | omega))).symm.trans hT
    replace hT := (if_neg (show ¬ (c = 104) by (first | (clear hm hnf; omega) | omega))).symm.trans hT
    replace hT := (if_neg (show ¬ (c = 105) by (first | (clear hm hnf; omega) | omega))).symm.trans hT
    replace hT := (if_pos (show c = 106 by (first | (clear hm hnf; omega) | omega))).symm.trans hT
    exact hK _ (by (first | (clear hm hnf; omega) | omega)) (by (first | (clear hm hnf; omega) | omega)) (by first | assumption | omega | simp_all) hT
  · replace hT := (if_neg (show ¬ (c = 98) by (first | (clear hm hnf; omega) | omega))).symm.trans hT
    replace hT := (if_neg (show ¬ (c = 99) by (first | (clear hm hnf; omega) | omega))).symm.trans hT
    replace hT := (if_neg (show ¬ (c = 100) by (first | (clear hm hnf; omega) | omega))).symm.trans hT
    replace hT := (if_neg (show ¬ (c = 101) by (first | (clear hm hnf; omega) | omega))).symm.trans hT
    replace hT := (if_neg (show ¬ (c = 102) by (first | (clear hm hnf; omega) | omega))).symm.trans hT
    replace hT := (if_neg (show ¬ (c = 103) by (first | (clear hm hnf; omega) | omega))).symm.trans hT
    replace hT := (if_neg (show ¬ (c = 104) by (first | (clear hm hnf; omega) | omega))).symm.trans hT
    replace hT := (if_neg (show ¬ (c = 105) by (first | (clear hm hnf; omega) | omega))).symm.trans hT
    replace hT := (if_neg (show ¬ (c = 106) by (first | (clear hm hnf; omega) | omega))).symm.trans hT
    replace hT := (if_pos (show c = 107 by (first | (clear hm hnf; omega) | omega))).symm.trans hT
    exact hK _ (by (first | (clear hm hnf; omega) | omega)) (by (first | (clear hm hnf; omega) | omega)) (by first | assumption | omega | simp_all) hT
  · replace hT := (if_neg (show ¬ (c = 98) by (first | (clear hm hnf; omega) | omega))).symm.trans hT
    replace hT := (if_neg (show ¬ (c = 99) by (first | (clear hm hnf; omega) | omega))).symm.trans hT
    replace hT := (if_neg (show ¬ (c = 100) by (first | (clear hm hnf; omega) | omega))).symm.trans hT
    replace hT := (if_neg (show ¬ (c = 101) by (first | (clear hm hnf; omega) | omega))).symm.trans hT
    replace hT := (if_neg (show ¬ (c = 102) by (first | (clear hm hnf; omega) | omega))).symm.trans hT
    replace hT := (if_neg (show ¬ (c = 103) by (first | (clear hm hnf; omega) | omega))).symm.trans hT
    replace hT := (if_neg (show ¬ (c = 104) by (first | (clear hm hnf; omega) | omega))).symm.trans hT
    replace hT := (if_neg (show ¬ (c = 105) by (first | (clear hm hnf; omega) | omega))).symm.trans hT
    replace hT := (if_neg (show ¬ (c = 106) by (first | (clear hm hnf; omega) | omega))).symm.trans hT
    replace hT := (if_neg (show ¬ (c = 107) by (first | (clear hm hnf; omega) | omega))).symm.trans hT
    replace hT := (if_pos (show c = 108 by (first | (clear hm hnf; omega) | omega))).symm.trans hT
    exact hK _ (by (first | (clear hm hnf; omega) | omega)) (by (first | (clear hm hnf; omega) | omega)) (by first | assumption | omega | simp_all) hT
  · replace hT := (if_neg (show ¬ (c = 98) by (first | (clear hm hnf; omega) | omega))).symm.trans hT
    replace hT := (if_neg (show ¬ (c = 99) by (first | (clear hm hnf; omega) | omega))).symm.trans hT
    replace hT := (if_neg (show ¬ (c = 100) by (first | (clear hm hnf; omega) | omega))).symm.trans hT
    replace hT := (if_neg (show ¬ (c = 101) by (first | (clear hm hnf; omega) | omega))).symm.trans hT
    replace hT := (if_neg (show ¬ (c = 102) by (first | (clear hm hnf; omega) | omega))).symm.trans hT
    replace hT := (if_neg (show ¬ (c = 103) by (first | (clear hm hnf; omega) | omega))).symm.trans hT
    replace hT := (if_neg (show ¬ (c = 104) by (first | (clear hm hnf; omega) | omega))).symm.trans hT
    replace hT := (if_neg (show ¬ (c = 105) by (first | (clear hm hnf; omega) | omega))).symm.trans hT
    replace hT := (if_neg (show ¬ (c = 106) by (first | (clear hm hnf; omega) | omega))).symm.trans hT
    replace hT := (if_neg (show ¬ (c = 107) by (first | (clear hm hnf; omega) | omega))).symm.trans hT
    replace hT := (if_neg (show ¬ (c = 108) by (first | (clear hm hnf; omega) | omega))).symm.trans hT
    replace hT := (if_pos (show c = 109 by (first | (clear hm hnf; omega) | omega))).symm.trans hT
    exact hK _ (by (first | (clear hm hnf; omega) | omega)) (by (first | (clear hm hnf; omega) | omega)) (by first | assumption | omega | simp_all) hT
  · replace hT := (if_neg (show ¬ (c = 98) by (first | (clear hm hnf; omega) | omega))).symm.trans hT
    replace hT := (if_neg (show ¬ (c = 99) by (first | (clear hm hnf; omega) | omega))).symm.trans hT
    replace hT := (if_neg (show ¬ (c = 100) by (first | (clear hm hnf; omega) | omega))).symm.trans hT
    replace hT := (if_neg (show ¬ (c = 101) by (first | (clear hm hnf; omega) | omega))).symm.trans hT
    replace hT := (if_neg (show ¬ (c = 102) by (first | (clear hm hnf; omega) | omega))).symm.trans hT
    replace hT := (if_neg (show ¬ (c = 103) by (first | (clear hm hnf; omega) | omega))).symm.trans hT
    replace hT := (if_neg (show ¬ (c = 104) by (first | (clear hm hnf; omega) | omega))).symm.trans hT
    replace hT := (if_neg (show ¬ (c = 105) by (first | (clear hm hnf; omega) | omega))).symm.trans hT
    replace hT := (if_neg (show ¬ (c = 106) by (first | (clear hm hnf; omega) | omega))).symm.trans hT
    replace hT := (if_neg (show ¬ (c = 107) by (first | (clear hm hnf; omega) | omega))).symm.trans hT
    replace hT := (if_neg (show ¬ (c = 108) by (first | (clear hm hnf; omega) | omega))).symm.trans hT
    replace hT := (if_neg (show ¬ (c = 109) by (first | (clear hm hnf; omega) | omega))).symm.trans hT
    replace hT := (if_pos (show c = 110 by (first | (clear hm hnf; omega) | omega))).symm.trans hT
    exact hK _ (by (first | (clear hm hnf; omega) | omega)) (by (first | (clear hm hnf; omega) | omega)) (by first | assumption | omega | simp_all) hT
  · replace hT := (if_neg (show ¬ (c = 98) by (first | (clear hm hnf; omega) | omega))).symm.trans hT
    replace hT := (if_neg (show ¬ (c = 99) by (first | (clear hm hnf; omega) | omega))).symm.trans hT
    replace hT := (if_neg (show ¬ (c = 100) by (first | (clear hm hnf; omega) | omega))).symm.trans hT
    replace hT := (if_neg (show ¬ (c = 101) by (first | (clear hm hnf; omega) | omega))).symm.trans hT
    replace hT := (if_neg (show ¬ (c = 102) by (first | (clear hm hnf; omega) | omega))).symm.trans hT
    replace hT := (if_neg (show ¬ (c = 103) by (first | (clear hm hnf; omega) | omega))).symm.trans hT
    replace hT := (if_neg (show ¬ (c = 104) by (first | (clear hm hnf; omega) | omega))).symm.trans hT
    replace hT := (if_neg (show ¬ (c = 105) by (first | (clear hm hnf; omega) | omega))).symm.trans hT
    replace hT := (if_neg (show ¬ (c = 106) by (first | (clear hm hnf; omega) | omega))).symm.trans hT
    replace hT := (if_neg (show ¬ (c = 107) by (first | (clear hm hnf; omega) | omega))).symm.trans hT
    replace hT := (if_neg (show ¬ (c = 108) by (first | (clear hm hnf; omega) | omega))).symm.trans hT
    replace hT := (if_neg (show ¬ (c = 109) by (first | (clear hm hnf; omega) | omega))).symm.trans hT
    replace hT := (if_neg (show ¬ (c = 110) by (first | (clear hm hnf; omega) | omega))).symm.trans hT
    replace hT := (if_pos (show c = 111 by (first | (clear hm hnf; omega) | omega))).symm.trans hT
    exact hK _ (by (first | (clear hm hnf; omega) | omega)) (by (first | (clear hm hnf; omega) | omega)) (by first | assumption | omega | simp_all) hT
  · replace hT := (if_neg (show ¬ (c = 98) by (first | (clear hm hnf; omega) | omega))).symm.trans hT
    replace hT := (if_neg (show ¬ (c = 99) by (first | (clear hm hnf; omega) | omega))).symm.trans hT
    replace hT := (if_neg (show ¬ (c = 100) by (first | (clear hm hnf; omega) | omega))).symm.trans hT
    replace hT := (if_neg (show ¬ (c = 101) by (first | (clear hm hnf; omega) | omega))).symm.trans hT
    replace hT := (if_neg (show ¬ (c = 102) by (first | (clear hm hnf; omega) | omega))).symm.trans hT
    replace hT := (if_neg (show ¬ (c = 103) by (first | (clear hm hnf; omega) | omega))).symm.trans hT
    replace hT := (if_neg (show ¬ (c = 104) by (first | (clear hm hnf; omega) | omega))).symm.trans hT
    replace hT := (if_neg (show ¬ (c = 105) by (first | (clear hm hnf; omega) | omega))).symm.trans hT
    replace hT := (if_neg (show ¬ (c = 106) by (first | (clear hm hnf; omega) | omega))).symm.trans hT
    replace hT := (if_neg (show ¬ (c = 107) by (first | (clear hm hnf; omega) | omega))).symm.trans hT
    replace hT := (if_neg (show ¬ (c = 108) by (first | (clear hm hnf; omega) | omega))).symm.trans hT
    replace hT := (if_neg (show ¬ (c = 109) by (first | (clear hm hnf; omega) | omega))).symm.trans hT
    replace hT := (if_neg (show ¬ (c = 110) by (first | (clear hm hnf; omega) | omega))).symm.trans hT
    replace hT := (if_neg (show ¬ (c = 111) by (first | (clear hm hnf; omega) | omega))).symm.trans hT
    replace hT := (if_pos (show c = 112 by (first | (clear hm hnf; omega) | omega))).symm.trans hT
    exact hK _ (by (first | (clear hm hnf; omega) | omega)) (by (first | (clear hm hnf; omega) | omega)) (by first | assumption | omega | simp_all) hT
  · replace hT := (if_neg (show ¬ (c = 98) by (first | (clear hm hnf; omega) | omega))).symm.trans hT
    replace hT := (if_neg (show ¬ (c = 99) by (first | (clear hm hnf; omega) | omega))).symm.trans hT
    replace hT := (if_neg (show ¬ (c = 100) by (first | (clear hm hnf; omega) | omega))).symm.trans hT
    replace hT := (if_neg (show ¬ (c = 101) by (first | (clear hm hnf; omega) | omega))).symm.trans hT
    replace hT := (if_neg (show ¬ (c = 102) by (first | (clear hm hnf; omega) | omega))).symm.trans hT
    replace hT := (if_neg (show ¬ (c = 103) by (first | (clear hm hnf; omega) | omega))).symm.trans hT
    replace hT := (if_neg (show ¬ (c = 104) by (first | (clear hm hnf; omega) | omega))).symm.trans hT
    replace hT := (if_neg (show ¬ (c = 105) by (first | (clear hm hnf; omega) | omega))).symm.trans hT
    replace hT := (if_neg (show ¬ (c = 106) by (first | (clear hm hnf; omega) | omega))).symm.trans hT
    replace hT := (if_neg (show ¬ (c = 107) by (first | (clear hm hnf; omega) | omega))).symm.trans hT
    replace hT := (if_neg (show ¬ (c = 108) by (first | (clear hm hnf; omega) | omega))).symm.trans hT
    replace hT := (if_neg (show ¬ (c = 109) by (first | (clear hm hnf; omega) | omega))).symm.trans hT
    replace hT := (if_neg (show ¬ (c = 110) by (first | (clear hm hnf; omega) | omega))).symm.trans hT
    replace hT := (if_neg (show ¬ (c = 111) by (first | (clear hm hnf; omega) | omega))).symm.trans hT
    replace hT := (if_neg (show ¬ (c = 112) by (first | (clear hm hnf; omega) | omega))).symm.trans hT
    replace hT := (if_pos (show c = 113 by (first | (clear hm hnf; omega) | omega))).symm.trans hT
    exact hK _ (by (first | (clear hm hnf; omega) | omega)) (by (first | (clear hm hnf; omega) | omega)) (by first | assumption | omega | simp_all) hT
  · replace hT := (if_neg (show ¬ (c = 98) by (first | (clear hm hnf; omega) | omega))).symm.trans hT
    replace hT := (if_neg (show ¬ (c = 99) by (first | (clear hm hnf; omega) | omega))).symm.trans hT
    replace hT := (if_neg (show ¬ (c = 100) by (first | (clear hm hnf; omega) | omega))).symm.trans hT
    replace hT := (if_neg (show ¬ (c = 101) by (first | (clear hm hnf; omega) | omega))).symm.trans hT
    replace hT := (if_neg (show ¬ (c = 102) by (first | (clear hm hnf; omega) | omega))).symm.trans hT
    replace hT := (if_neg (show ¬ (c = 103) by (first | (clear hm hnf; omega) | omega))).symm.trans hT
    replace hT := (if_neg (show ¬ (c = 104) by (first | (clear hm hnf; omega) | omega))).symm.trans hT
    replace hT := (if_neg (show ¬ (c = 105) by (first | (clear hm hnf; omega) | omega))).symm.trans hT
    replace hT := (if_neg (show ¬ (c = 106) by (first | (clear hm hnf; omega) | omega))).symm.trans hT
    replace hT := (if_neg (show ¬ (c = 107) by (first | (clear hm hnf; omega) | omega))).symm.trans hT
    replace hT := (if_neg (show ¬ (c = 108) by (first | (clear hm hnf; omega) | omega))).symm.trans hT
    replace hT := (if_neg (show ¬ (c = 109) by (first | (clear hm hnf; omega) | omega))).symm.trans hT
    replace hT := (if_neg (show ¬ (c = 110) by (first | (clear hm hnf; omega) | omega))).symm.trans hT
    replace hT := (if_neg (show ¬ (c = 111) by (first | (clear hm hnf; omega) | omega))).symm.trans hT
    replace hT := (if_neg (show ¬ (c = 112) by (first | (clear hm hnf; omega) | omega))).symm.trans hT
    replace hT := (if_neg (show ¬ (c = 113) by (first | (clear hm hnf; omega) | omega))).symm.trans hT
    replace hT := (if_pos (show c = 114 by (first | (clear hm hnf; omega) | omega))).symm.trans hT
    exact hK _ (by (first | (clear hm hnf; omega) | omega)) (by (first | (clear hm hnf; omega) | omega)) (by first | assumption | omega | simp_all) hT
  · replace hT := (if_neg (show ¬ (c = 98) by (first | (clear hm hnf; omega) | omega))).symm.trans hT
    replace hT := (if_neg (show ¬ (c = 99) by (first | (clear hm hnf; omega) | omega))).symm.trans hT
    replace hT := (if_neg (show ¬ (c = 100) by (first | (clear hm hnf; omega) | omega))).symm.trans hT
    replace hT := (if_neg (show ¬ (c = 101) by (first | (clear hm hnf; omega) | omega))).symm.trans hT
    replace hT := (if_neg (show ¬ (c = 102) by (first | (clear hm hnf; omega) | omega))).symm.trans hT
    replace hT := (if_neg (show ¬ (c = 103) by (first | (clear hm hnf; omega) | omega))).symm.trans hT
    replace hT := (if_neg (show ¬ (c = 104) by (first | (clear hm hnf; omega) | omega))).symm.trans hT
    replace hT := (if_neg (show ¬ (c = 105) by (first | (clear hm hnf; omega) | omega))).symm.trans hT
    replace hT := (if_neg (show ¬ (c = 106) by (first | (clear hm hnf; omega) | omega))).symm.trans hT
    replace hT := (if_neg (show ¬ (c = 107) by (first | (clear hm hnf; omega) | omega))).symm.trans hT
    replace hT := (if_neg (show ¬ (c = 108) by (first | (clear hm hnf; omega) | omega))).symm.trans hT
    replace hT := (if_neg (show ¬ (c = 109) by (first | (clear hm hnf; omega) | omega))).symm.trans hT
    replace hT := (if_neg (show ¬ (c = 110) by (first | (clear hm hnf; omega) | omega))).symm.trans hT
    replace hT := (if_neg (show ¬ (c = 111) by (first | (clear hm hnf; omega) | omega))).symm.trans hT
    replace hT := (if_neg (show ¬ (c = 112) by (first | (clear hm hnf; omega) | omega))).symm.trans hT
    replace hT := (if_neg (show ¬ (c = 113) by (first | (clear hm hnf; omega) | omega))).symm.trans hT
    replace hT := (if_neg (show ¬ (c = 114) by (first | (clear hm hnf; omega) | omega))).symm.trans hT
    replace hT := (if_pos (show c = 115 by (first | (clear hm hnf; omega) | omega))).symm.trans hT
    exact hK _ (by (first | (clear hm hnf; omega) | omega)) (by (first | (clear hm hnf; omega) | omega)) (by first | assumption | omega | simp_all) hT
  · replace hT := (if_neg (show ¬ (c = 98) by (first | (clear hm hnf; omega) | omega))).symm.trans hT
    replace hT := (if_neg (show ¬ (c = 99) by (first | (clear hm hnf; omega) | omega))).symm.trans hT
    replace hT := (if_neg (show ¬ (c = 100) by (first | (clear hm hnf; omega) | omega))).symm.trans hT
    replace hT := (if_neg (show ¬ (c = 101) by (first | (clear hm hnf; omega) | omega))).symm.trans hT
    replace hT := (if_neg (show ¬ (c = 102) by (first | (clear hm hnf; omega) | omega))).symm.trans hT
    replace hT := (if_neg (show ¬ (c = 103) by (first | (clear hm hnf; omega) | omega))).symm.trans hT
    replace hT := (if_neg (show ¬ (c = 104) by (first | (clear hm hnf; omega) | omega))).symm.trans hT
    replace hT := (if_neg (show ¬ (c = 105) by (first | (clear hm hnf; omega) | omega))).symm.trans hT
    replace hT := (if_neg (show ¬ (c = 106) by (first | (clear hm hnf; omega) | omega))).symm.trans hT
    replace hT := (if_neg (show ¬ (c = 107) by (first | (clear hm hnf; omega) | omega))).symm.trans hT
    replace hT := (if_neg (show ¬ (c = 108) by (first | (clear hm hnf; omega) | omega))).symm.trans hT
    replace hT := (if_neg (show ¬ (c = 109) by (first | (clear hm hnf; omega) | omega))).symm.trans hT
    replace hT := (if_neg (show ¬ (c = 110) by (first | (clear hm hnf; omega) | omega))).symm.trans hT
    replace hT := (if_neg (show ¬ (c = 111) by (first | (clear hm hnf; omega) | omega))).symm.trans hT
    replace hT := (if_neg (show ¬ (c = 112) by (first | (clear hm hnf; omega) | omega))).symm.trans hT
    replace hT := (if_neg (show ¬ (c = 113) by (first | (clear hm hnf; omega) | omega))).symm.trans hT
    replace hT := (if_neg (show ¬ (c = 114) by (first | (clear hm hnf; omega) | omega))).symm.trans hT
    replace hT := (if_neg (show ¬ (c = 115) by (first | (clear hm hnf; omega) | omega))).symm.trans hT
    replace hT := (if_pos (show c = 116 by (first | (clear hm hnf; omega) | omega))).symm.trans hT
    exact hK _ (by (first | (clear hm hnf; omega) | omega)) (by (first | (clear hm hnf; omega) | omega)) (by first | assumption | omega | simp_all) hT
  · replace hT := (if_neg (show ¬ (c = 98) by (first | (clear hm hnf; omega) | omega))).symm.trans hT
    replace hT := (if_neg (show ¬ (c = 99) by (first | (clear hm hnf; omega) | omega))).symm.trans hT
    replace hT := (if_neg (show ¬ (c = 100) by (first | (clear hm hnf; omega) | omega))).symm.trans hT
    replace hT := (if_neg (show ¬ (c = 101) by (first | (clear hm hnf; omega) | omega))).symm.trans hT
    replace hT := (if_neg (show ¬ (c = 102) by (first | (clear hm hnf; omega) | omega))).symm.trans hT
    replace hT := (if_neg (show ¬ (c = 103) by (first | (clear hm hnf; omega) | omega))).symm.trans hT
    replace hT := (if_neg (show ¬ (c = 104) by (first | (clear hm hnf; omega) | omega))).symm.trans hT
    replace hT := (if_neg (show ¬ (c = 105) by (first | (clear hm hnf; omega) | omega))).symm.trans hT
    replace hT := (if_neg (show ¬ (c = 106) by (first | (clear hm hnf; omega) | omega))).symm.trans hT
    replace hT := (if_neg (show ¬ (c = 107) by (first | (clear hm hnf; omega) | omega))).symm.trans hT
    replace hT := (if_neg (show ¬ (c = 108) by (first | (clear hm hnf; omega) | omega))).symm.trans hT
    replace hT := (if_neg (show ¬ (c = 109) by (first | (clear hm hnf; omega) | omega))).symm.trans hT
    replace hT := (if_neg (show ¬ (c = 110) by (first | (clear hm hnf; omega) | omega))).symm.trans hT
    replace hT := (if_neg (show ¬ (c = 111) by (first | (clear hm hnf; omega) | omega))).symm.trans hT
    replace hT := (if_neg (show ¬ (c = 112) by (first | (clear hm hnf; omega) | omega))).symm.trans hT
    replace hT := (if_neg (show ¬ (c = 113) by (first | (clear hm hnf; omega) | omega))).symm.trans hT
    replace hT := (if_neg (show ¬ (c = 114) by (first | (clear hm hnf; omega) | omega))).symm.trans hT
    replace hT := (if_neg (show ¬ (c = 115) by (first | (clear hm hnf; omega) | omega))).symm.trans hT
    replace hT := (if_neg (show ¬ (c = 116) by (first | (clear hm hnf; omega) | omega))).symm.trans hT
    replace hT := (if_pos (show c = 117 by (first | (clear hm hnf; omega) | omega))).symm.trans hT
    exact hK _ (by (first | (clear hm hnf; omega) | omega)) (by (first | (clear hm hnf; omega) | omega)) (by first | assumption | omega | simp_all) hT
  · replace hT := (if_neg (show ¬ (c = 98) by (first | (clear hm hnf; omega) | omega))).symm.trans hT
    replace hT := (if_neg (show ¬ (c = 99) by (first | (clear hm hnf; omega) | omega))).symm.trans hT
    replace hT := (if_neg (show ¬ (c = 100) by (first | (clear hm hnf; omega) | omega))).symm.trans hT
    replace hT := (if_neg (show ¬ (c = 101) by (first | (clear hm hnf; omega) | omega))).symm.trans hT
    replace hT := (if_neg (show ¬ (c = 102) by (first | (clear hm hnf; omega) | omega))).symm.trans hT
    replace hT := (if_neg (show ¬ (c = 103) by (first | (clear hm hnf; omega) | omega))).symm.trans hT
    replace hT := (if_neg (show ¬ (c = 104) by (first | (clear hm hnf; omega) | omega))).symm.trans hT
    replace hT := (if_neg (show ¬ (c = 105) by (first | (clear hm hnf; omega) | omega))).symm.trans hT
    replace hT := (if_neg (show ¬ (c = 106) by (first | (clear hm hnf; omega) | omega))).symm.trans hT
    replace hT := (if_neg (show ¬ (c = 107) by (first | (clear hm hnf; omega) | omega))).symm.trans hT
    replace hT := (if_neg (show ¬ (c = 108) by (first | (clear hm hnf; omega) | omega))).symm.trans hT
    replace hT := (if_neg (show ¬ (c = 109) by (first | (clear hm hnf; omega) | omega))).symm.trans hT
    replace hT := (if_neg (show ¬ (c = 110) by (first | (clear hm hnf; omega) | omega))).symm.trans hT
    replace hT := (if_neg (show ¬ (c = 111) by (first | (clear hm hnf; omega) | omega))).symm.trans hT
    replace hT := (if_neg (show ¬ (c = 112) by (first | (clear hm hnf; omega) | omega))).symm.trans hT
    replace hT := (if_neg (show ¬ (c = 113) by (first | (clear hm hnf; omega) | omega))).symm.trans hT
    replace hT := (if_neg (show ¬ (c = 114) by (first | (clear hm hnf; omega) | omega))).symm.trans hT
    replace hT := (if_neg (show ¬ (c = 115) by (first | (clear hm hnf; omega) | omega))).symm.trans hT
    replace hT := (if_neg (show ¬ (c = 116) by (first | (clear hm hnf; omega) | omega))).symm.trans hT
    replace hT := (if_neg (show ¬ (c = 117) by (first | (clear hm hnf; omega) | omega))).symm.trans hT
    replace hT := (if_pos (show c = 118 by (first | (clear hm hnf; omega) | omega))).symm.trans hT
    exact hK _ (by (first | (clear hm hnf; omega) | omega)) (by (first | (clear hm hnf; omega) | omega)) (by first | assumption | omega | simp_all) hT
  · replace hT := (if_neg (show ¬ (c = 98) by (first | (clear hm hnf; omega) | omega))).symm.trans hT
    replace hT := (if_neg (show ¬ (c = 99) by (first | (clear hm hnf; omega) | omega))).symm.trans hT
    replace hT := (if_neg (show ¬ (c = 100) by (first | (clear hm hnf; omega) | omega))).symm.trans hT
    replace hT := (if_neg (show ¬ (c = 101) by (first | (clear hm hnf; omega) | omega))).symm.trans hT
    replace hT := (if_neg (show ¬ (c = 102) by (first | (clear hm hnf; omega) | omega))).symm.trans hT
    replace hT := (if_neg (show ¬ (c = 103) by (first | (clear hm hnf; omega) | omega))).symm.trans hT
    replace hT := (if_neg (show ¬ (c = 104) by (first | (clear hm hnf; omega) | omega))).symm.trans hT
    replace hT := (if_neg (show ¬ (c = 105) by (first | (clear hm hnf; omega) | omega))).symm.trans hT
    replace hT := (if_neg (show ¬ (c = 106) by (first | (clear hm hnf; omega) | omega))).symm.trans hT
    replace hT := (if_neg (show ¬ (c = 107) by (first | (clear hm hnf; omega) | omega))).symm.trans hT
    replace hT := (if_neg (show ¬ (c = 108) by (first | (clear hm hnf; omega) | omega))).symm.trans hT
    replace hT := (if_neg (show ¬ (c = 109) by (first | (clear hm hnf; omega) | omega))).symm.trans hT
    replace hT := (if_neg (show ¬ (c = 110) by (first | (clear hm hnf; omega) | omega))).symm.trans hT
    replace hT := (if_neg (show ¬ (c = 111) by (first | (clear hm hnf; omega) | omega))).symm.trans hT
    replace hT := (if_neg (show ¬ (c = 112) by (first | (clear hm hnf; omega) | omega))).symm.trans hT
    replace hT := (if_neg (show ¬ (c = 113) by (first | (clear hm hnf; omega) | omega))).symm.trans hT
    replace hT := (if_neg (show ¬ (c = 114) by (first | (clear hm hnf; omega) | omega))).symm.trans hT
    replace hT := (if_neg (show ¬ (c = 115) by (first | (clear hm hnf; omega) | omega))).symm.trans hT
    replace hT := (if_neg (show ¬ (c = 116) by (first | (clear hm hnf; omega) | omega))).symm.trans hT
    replace hT := (if_neg (show ¬ (c = 117) by (first | (clear hm hnf; omega) | omega))).symm.trans hT
    replace hT := (if_neg (show ¬ (c = 118) by (first | (clear hm hnf; omega) | omega))).symm.trans hT
    replace hT := (if_pos (show c = 119 by (first | (clear hm hnf; omega) | omega))).symm.trans hT
    exact hK _ (by (first | (clear hm hnf; omega) | omega)) (by (first | (clear hm hnf; omega) | omega)) (by first | assumption | omega | simp_all) hT
  · replace hT := (if_neg (show ¬ (c = 98) by (first | (clear hm hnf; omega) | omega))).symm.trans hT
    replace hT := (if_neg (show ¬ (c = 99) by (first | (clear hm hnf; omega) | omega))).symm.trans hT
    replace hT := (if_neg (show ¬ (c = 100) by (first | (clear hm hnf; omega) | omega))).symm.trans hT
    replace hT := (if_neg (show ¬ (c = 101) by (first | (clear hm hnf; omega) | omega))).symm.trans hT
    replace hT := (if_neg (show ¬ (c = 102) by (first | (clear hm hnf; omega) | omega))).symm.trans hT
    replace hT := (if_neg (show ¬ (c = 103) by (first | (clear hm hnf; omega) | omega))).symm.trans hT
    replace hT := (if_neg (show ¬ (c = 104) by (first | (clear hm hnf; omega) | omega))).symm.trans hT
    replace hT := (if_neg (show ¬ (c = 105) by (first | (clear hm hnf; omega) | omega))).symm.trans hT
    replace hT := (if_neg (show ¬ (c = 106) by (first | (clear hm hnf; omega) | omega))).symm.trans hT
    replace hT := (if_neg (show ¬ (c = 107) by (first | (clear hm hnf; omega) | omega))).symm.trans hT
    replace hT := (if_neg (show ¬ (c = 108) by (first | (clear hm hnf; omega) | omega))).symm.trans hT
    replace hT := (if_neg (show ¬ (c = 109) by (first | (clear hm hnf; omega) | omega))).symm.trans hT
    replace hT := (if_neg (show ¬ (c = 110) by (first | (clear hm hnf; omega) | omega))).symm.trans hT
    replace hT := (if_neg (show ¬ (c = 111) by (first | (clear hm hnf; omega) | omega))).symm.trans hT
    replace hT := (if_neg (show ¬ (c = 112) by (first | (clear hm hnf; omega) | omega))).symm.trans hT
    replace hT := (if_neg (show ¬ (c = 113) by (first | (clear hm hnf; omega) | omega))).symm.trans hT
    replace hT := (if_neg (show ¬ (c = 114) by (first | (clear hm hnf; omega) | omega))).symm.trans hT
    replace hT := (if_neg (show ¬ (c = 115) by (first | (clear hm hnf; omega) | omega))).symm.trans hT
    replace hT := (if_neg (show ¬ (c = 116) by (first | (clear hm hnf; omega) | omega))).symm.trans hT
    replace hT := (if_neg (show ¬ (c = 117) by (first | (clear hm hnf; omega) | omega))).symm.trans hT
    replace hT := (if_neg (show ¬ (c = 118) by (first | (clear hm hnf; omega) | omega))).symm.trans hT
    replace hT := (if_neg (show ¬ (c = 119) by (first | (clear hm hnf; omega) | omega))).symm.trans hT
    replace hT := (if_pos (show c = 120 by (first | (clear hm hnf; omega) | omega))).symm.trans hT
    exact hK _ (by (first | (clear hm hnf; omega) | omega)) (by (first | (clear hm hnf; omega) | omega)) (by first | assumption | omega | simp_all) hT
  · replace hT := (if_neg (show ¬ (c = 98) by (first | (clear hm hnf; omega) | omega))).symm.trans hT
    replace hT := (if_neg (show ¬ (c = 99) by (first | (clear hm hnf; omega) | omega))).symm.trans hT
    replace hT := (if_neg (show ¬ (c = 100) by (first | (clear hm hnf; omega) | omega))).symm.trans hT
    replace hT := (if_neg (show ¬ (c = 101) by (first | (clear hm hnf; omega) | omega))).symm.trans hT
    replace hT := (if_neg (show ¬ (c = 102) by (first | (clear hm hnf; omega) | omega))).symm.trans hT
    replace hT := (if_neg (show ¬ (c = 103) by (first | (clear hm hnf; omega) | omega))).symm.trans hT
    replace hT := (if_neg (show ¬ (c = 104) by (first | (clear hm hnf; omega) | omega))).symm.trans hT
    replace hT := (if_neg (show ¬ (c = 105) by (first | (clear hm hnf; omega) | omega))).symm.trans hT
    replace hT := (if_neg (show ¬ (c = 106) by (first | (clear hm hnf; omega) | omega))).symm.trans hT
    replace hT := (if_neg (show ¬ (c = 107) by (first | (clear hm hnf; omega) | omega))).symm.trans hT
    replace hT := (if_neg (show ¬ (c = 108) by (first | (clear hm hnf; omega) | omega))).symm.trans hT
    replace hT := (if_neg (show ¬ (c = 109) by (first | (clear hm hnf; omega) | omega))).symm.trans hT
    replace hT := (if_neg (show ¬ (c = 110) by (first | (clear hm hnf; omega) | omega))).symm.trans hT
    replace hT := (if_neg (show ¬ (c = 111) by (first | (clear hm hnf; omega) | omega))).symm.trans hT
    replace hT := (if_neg (show ¬ (c = 112) by (first | (clear hm hnf; omega) | omega))).symm.trans hT
    replace hT := (if_neg (show ¬ (c = 113) by (first | (clear hm hnf; omega) | omega))).symm.trans hT
    replace hT := (if_neg (show ¬ (c = 114) by (first | (clear hm hnf; omega) | omega))).symm.trans hT
    replace hT := (if_neg (show ¬ (c = 115) by (first | (clear hm hnf; omega) | omega))).symm.trans hT
    replace hT := (if_neg (show ¬ (c = 116) by (first | (clear hm hnf; omega) | omega))).symm.trans hT
    replace hT := (if_neg (show ¬ (c = 117) by (first | (clear hm hnf; omega) | omega))).symm.trans hT
    replace hT := (if_neg (show ¬ (c = 118) by (first | (clear hm hnf; omega) | omega))).symm.trans hT
    replace hT := (if_neg (show ¬ (c = 119) by (first | (clear hm hnf; omega) | omega))).symm.trans hT
    replace hT := (if_neg (show ¬ (c = 120) by (first | (clear hm hnf; omega) | omega))).symm.trans hT
    replace hT := (if_pos (show c = 121 by (first | (clear hm hnf; omega) | omega))).symm.trans hT
    exact hK _ (by (first | (clear hm hnf; omega) | omega)) (by (first | (clear hm hnf; omega) | omega)) (by first | assumption | omega | simp_all) hT
theorem pM_factOf {c : Int} {A : qA} (hA : qokA LM A) (rg_c : rng c) : ((-1) ≤ (fM_factOf c A) ∧ (fM_factOf c A) ≤ 13) ∧ ((fM_factOf c A) = -1 ∨ 0 < c) := by
  obtain ⟨r, B, hB, _, hk⟩ := okM_ex okM_factOf (as := [ni c]) (K := fun _ B => B = A ∧ ((-1) ≤ (fM_factOf c A) ∧ (fM_factOf c A) ≤ 13) ∧ ((fM_factOf c A) = -1 ∨ 0 < c)) hA (qoks_c (rg_c) qoks_n) ⟨c, rfl, fun r9 g8 g9 x0 x1 => (by rw [← x1]; exact ⟨rfl, ⟨g8, g9⟩, x0⟩)⟩
  exact hk.2
def fM_sumSign (c : Int) (A : qA) : Int := (if c = 43 then 2 else (if c = 45 then 3 else (if c = 42 then 4 else (if c = 47 then 5 else (if c = 37 then 6 else (-1))))))
def sM_sumSign : qS := fun as A K => ∃ c : Int, as = [ni c] ∧ (∀ r : Int, (-1) ≤ r → r ≤ 6 → (r = -1 ∨ (2 ≤ r ∧ 0 < c)) → (r = fM_sumSign c A) → K (some (ni r)) A)
theorem okM_sumSign : okM LM 1 171 sM_sumSign := by
  refine qmeth [] false [] 33 rfl trivial ?_
  rintro _ A K hA has ⟨c, rfl, hK⟩
  have rg_c : rng c := has (ni c) (by simp)
  have hT : _ = fM_sumSign c A := (fM_sumSign.eq_1 c A).symm
  refine ⟨Nat.le_of_ble_eq_true rfl, [], trivial, ?_⟩
  refine And.intro (fun h1 => ?_) (fun h1 => ?_)
  · replace hT := (if_neg h1).symm.trans hT
    refine And.intro (fun h2 => ?_) (fun h2 => ?_)
    · replace hT := (if_neg h2).symm.trans hT
      refine And.intro (fun h3 => ?_) (fun h3 => ?_)
      · replace hT := (if_neg h3).symm.trans hT
        refine And.intro (fun h4 => ?_) (fun h4 => ?_)
        · replace hT := (if_neg h4).symm.trans hT
          refine And.intro (fun h5 => ?_) (fun h5 => ?_)
          · replace hT := (if_neg h5).symm.trans hT
            exact hK _ (by (first | (clear hm hnf; omega) | omega)) (by (first | (clear hm hnf; omega) | omega)) (by first | assumption | omega | simp_all) hT
          · replace hT := (if_pos h5).symm.trans hT
            exact hK _ (by (first | (clear hm hnf; omega) | omega)) (by (first | (clear hm hnf; omega) | omega)) (by first | assumption | omega | simp_all) hT
        · replace hT := (if_pos h4).symm.trans hT
          exact hK _ (by (first | (clear hm hnf; omega) | omega)) (by (first | (clear hm hnf; omega) | omega)) (by first | assumption | omega | simp_all) hT
      · replace hT := (if_pos h3).symm.trans hT
        exact hK _ (by (first | (clear hm hnf; omega) | omega)) (by (first | (clear hm hnf; omega) | omega)) (by first | assumption | omega | simp_all) hT
    · replace hT := (if_pos h2).symm.trans hT
      exact hK _ (by (first | (clear hm hnf; omega) | omega)) (by (first | (clear hm hnf; omega) | omega)) (by first | assumption | omega | simp_all) hT
  · replace hT := (if_pos h1).symm.trans hT
    exact hK _ (by (first | (clear hm hnf; omega) | omega)) (by (first | (clear hm hnf; omega) | omega)) (by first | assumption | omega | simp_all) hT
theorem pM_sumSign {c : Int} {A : qA} (hA : qokA LM A) (rg_c : rng c) : ((-1) ≤ (fM_sumSign c A) ∧ (fM_sumSign c A) ≤ 6) ∧ ((fM_sumSign c A) = -1 ∨ (2 ≤ (fM_sumSign c A) ∧ 0 < c)) := by
  obtain ⟨r, B, hB, _, hk⟩ := okM_ex okM_sumSign (as := [ni c]) (K := fun _ B => B = A ∧ ((-1) ≤ (fM_sumSign c A) ∧ (fM_sumSign c A) ≤ 6) ∧ ((fM_sumSign c A) = -1 ∨ (2 ≤ (fM_sumSign c A) ∧ 0 < c))) hA (qoks_c (rg_c) qoks_n) ⟨c, rfl, fun r9 g8 g9 x0 x1 => (by rw [← x1]; exact ⟨rfl, ⟨g8, g9⟩, x0⟩)⟩
  exact hk.2
def fM_canBegin (c : Int) (A : qA) : Int := (if c = 103 then 1 else (if c = 102 then 1 else (if c = 97 then 1 else (if c = 99 then 1 else (if c = 111 then 1 else (if c = 113 then 1 else 0))))))
def sM_canBegin : qS := fun as A K => ∃ c : Int, as = [ni c] ∧ (∀ r : Int, 0 ≤ r → r ≤ 1 → (r = 0 ∨ (0 < c ∧ c ≤ 255)) → (r = fM_canBegin c A) → K (some (ni r)) A)
theorem okM_canBegin : okM LM 1 181 sM_canBegin := by
  refine qmeth [] false [] 28 rfl trivial ?_
  rintro _ A K hA has ⟨c, rfl, hK⟩
  have rg_c : rng c := has (ni c) (by simp)
  have hT : _ = fM_canBegin c A := (fM_canBegin.eq_1 c A).symm
  refine ⟨Nat.le_of_ble_eq_true rfl, [], trivial, ?_⟩
  refine And.intro (fun h1 => ?_) (fun h1 => ?_)
  · replace hT := (if_pos h1).symm.trans hT
    exact And.intro (by (first | (clear hm hnf; omega) | omega)) (hK _ (by (first | (clear hm hnf; omega) | omega)) (by (first | (clear hm hnf; omega) | omega)) (by first | assumption | omega | simp_all) hT)
  · replace hT := (if_neg h1).symm.trans hT
    refine And.intro (fun h2 => ?_) (fun h2 => ?_)
    · replace hT := (if_pos h2).symm.trans hT
      exact And.intro (by (first | (clear hm hnf; omega) | omega)) (hK _ (by (first | (clear hm hnf; omega) | omega)) (by (first | (clear hm hnf; omega) | omega)) (by first | assumption | omega | simp_all) hT)
    · replace hT := (if_neg h2).symm.trans hT
      refine And.intro (fun h3 => ?_) (fun h3 => ?_)
      · replace hT := (if_pos h3).symm.trans hT
        exact And.intro (by (first | (clear hm hnf; omega) | omega)) (hK _ (by (first | (clear hm hnf; omega) | omega)) (by (first | (clear hm hnf; omega) | omega)) (by first | assumption | omega | simp_all) hT)
      · replace hT := (if_neg h3).symm.trans hT
        refine And.intro (fun h4 => ?_) (fun h4 => ?_)
        · replace hT := (if_pos h4).symm.trans hT
          exact And.intro (by (first | (clear hm hnf; omega) | omega)) (hK _ (by (first | (clear hm hnf; omega) | omega)) (by (first | (clear hm hnf; omega) | omega)) (by first | assumption | omega | simp_all) hT)
        · replace hT := (if_neg h4).symm.trans hT
          refine And.intro (fun h5 => ?_) (fun h5 => ?_)
          · replace hT := (if_pos h5).symm.trans hT
            exact And.intro (by (first | (clear hm hnf; omega) | omega)) (hK _ (by (first | (clear hm hnf; omega) | omega)) (by (first | (clear hm hnf; omega) | omega)) (by first | assumption | omega | simp_all) hT)
          · replace hT := (if_neg h5).symm.trans hT
            refine And.intro (fun h6 => ?_) (fun h6 => ?_)
            · replace hT := (if_neg h6).symm.trans hT
              exact And.intro (by (first | (clear hm hnf; omega) | omega)) (hK _ (by (first | (clear hm hnf; omega) | omega)) (by (first | (clear hm hnf; omega) | omega)) (by first | assumption | omega | simp_all) hT)
            · replace hT := (if_pos h6).symm.trans hT
              exact And.intro (by (first | (clear hm hnf; omega) | omega)) (hK _ (by (first | (clear hm hnf; omega) | omega)) (by (first | (clear hm hnf; omega) | omega)) (by first | assumption | omega | simp_all) hT)
theorem pM_canBegin {c : Int} {A : qA} (hA : qokA LM A) (rg_c : rng c) : (0 ≤ (fM_canBegin c A) ∧ (fM_canBegin c A) ≤ 1) ∧ ((fM_canBegin c A) = 0 ∨ (0 < c ∧ c ≤ 255)) := by
  obtain ⟨r, B, hB, _, hk⟩ := okM_ex okM_canBegin (as := [ni c]) (K := fun _ B => B = A ∧ (0 ≤ (fM_canBegin c A) ∧ (fM_canBegin c A) ≤ 1) ∧ ((fM_canBegin c A) = 0 ∨ (0 < c ∧ c ≤ 255))) hA (qoks_c (rg_c) qoks_n) ⟨c, rfl, fun r9 g8 g9 x0 x1 => (by rw [← x1]; exact ⟨rfl, ⟨g8, g9⟩, x0⟩)⟩
  exact hk.2
