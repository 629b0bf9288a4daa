/-! PLANTING: both gardens -/
def SO (A2 : qA) : Prop := ∀ d, 0 ≤ d → d < 48 → 0 ≤ A2 4 d ∧ A2 4 d ≤ 9
theorem PB_of {A1 A2 : qA} (h : GR A1 A2) (hi : iva IC A1) (hs : SO A2) (hc : CA 6000000 A2) : PB A2 := fun d d0 d1 z => by
  obtain ⟨a, b⟩ := h.1.2 d d0 d1 trivial
  have k9 := iva_at hi 4 rfl (i := d) d0 d1
  rw [(a.2 z).2.2] at k9
  exact ⟨hs d d0 d1, hc d d0 d1, k9, (b z).2.2.2.2, (b z).2.2.1⟩
theorem choose_L {A1 A2 : qA} {x : Int} {cc : Int → Int} (h : GR A1 A2) (hb : PB A2) (hkn : ∀ c, 0 ≤ c → c < 48 → 0 ≤ A1 2 c ∧ A1 2 c ≤ 2147483647) (h0 : 0 ≤ x) (h1 : x < 281474976710656) (h5 : pcnt x.toNat 48 ≤ 5) : ∀ (m F k : Nat) (B : qA), k + m = 48 → frm [64, 65] [(63, 6), (63, 7)] A1 B → B 63 (fd 6) = (pcnt x.toNat k : Int) → B 63 (fd 7) = -1 → tld x.toNat k (B 65) → (∀ c : Int, 0 ≤ c → c < k → A2 1 c ≠ 0 → B 64 c = A2 3 c - pG A2 cc 4 c ∧ 0 ≤ A2 3 c - pG A2 cc 4 c) →
  (∃ C, frm [64, 65] [(63, 6), (63, 7)] A1 C ∧ C 63 (fd 6) = (pcnt x.toNat 48 : Int) ∧ C 63 (fd 7) = -1 ∧ tld x.toNat 48 (C 65) ∧ (∀ c, 0 ≤ c → c < 48 → A2 1 c ≠ 0 → C 64 c = A2 3 c - pG A2 cc 4 c ∧ 0 ≤ A2 3 c - pG A2 cc 4 c) ∧ fC_choose_L (F + m + 1) 8 [x, (k : Int)] B = (1, fC_tryCell0 0 0 C)) ∨ ((fC_choose_L (F + m + 1) 8 [x, (k : Int)] B).1 = 0 ∧ frm [64, 65] [(63, 6), (63, 7)] A1 (fC_choose_L (F + m + 1) 8 [x, (k : Int)] B).2 ∧ ∃ c, 0 ≤ c ∧ c < 48 ∧ A2 1 c ≠ 0 ∧ A2 3 c < pG A2 cc 4 c)
  | 0, F, k, B, hm, f, hn, h7, ht, hs => by
    rw [fC_choose_L8]
    unfold fC_choose_c8
    simp only [qlet_e, qlp]
    rw [if_neg (show ¬ (k : Int) < 48 by omega)]
    rw [show k = 48 by omega] at hn ht hs
    exact Or.inl ⟨B, f, hn, h7, ht, hs, rfl⟩
  | m + 1, F, k, B, hm, f, hn, h7, ht, hs => by
    rw [show F + (m + 1) + 1 = (F + m + 1) + 1 by omega, fC_choose_L8]
    unfold fC_choose_c8
    simp only [qlet_e, qlp]
    have k48 : k < 48 := by omega
    have hG : GR B A2 := GR_f h f (frm_0 [] [] A2) rfl rfl
    have hg := hang_is (hG.1.2 (k : Int) (by omega) (by omega) trivial) (by omega) (by omega)
    rw [if_pos (show (k : Int) < 48 by omega), show wI ((k : Int) + 1) = ((k + 1 : Nat) : Int) from (wI_id ⟨by omega, by omega⟩).trans (by omega)]
    -- told or not, then on
    have go : ∀ D, frm [64, 65] [(63, 6), (63, 7)] A1 D → D 63 (fd 6) = (pcnt x.toNat k : Int) → D 63 (fd 7) = -1 → tld x.toNat k (D 65) → (∀ c : Int, 0 ≤ c → c < ((k + 1 : Nat) : Int) → A2 1 c ≠ 0 → D 64 c = A2 3 c - pG A2 cc 4 c ∧ 0 ≤ A2 3 c - pG A2 cc 4 c) → ∀ y, y = (if fC_isTold x (k : Int) D = 0 then fC_choose_L (F + m + 1) 8 [x, ((k + 1 : Nat) : Int)] D else (if D 63 (fd 6) < 5 then fC_choose_L (F + m + 1) 8 [x, ((k + 1 : Nat) : Int)] (qu (qu D 65 (D 63 (fd 6)) (k : Int)) 63 (fd 6) (wI (D 63 (fd 6) + 1))) else fC_choose_L (F + m + 1) 8 [x, ((k + 1 : Nat) : Int)] D)) →
        (∃ C, frm [64, 65] [(63, 6), (63, 7)] A1 C ∧ C 63 (fd 6) = (pcnt x.toNat 48 : Int) ∧ C 63 (fd 7) = -1 ∧ tld x.toNat 48 (C 65) ∧ (∀ c, 0 ≤ c → c < 48 → A2 1 c ≠ 0 → C 64 c = A2 3 c - pG A2 cc 4 c ∧ 0 ≤ A2 3 c - pG A2 cc 4 c) ∧ y = (1, fC_tryCell0 0 0 C)) ∨ (y.1 = 0 ∧ frm [64, 65] [(63, 6), (63, 7)] A1 y.2 ∧ ∃ c, 0 ≤ c ∧ c < 48 ∧ A2 1 c ≠ 0 ∧ A2 3 c < pG A2 cc 4 c) := by
      intro D fD hnD h7D htD hsD y hy
      rw [isTold_is h0 h1 k48] at hy
      cases hbt : x.toNat.testBit k with
      | false =>
        rw [hbt, if_neg (show ¬ (false = true) by decide), if_pos rfl] at hy
        rw [hy]
        exact choose_L h hb hkn h0 h1 h5 m F (k + 1) D (by omega) fD (by rw [pcnt_s0 hbt]; exact hnD) h7D (tld_s0 htD hbt) hsD
      | true =>
        have l := pcnt_lt k48 hbt
        rw [hbt, if_pos rfl, if_neg (show ¬ (1 : Int) = 0 by decide), hnD, if_pos (show ((pcnt x.toNat k : Nat) : Int) < 5 by omega), show wI ((pcnt x.toNat k : Int) + 1) = (pcnt x.toNat k : Int) + 1 from wI_id ⟨by omega, by omega⟩] at hy
        rw [hy]
        refine choose_L h hb hkn h0 h1 h5 m F (k + 1) _ (by omega) (frm_qf (frm_q fD rfl) rfl) ?_ ?_ ?_ (fun c c0 c1 z => ?_)
        · rw [qu_at, pcnt_s1 hbt]; omega
        · have e : ∀ v w, (qu (qu D 65 v (k : Int)) 63 (fd 6) w) 63 (fd 7) = D 63 (fd 7) := fun v w => by simp [qu_is, fd_eq]
          rw [e]; exact h7D
        · intro j hj htj
          rw [qu_ne (show (65 : Nat) ≠ 63 by decide)]
          by_cases q : j = k
          · rw [q, qu_at]
          · have l2 := pcnt_lt (show j < k by omega) htj
            rw [qu_nj (by omega)]
            exact htD j (by omega) htj
        · rw [qu_ne (show (64 : Nat) ≠ 63 by decide), qu_ne (show (64 : Nat) ≠ 65 by decide)]
          exact hsD c c0 c1 z
    by_cases q : A2 1 (k : Int) = 0
    · rw [if_neg (fun z => hg.mp z q)]
      exact go B f hn h7 ht (fun c c0 c1 z => by
        by_cases e : c = (k : Int)
        · rw [e] at z; exact absurd q z
        · exact hs c c0 (by omega) z) _ rfl
    · rw [if_pos (hg.mpr q), ripeload_is (GR_C hG) hG.2.1 hb (show 0 ≤ (k : Int) by omega) (show (k : Int) < 48 by omega)]
      have e2 : B 2 (k : Int) = A2 3 (k : Int) := ((hG.1.2 (k : Int) (by omega) (by omega) trivial).1.2 q).1.1
      have hk2 := hkn (k : Int) (by omega) (by omega)
      rw [← frm_a f (r := 2) rfl, e2] at hk2
      rw [e2]
      have e4 : sumP (ownP A2) (6 - (k : Int) % 6).toNat (k : Int) = pG A2 cc 4 (k : Int) := rfl
      rw [e4]
      have hob : ∀ (m : Nat) (j : Int), 0 ≤ j → j + m ≤ 48 → 0 ≤ sumP (ownP A2) m j ∧ sumP (ownP A2) m j ≤ 6001000 * m := by
        intro m
        induction m with
        | zero => intro j _ _; exact ⟨Int.le_refl _, Int.le_refl _⟩
        | succ m ih =>
          intro j j0 j1
          have a := ih (j + 1) (by omega) (by omega)
          have b := own_s hb (fun k a b => (h.2.1.1 k a b).2.2.1) (fun d a b z w => (((h.1.2 d a b trivial).2 z).2.1 w).1) (c := j) j0 (by omega)
          show 0 ≤ ownP A2 j + sumP (ownP A2) m (j + 1) ∧ ownP A2 j + sumP (ownP A2) m (j + 1) ≤ _
          omega
      have h4 := hob (6 - (k : Int) % 6).toNat (k : Int) (by omega) (by omega)
      rw [e4] at h4
      rw [show wI (A2 3 (k : Int) - pG A2 cc 4 (k : Int)) = A2 3 (k : Int) - pG A2 cc 4 (k : Int) from wI_id ⟨by omega, by omega⟩]
      have fD : frm [64, 65] [(63, 6), (63, 7)] A1 (qu B 64 (k : Int) (A2 3 (k : Int) - pG A2 cc 4 (k : Int))) := frm_q f rfl
      by_cases w : A2 3 (k : Int) - pG A2 cc 4 (k : Int) < 0
      · rw [if_pos w]
        exact Or.inr ⟨rfl, fD, (k : Int), by omega, by omega, q, by omega⟩
      · rw [if_neg w]
        refine go _ fD (by rw [qu_ne (by decide)]; exact hn) (by rw [qu_ne (by decide)]; exact h7) (by rw [qu_ne (by decide)]; exact ht) (fun c c0 c1 z => ?_) _ rfl
        by_cases e : c = (k : Int)
        · rw [e, qu_at]; exact ⟨rfl, by omega⟩
        · rw [qu_nj e]; exact hs c c0 (by omega) z
/-- cells told hang, without crops: the class -/
theorem okC_L {A1 A2 : qA} {x w : Int} (h : GR A1 A2) (h0 : 0 ≤ x) (h1 : x < 281474976710656) : ∀ (m F k : Nat), k + m = 48 → ((∀ j : Nat, k ≤ j → j < 48 → x.toNat.testBit j = true → A2 1 (j : Int) ≠ 0 ∧ A2 7 (j : Int) = -1) ∧ fC_planted_L (F + m + 1) 20 [x, w, (k : Int)] A1 = fC_planted_L (F + 1) 20 [x, w, 48] A1) ∨ ((∃ j : Nat, k ≤ j ∧ j < 48 ∧ x.toNat.testBit j = true ∧ ¬ (A2 1 (j : Int) ≠ 0 ∧ A2 7 (j : Int) = -1)) ∧ fC_planted_L (F + m + 1) 20 [x, w, (k : Int)] A1 = (-3, A1))
  | 0, F, k, hm => by
    rw [show k = 48 by omega]
    exact Or.inl ⟨fun j j0 j1 => by omega, rfl⟩
  | m + 1, F, k, hm => by
    have k48 : k < 48 := by omega
    have hr := h.1.2 (k : Int) (by omega) (by omega) trivial
    have hg := hang_is hr (by omega) (by omega)
    have hc := crop_is hr (by omega) (by omega)
    have ih := okC_L (w := w) h h0 h1 m F (k + 1) (by omega)
    rw [show F + (m + 1) + 1 = (F + m + 1) + 1 by omega, fC_planted_L20]
    unfold fC_planted_c20
    simp only [qlet_e, qlp]
    rw [if_pos (show (k : Int) < 48 by omega), isTold_is h0 h1 k48, show wI ((k : Int) + 1) = ((k + 1 : Nat) : Int) from (wI_id ⟨by omega, by omega⟩).trans (by omega)]
    have nx : (x.toNat.testBit k = true → A2 1 (k : Int) ≠ 0 ∧ A2 7 (k : Int) = -1) → ((∀ j : Nat, k ≤ j → j < 48 → x.toNat.testBit j = true → A2 1 (j : Int) ≠ 0 ∧ A2 7 (j : Int) = -1) ∧ fC_planted_L (F + m + 1) 20 [x, w, ((k + 1 : Nat) : Int)] A1 = fC_planted_L (F + 1) 20 [x, w, 48] A1) ∨ ((∃ j : Nat, k ≤ j ∧ j < 48 ∧ x.toNat.testBit j = true ∧ ¬ (A2 1 (j : Int) ≠ 0 ∧ A2 7 (j : Int) = -1)) ∧ fC_planted_L (F + m + 1) 20 [x, w, ((k + 1 : Nat) : Int)] A1 = (-3, A1)) := fun hk => by
      rcases ih with ⟨a, b⟩ | ⟨⟨j, j0, j1, j2⟩, b⟩
      · refine Or.inl ⟨fun j j0 j1 z => ?_, b⟩
        by_cases e : j = k
        · rw [e] at z ⊢; exact hk z
        · exact a j (by omega) j1 z
      · exact Or.inr ⟨⟨j, by omega, j1, j2⟩, b⟩
    cases hbt : x.toNat.testBit k with
    | false =>
      rw [if_neg (show ¬ (false = true) by decide), if_pos rfl]
      exact nx (fun z => by rw [hbt] at z; cases z)
    | true =>
      rw [if_pos rfl, if_neg (show ¬ (1 : Int) = 0 by decide)]
      by_cases q : A2 1 (k : Int) = 0
      · rw [if_neg (fun z => hg.mp z q)]
        exact Or.inr ⟨⟨k, Nat.le_refl _, k48, hbt, fun z => z.1 q⟩, rfl⟩
      · rw [if_pos (hg.mpr q)]
        by_cases p : A2 7 (k : Int) = -1
        · rw [if_neg (fun z => (hc.mp z).2 p)]
          exact nx (fun _ => ⟨q, p⟩)
        · rw [if_pos (hc.mpr ⟨q, p⟩)]
          exact Or.inr ⟨⟨k, Nat.le_refl _, k48, hbt, fun z => p z.2⟩, rfl⟩
/-- the reference -/
theorem okM_L {G : qA} {n : Nat} {A : qA} (h63 : A 0 (fd 63) = n) (n5 : n ≤ 5) (h50 : ∀ i : Int, 0 ≤ i → i < n → A 50 i = G 0 i) {l : Int} : ∀ (m F : Nat) (q : Int), q + m = n → 0 ≤ q → ((∀ i, q ≤ i → i < n → A 1 (G 0 i) ≠ 0 ∧ A 7 (G 0 i) = -1) ∧ fM_planted_L (F + m + 1) 22 [l, (p7 (n - m) : Int), q] A = fM_planted_L F 55 [l, (p7 n : Int), -1, 0] A) ∨ ((∃ i, q ≤ i ∧ i < n ∧ ¬ (A 1 (G 0 i) ≠ 0 ∧ A 7 (G 0 i) = -1)) ∧ fM_planted_L (F + m + 1) 22 [l, (p7 (n - m) : Int), q] A = (-3, A))
  | 0, F, q, hm, q0 => by
    rw [fM_planted_L22]
    unfold fM_planted_c22
    simp only [qlet_e, qlp]
    rw [h63, if_neg (show ¬ q < (n : Int) by omega)]
    exact Or.inl ⟨fun i i0 i1 => by omega, rfl⟩
  | m + 1, F, q, hm, q0 => by
    have ih := okM_L h63 n5 h50 (l := l) m F (q + 1) (by omega) (by omega)
    have hp : p7 (n - m) = 7 * p7 (n - (m + 1)) := by
      rw [show n - m = (n - (m + 1)) + 1 by omega]
      rfl
    have hb : p7 (n - (m + 1)) ≤ 2401 := by
      have : n - (m + 1) = 0 ∨ n - (m + 1) = 1 ∨ n - (m + 1) = 2 ∨ n - (m + 1) = 3 ∨ n - (m + 1) = 4 := by omega
      rcases this with e | e | e | e | e <;> rw [e] <;> decide
    rw [show F + (m + 1) + 1 = (F + m + 1) + 1 by omega, fM_planted_L22]
    unfold fM_planted_c22
    simp only [qlet_e, qlp]
    rw [h63, if_pos (show q < (n : Int) by omega), h50 q q0 (by omega), show wI (q + 1) = q + 1 from wI_id ⟨by omega, by omega⟩, show wI (7 * (p7 (n - (m + 1)) : Int)) = (p7 (n - m) : Int) from (wI_id ⟨by omega, by omega⟩).trans (by omega)]
    by_cases w : A 1 (G 0 q) = 0
    · rw [if_pos w]
      exact Or.inr ⟨⟨q, Int.le_refl _, by omega, fun z => z.1 w⟩, rfl⟩
    · rw [if_neg w]
      by_cases v : A 7 (G 0 q) = -1
      · rw [if_pos v]
        rcases ih with ⟨a, b⟩ | ⟨⟨i, i0, i1, i2⟩, b⟩
        · refine Or.inl ⟨fun i i0 i1 => ?_, b⟩
          by_cases e : i = q
          · rw [e]; exact ⟨w, v⟩
          · exact a i (by omega) i1
        · exact Or.inr ⟨⟨i, by omega, i1, i2⟩, b⟩
      · rw [if_neg v]
        exact Or.inr ⟨⟨q, Int.le_refl _, by omega, fun z => v z.2⟩, rfl⟩
/-- the kinds are set, in both -/
theorem carry_L {G : qA} {n : Nat} {p : Int → Int} {b : Int} (n5 : n ≤ 5) (hc : ∀ i : Int, 0 ≤ i → i < n → 0 ≤ G 0 i ∧ G 0 i < 48) (hij : ∀ i j : Int, 0 ≤ i → i < j → j < n → G 0 i < G 0 j) (hd : ∀ i : Int, 0 ≤ i → i < n → dig (p i)) : ∀ (m F1 F2 : Nat) (q : Int) (D1 D2 : qA), q + m = n → 0 ≤ q → GR D1 D2 → D1 63 (fd 6) = n → (∀ i : Int, 0 ≤ i → i < n → D1 65 i = G 0 i ∧ D1 67 i = p i) → D2 0 (fd 63) = n → (∀ i : Int, 0 ≤ i → i < n → D2 50 i = G 0 i ∧ D2 52 i = p i) → (∀ i, q ≤ i → i < n → D2 1 (G 0 i) ≠ 0 ∧ D2 7 (G 0 i) = -1) → ∃ E2, fM_planted_L (F2 + m + 1) 150 [10, b, q] D2 = (b, E2) ∧ GR (fC_carryOut_L (F1 + m + 1) 2 [q] D1) E2 ∧ frm [6, 7, 10] [] D1 (fC_carryOut_L (F1 + m + 1) 2 [q] D1)
  | 0, F1, F2, q, D1, D2, hm, q0, h, a1, a2, b1, b2, b3 => by
    rw [fC_carryOut_L2, fM_planted_L150]
    unfold fC_carryOut_c2 fM_planted_c150
    simp only [qlet_e, qlp]
    rw [a1, b1, if_neg (show ¬ q < (n : Int) by omega), if_neg (show ¬ q < (n : Int) by omega), if_neg (show ¬ (10 : Int) = -1 by decide), if_pos trivial]
    exact ⟨D2, rfl, h, frm_0 _ _ _⟩
  | m + 1, F1, F2, q, D1, D2, hm, q0, h, a1, a2, b1, b2, b3 => by
    rw [show F1 + (m + 1) + 1 = (F1 + m + 1) + 1 by omega, show F2 + (m + 1) + 1 = (F2 + m + 1) + 1 by omega, fC_carryOut_L2, fM_planted_L150]
    unfold fC_carryOut_c2 fM_planted_c150
    simp only [qlet_e, qlp]
    obtain ⟨u1, u2⟩ := a2 q q0 (by omega)
    obtain ⟨v1, v2⟩ := b2 q q0 (by omega)
    obtain ⟨w1, w2⟩ := b3 q (Int.le_refl _) (by omega)
    obtain ⟨c0, c1⟩ := hc q q0 (by omega)
    have hdq := hd q q0 (by omega)
    rw [a1, b1, if_pos (show q < (n : Int) by omega), if_pos (show q < (n : Int) by omega), if_pos trivial, u1, u2, v1, v2, show wI (q + 1) = q + 1 from wI_id ⟨by omega, by omega⟩]
    have nd : ∀ i, q + 1 ≤ i → i < n → G 0 i ≠ G 0 q := fun i i0 i1 => by
      have := hij q i q0 (by omega) i1
      omega
    have b3' : ∀ D : qA, D 1 = D2 1 → (∀ d, d ≠ G 0 q → D 7 d = D2 7 d) → ∀ i : Int, q + 1 ≤ i → i < n → D 1 (G 0 i) ≠ 0 ∧ D 7 (G 0 i) = -1 := fun D e1 e7 i i0 i1 => by
      rw [e1, e7 _ (nd i i0 i1)]
      exact b3 i (by omega) i1
    by_cases z : p q = -1
    · have hs : qu D2 7 (G 0 q) (p q) = D2 := by
        rw [z, ← w2]
        exact qu_same
      rw [if_pos z, hs]
      exact carry_L n5 hc hij hd m F1 F2 (q + 1) D1 D2 (by omega) (by omega) h a1 a2 b1 b2 (b3' D2 rfl (fun _ _ => rfl))
    · rw [if_neg z]
      have hs : fC_setCrop (G 0 q) (p q) 0 D1 = qu (qu (qu D1 6 (G 0 q) (p q)) 7 (G 0 q) 0) 10 (G 0 q) 0 := rfl
      have f1 : frm [6, 7, 10] [] D1 (fC_setCrop (G 0 q) (p q) 0 D1) := by
        rw [hs]
        exact frm_q (frm_q (frm_q (frm_0 _ _ _) rfl) rfl) rfl
      have w0 : D2 8 (G 0 q) = 0 := (((h.1.2 (G 0 q) c0 c1 trivial).2 w1).2.1 w2).1
      have hG := GR_crop (B2 := qu D2 7 (G 0 q) (p q)) (w := 0) h c0 c1 (show 0 ≤ p q by have := hdq.1; omega) hdq.2 (by decide) (by decide) w2 w1 rfl (frm_q (frm_0 _ _ _) rfl) (fun d hd => at_j (at_0 _ _ _) hd) (qu_at _ _ _ _) (by rw [qu_ne (by decide)]; exact w0)
      obtain ⟨E2, e1, e2, e3⟩ := carry_L (b := b) n5 hc hij hd m F1 F2 (q + 1) (fC_setCrop (G 0 q) (p q) 0 D1) (qu D2 7 (G 0 q) (p q)) (by omega) (by omega) hG (by rw [frm_f f1 (r := 63) (j := 6) rfl]; exact a1) (by rw [frm_a f1 (r := 65) rfl, frm_a f1 (r := 67) rfl]; exact a2) (by rw [qu_ne (by decide)]; exact b1) (by rw [qu_ne (by decide), qu_ne (by decide)]; exact b2) (b3' _ (by rw [qu_ne (by decide)]) (fun d hd => qu_nj hd))
      exact ⟨E2, e1, e2, frm_c (frm_c (frm_0 _ _ _) f1 rfl) e3 rfl⟩
