/-! PLANTING, in the reference -/
def plM (G : qA) (n : Nat) (A : qA) : Prop := (A 0 (fd 63) = n ∧ n ≤ 5) ∧ (∀ i : Int, 0 ≤ i → i < n → A 50 i = G 0 i ∧ 0 ≤ G 0 i ∧ G 0 i < 48) ∧ (∀ k, 0 ≤ k → k ≤ 5 → A 12 k = G 1 k ∧ A 13 k = G 2 k) ∧ (∀ x, 0 ≤ x → x ≤ 7 → A 16 x = G 3 x) ∧ (A 3 = G 5 ∧ A 1 = G 6) ∧ (∀ c, 0 ≤ c → c < 48 → (G 6 c = 0 → G 7 c = 0) ∧ (G 6 c ≠ 0 → ((0 ≤ A 4 c ∧ A 4 c ≤ 9) ∧ (0 ≤ A 9 c ∧ A 9 c ≤ 6000000) ∧ (0 ≤ A 10 c ∧ A 10 c ≤ 20) ∧ (0 ≤ A 8 c ∧ A 8 c ≤ 200) ∧ (-1 ≤ A 7 c ∧ A 7 c ≤ 5)) ∧ G 7 c = 10 * A 4 c + A 9 c + A 10 c + (if A 7 c = -1 then 0 else max (A 8 c) (G 1 (A 7 c))))) ∧ ∀ c, 0 ≤ c → c < 48 → G 4 c = G 7 c + (if c % 6 = 5 then 0 else G 4 (c + 1))
theorem pM_7 {G : qA} {n : Nat} {A : qA} (h : plM G n A) (hp : rpos G) {c : Int} (c0 : 0 ≤ c) (c1 : c < 48) : 0 ≤ G 7 c ∧ G 7 c ≤ 6001000 := by
  obtain ⟨_, _, _, _, _, h6, _⟩ := h
  obtain ⟨a, b⟩ := h6 c c0 c1
  by_cases q : G 6 c = 0
  · have := a q; omega
  · obtain ⟨⟨u1, u2, u3, u4, u5⟩, u6⟩ := b q
    rw [u6]
    by_cases w : A 7 c = -1
    · rw [if_pos w]; omega
    · rw [if_neg w]
      have := hp (A 7 c) (by omega) (by omega)
      omega
/-- roofs -/
theorem whole_L {G : qA} {n : Nat} {A B : qA} (hA : plM G n A) (hp : rpos G) (f : frm [51, 52, 58] [] A B) (hd : ∀ i : Int, 0 ≤ i → i < n → dig (B 51 i)) : ∀ (m F : Nat) (q : Int), q + m = n → 0 ≤ q → (fM_areWhole_L (F + m + 1) 2 [q] B = 1 ∧ rfS (G 0) (G 1) (G 3) q (rw_ (B 51) m q)) ∨ (fM_areWhole_L (F + m + 1) 2 [q] B = 0 ∧ ¬ rfS (G 0) (G 1) (G 3) q (rw_ (B 51) m q))
  | 0, F, q, hm, q0 => by
    rw [fM_areWhole_L2]
    unfold fM_areWhole_c2
    simp only [qlet]
    rw [frm_f f (r := 0) (j := 63) rfl, hA.1.1, if_neg (show ¬ q < (n : Int) by omega)]
    exact Or.inl ⟨rfl, trivial⟩
  | m + 1, F, q, hm, q0 => by
    rw [show F + (m + 1) + 1 = (F + m + 1) + 1 by omega, fM_areWhole_L2]
    unfold fM_areWhole_c2
    simp only [qlet]
    obtain ⟨e50, c0, c1⟩ := hA.2.1 q q0 (by omega)
    rw [frm_f f (r := 0) (j := 63) rfl, hA.1.1, if_pos (show q < (n : Int) by omega), frm_a f (r := 50) rfl, frm_a f (r := 12) rfl, frm_a f (r := 16) rfl, e50, qd_nn c0, qm_nn c0, hA.2.2.2.1 _ (show 0 ≤ G 0 q / 6 by omega) (by omega)]
    have ih := whole_L hA hp f hd m F (q + 1) (by omega) (by omega)
    have hdq := hd q q0 (by omega)
    show (_ ∧ ((B 51 q ≠ -1 → G 1 (B 51 q) * (6 - G 0 q % 6) ≤ G 3 (G 0 q / 6)) ∧ rfS (G 0) (G 1) (G 3) (q + 1) (rw_ (B 51) m (q + 1)))) ∨ (_ ∧ ¬ ((B 51 q ≠ -1 → G 1 (B 51 q) * (6 - G 0 q % 6) ≤ G 3 (G 0 q / 6)) ∧ rfS (G 0) (G 1) (G 3) (q + 1) (rw_ (B 51) m (q + 1))))
    by_cases w : B 51 q = -1
    · rw [if_pos w]
      rcases ih with ⟨a, b⟩ | ⟨a, b⟩
      · exact Or.inl ⟨a, fun z => absurd w z, b⟩
      · exact Or.inr ⟨a, fun z => b z.2⟩
    · rw [if_neg w, (hA.2.2.1 (B 51 q) (by have := hdq.1; omega) hdq.2).1]
      by_cases v : G 3 (G 0 q / 6) < G 1 (B 51 q) * (6 - G 0 q % 6)
      · rw [if_pos v]
        exact Or.inr ⟨rfl, fun z => by have := z.1 w; omega⟩
      · rw [if_neg v]
        rcases ih with ⟨a, b⟩ | ⟨a, b⟩
        · exact Or.inl ⟨a, fun _ => by omega, b⟩
        · exact Or.inr ⟨a, fun z => b z.2⟩
theorem whole_is {G : qA} {n : Nat} {A B : qA} (hA : plM G n A) (hp : rpos G) (f : frm [51, 52, 58] [] A B) (hd : ∀ i : Int, 0 ≤ i → i < n → dig (B 51 i)) : (fM_areWhole B = 1 ∧ rfS (G 0) (G 1) (G 3) 0 (rw_ (B 51) n 0)) ∨ (fM_areWhole B = 0 ∧ ¬ rfS (G 0) (G 1) (G 3) 0 (rw_ (B 51) n 0)) := by
  have h5 := hA.1.2
  have key := whole_L hA hp f hd n (99999 - n) 0 (by omega) (by omega)
  rw [show 99999 - n + n + 1 = 100000 by omega] at key
  exact key
/-- what each cell weighs -/
theorem bear2 {G : qA} {n : Nat} {A : qA} (hA : plM G n A) (hp : rpos G) : ∀ (m F : Nat) (c : Int) (B : qA), c + m = 48 → 0 ≤ c → frm [51, 52, 58] [] A B → (∀ d, 0 ≤ d → d < c → B 58 d = G 7 d) → ∃ C, frm [51, 52, 58] [] A C ∧ C 51 = B 51 ∧ C 52 = B 52 ∧ (∀ d, 0 ≤ d → d < 48 → C 58 d = G 7 d) ∧ fM_bearsAll_L (F + m + 1) 2 [c] B = fM_bearsAll_L F 57 [0] C
  | 0, F, c, B, hm, c0, f, hz => by
    rw [fM_bearsAll_L2]
    unfold fM_bearsAll_c2
    simp only [qlet]
    rw [if_neg (show ¬ c < 48 by omega)]
    exact ⟨B, f, rfl, rfl, fun d d0 d1 => hz d d0 (by omega), rfl⟩
  | m + 1, F, c, B, hm, c0, f, hz => by
    rw [show F + (m + 1) + 1 = (F + m + 1) + 1 by omega, fM_bearsAll_L2]
    unfold fM_bearsAll_c2
    simp only [qlet]
    obtain ⟨h1, h2⟩ := hA.2.2.2.2.2.1 c c0 (by omega)
    have nx : ∀ v, v = G 7 c → ∃ C, frm [51, 52, 58] [] A C ∧ C 51 = B 51 ∧ C 52 = B 52 ∧ (∀ d, 0 ≤ d → d < 48 → C 58 d = G 7 d) ∧ fM_bearsAll_L (F + m + 1) 2 [c + 1] (qu B 58 c v) = fM_bearsAll_L F 57 [0] C := fun v hv => by
      obtain ⟨C, g1, g2, g3, g4, g5⟩ := bear2 hA hp m F (c + 1) (qu B 58 c v) (by omega) (by omega) (frm_q f rfl) (fun d d0 d1 => by
        by_cases q : d = c
        · rw [q, qu_at]; exact hv
        · rw [qu_nj q]; exact hz d d0 (by omega))
      exact ⟨C, g1, by rw [g2, qu_ne (by decide)], by rw [g3, qu_ne (by decide)], g4, g5⟩
    rw [if_pos (show c < 48 by omega), show wI (c + 1) = c + 1 from wI_id ⟨by omega, by omega⟩, frm_a f (r := 1) rfl, frm_a f (r := 4) rfl, frm_a f (r := 9) rfl, frm_a f (r := 10) rfl, frm_a f (r := 7) rfl, frm_a f (r := 8) rfl, frm_a f (r := 12) rfl, hA.2.2.2.2.1.2]
    by_cases q : G 6 c = 0
    · rw [if_pos q]
      exact nx 0 (h1 q).symm
    · obtain ⟨⟨u1, u2, u3, u4, u5⟩, u6⟩ := h2 q
      rw [if_neg q]
      by_cases w : A 7 c = -1
      · rw [if_pos w] at u6 ⊢
        exact nx _ (by rw [u6]; exact wI_id ⟨by omega, by omega⟩)
      · have hk := hp (A 7 c) (by omega) (by omega)
        have hm9 : fM_more (A 8 c) (A 12 (A 7 c)) B = max (A 8 c) (G 1 (A 7 c)) := by
          rw [(hA.2.2.1 (A 7 c) (by omega) (by omega)).1]
          unfold fM_more
          split <;> omega
        rw [if_neg w] at u6 ⊢
        rw [hm9]
        exact nx _ (by rw [u6]; exact wI_id ⟨by omega, by omega⟩)
theorem pkS_bd {G : qA} (hp : rpos G) (c : Int) : ∀ (pre : List Int) (i : Int), dgs pre → 0 ≤ pkS (G 0) (G 1) c i pre ∧ pkS (G 0) (G 1) c i pre ≤ 200 * (pre.length : Int)
  | [], i, _ => ⟨Int.le_refl _, Int.le_refl _⟩
  | d :: ds, i, h => by
    obtain ⟨i1, i2⟩ := pkS_bd hp c ds (i + 1) (fun x hx => h x (List.mem_cons_of_mem _ hx))
    have hd := h d List.mem_cons_self
    show 0 ≤ (if d ≠ -1 ∧ G 0 i = c then G 1 d else 0) + pkS (G 0) (G 1) c (i + 1) ds ∧ (if d ≠ -1 ∧ G 0 i = c then G 1 d else 0) + pkS (G 0) (G 1) c (i + 1) ds ≤ _
    rw [List.length_cons]
    by_cases q : d ≠ -1 ∧ G 0 i = c
    · rw [if_pos q]
      obtain ⟨a, b, _⟩ := hp d (by have := hd.1; have := q.1; omega) hd.2
      omega
    · rw [if_neg q]; omega
theorem rw_dgs {f : Int → Int} : ∀ (n : Nat) (i : Int), (∀ j, i ≤ j → j < i + n → dig (f j)) → dgs (rw_ f n i)
  | 0, _, _ => fun d hd => absurd hd List.not_mem_nil
  | n + 1, i, h => fun d hd => by
    rcases List.mem_cons.mp hd with q | q
    · rw [q]; exact h i (Int.le_refl _) (by omega)
    · exact rw_dgs n (i + 1) (fun j h0 h1 => h j (by omega) (by omega)) d q
/-- with the picks -/
theorem bear57 {G : qA} {n : Nat} {A : qA} (hA : plM G n A) (hp : rpos G) {p : Int → Int} (hd : ∀ i : Int, 0 ≤ i → i < n → dig (p i)) : ∀ (m F : Nat) (q : Int) (B : qA) (h : Int → Int), q + m = n → 0 ≤ q → frm [51, 52, 58] [] A B → B 51 = p → (∀ d, 0 ≤ d → d < 48 → B 58 d = h d ∧ 0 ≤ h d ∧ h d ≤ 6001000 + 200 * q) → ∃ C, frm [51, 52, 58] [] A C ∧ C 51 = B 51 ∧ C 52 = B 52 ∧ (∀ d, 0 ≤ d → d < 48 → C 58 d = h d + pkS (G 0) (G 1) d q (rw_ p m q)) ∧ fM_bearsAll_L (F + m + 1) 57 [q] B = fM_bearsAll_L F 95 [0] C := by
  intro m
  induction m with
  | zero =>
    intro F q B h hm q0 f e51 hz
    rw [fM_bearsAll_L57]
    unfold fM_bearsAll_c57
    simp only [qlet_e]
    rw [frm_f f (r := 0) (j := 63) rfl, hA.1.1, if_neg (show ¬ q < (n : Int) by omega)]
    exact ⟨B, f, rfl, rfl, fun d d0 d1 => by show _ = h d + 0; rw [(hz d d0 d1).1, Int.add_zero], rfl⟩
  | succ m ih =>
    intro F q B h hm q0 f e51 hz
    have h5 := hA.1.2
    rw [show F + (m + 1) + 1 = (F + m + 1) + 1 by omega, fM_bearsAll_L57]
    unfold fM_bearsAll_c57
    simp only [qlet_e]
    obtain ⟨e50, c0, c1⟩ := hA.2.1 q q0 (by omega)
    have hdq := hd q q0 (by omega)
    obtain ⟨z1, z2, z3⟩ := hz (G 0 q) c0 c1
    have nx : ∀ v w, v = h (G 0 q) + w → 0 ≤ w → w ≤ 200 → w = (if p q ≠ -1 ∧ G 0 q = G 0 q then G 1 (p q) else 0) → ∃ C, frm [51, 52, 58] [] A C ∧ C 51 = p ∧ C 52 = B 52 ∧ (∀ d, 0 ≤ d → d < 48 → C 58 d = h d + pkS (G 0) (G 1) d q (rw_ p (m + 1) q)) ∧ fM_bearsAll_L (F + m + 1) 57 [q + 1] (qu B 58 (G 0 q) v) = fM_bearsAll_L F 95 [0] C := fun v w hv w0 w1 hw => by
      obtain ⟨C, g1, g2, g3, g4, g5⟩ := ih F (q + 1) (qu B 58 (G 0 q) v) (fun d => if d = G 0 q then v else h d) (by omega) (by omega) (frm_q f rfl) (by rw [qu_ne (by decide)]; exact e51) (fun d d0 d1 => by
        obtain ⟨y1, y2, y3⟩ := hz d d0 d1
        by_cases e : d = G 0 q
        · rw [e, qu_at]
          rw [if_pos rfl]
          omega
        · rw [qu_nj e]
          rw [if_neg e]
          omega)
      refine ⟨C, g1, by rw [g2, qu_ne (by decide)]; exact e51, by rw [g3, qu_ne (by decide)], fun d d0 d1 => ?_, g5⟩
      rw [g4 d d0 d1]
      show _ = h d + ((if p q ≠ -1 ∧ G 0 q = d then G 1 (p q) else 0) + pkS (G 0) (G 1) d (q + 1) (rw_ p m (q + 1)))
      by_cases e : d = G 0 q
      · rw [if_pos e, e, ← hw, hv]; omega
      · rw [if_neg e, if_neg (fun z => e z.2.symm)]; omega
    rw [frm_f f (r := 0) (j := 63) rfl, hA.1.1, if_pos (show q < (n : Int) by omega), show wI (q + 1) = q + 1 from wI_id ⟨by omega, by omega⟩, frm_a f (r := 50) rfl, frm_a f (r := 12) rfl, e50, e51, z1]
    by_cases w : p q = -1
    · rw [if_pos w, show wI (h (G 0 q) + 0) = h (G 0 q) + 0 from wI_id ⟨by omega, by omega⟩]
      exact nx _ 0 rfl (by decide) (by decide) (by rw [if_neg (fun z => z.1 w)])
    · have hk := hp (p q) (by have := hdq.1; omega) hdq.2
      rw [if_neg w, (hA.2.2.1 (p q) (by have := hdq.1; omega) hdq.2).1, show wI (h (G 0 q) + G 1 (p q)) = h (G 0 q) + G 1 (p q) from wI_id ⟨by omega, by omega⟩]
      exact nx _ (G 1 (p q)) rfl (by omega) (by omega) (by rw [if_pos ⟨w, rfl⟩])
/-- sums of the columns -/
def tot (G : qA) (row : List Int) (c : Int) : Int := G 4 c + plS (G 0) (G 1) c 0 row
theorem tot_s {G : qA} {n : Nat} {A : qA} (hA : plM G n A) (row : List Int) {c : Int} (c0 : 0 ≤ c) (c1 : c < 48) : tot G row c = (G 7 c + pkS (G 0) (G 1) c 0 row) + (if c % 6 = 5 then 0 else tot G row (c + 1)) := by
  have hb := hA.2.2.2.2.2.2 c c0 c1
  unfold tot
  by_cases q : c % 6 = 5
  · rw [if_pos q] at hb ⊢
    rw [plS_5 _ _ _ q, hb]
    omega
  · rw [if_neg q] at hb ⊢
    rw [plS_c _ _ _ (by omega), hb]
    omega
theorem bear108 {G : qA} {n : Nat} {A B : qA} {row : List Int} (hA : plM G n A) (hp : rpos G) (hdr : dgs row) (hl : row.length ≤ 5) (f : frm [51, 52, 58] [] A B) (h58 : ∀ d, 0 ≤ d → d < 48 → B 58 d = G 7 d + pkS (G 0) (G 1) d 0 row) {x : Int} (x0 : 0 ≤ x) (x1 : x < 8) : ∀ (m F : Nat) (c s : Int), c + 1 = 6 * x + m → c ≤ 6 * x + 5 → s = (if c = 6 * x + 5 then 0 else tot G row (c + 1)) → 0 ≤ s → s ≤ 6002000 * (6 * x + 5 - c) → (fM_bearsAll_L (F + m + 1) 108 [x, s, c] B = fM_bearsAll_L F 95 [x + 1] B ∧ ∀ d, 6 * x ≤ d → d ≤ c → G 6 d ≠ 0 → tot G row d ≤ G 5 d) ∨ (fM_bearsAll_L (F + m + 1) 108 [x, s, c] B = (0, B) ∧ ∃ d, 6 * x ≤ d ∧ d ≤ c ∧ G 6 d ≠ 0 ∧ G 5 d < tot G row d)
  | 0, F, c, s, hm, hc, hs, s0, s1 => by
    rw [fM_bearsAll_L108]
    unfold fM_bearsAll_c108
    simp only [qlet]
    rw [show wI (6 * x) = 6 * x from wI_id ⟨by omega, by omega⟩, if_pos (show c < 6 * x by omega), show wI (x + 1) = x + 1 from wI_id ⟨by omega, by omega⟩]
    exact Or.inl ⟨rfl, fun d d0 d1 => by omega⟩
  | m + 1, F, c, s, hm, hc, hs, s0, s1 => by
    rw [show F + (m + 1) + 1 = (F + m + 1) + 1 by omega, fM_bearsAll_L108]
    unfold fM_bearsAll_c108
    simp only [qlet]
    have h7 := pM_7 hA hp (c := c) (by omega) (by omega)
    have hpk := pkS_bd hp c row 0 hdr
    have e8 := h58 c (by omega) (by omega)
    have ht := tot_s hA row (c := c) (by omega) (by omega)
    have hT : s + B 58 c = tot G row c := by
      rw [e8, ht, hs]
      by_cases q : c = 6 * x + 5
      · rw [if_pos q, if_pos (show c % 6 = 5 by omega)]; omega
      · rw [if_neg q, if_neg (show ¬ c % 6 = 5 by omega)]; omega
    rw [show wI (6 * x) = 6 * x from wI_id ⟨by omega, by omega⟩, if_neg (show ¬ c < 6 * x by omega), frm_a f (r := 1) rfl, frm_a f (r := 3) rfl, hA.2.2.2.2.1.1, hA.2.2.2.2.1.2, show wI (c + -1) = c + -1 from wI_id ⟨by omega, by omega⟩, show wI (s + B 58 c) = tot G row c from (wI_id ⟨by omega, by omega⟩).trans hT]
    have ih := bear108 hA hp hdr hl f h58 x0 x1 m F (c + -1) (tot G row c) (by omega) (by omega) (by rw [if_neg (by omega), show c + -1 + 1 = c by omega]) (by omega) (by omega)
    by_cases q : G 6 c = 0
    · rw [if_pos q]
      rcases ih with ⟨a, b⟩ | ⟨a, d, d0, d1, d2⟩
      · refine Or.inl ⟨a, fun d d0 d1 z => ?_⟩
        by_cases e : d = c
        · rw [e] at z; exact absurd q z
        · exact b d d0 (by omega) z
      · exact Or.inr ⟨a, d, d0, by omega, d2⟩
    · rw [if_neg q]
      by_cases w : G 5 c < tot G row c
      · rw [if_pos w]
        exact Or.inr ⟨rfl, c, by omega, Int.le_refl _, q, w⟩
      · rw [if_neg w]
        rcases ih with ⟨a, b⟩ | ⟨a, d, d0, d1, d2⟩
        · refine Or.inl ⟨a, fun d d0 d1 z => ?_⟩
          by_cases e : d = c
          · rw [e]; omega
          · exact b d d0 (by omega) z
        · exact Or.inr ⟨a, d, d0, by omega, d2⟩
theorem bear95 {G : qA} {n : Nat} {A B : qA} {row : List Int} (hA : plM G n A) (hp : rpos G) (hdr : dgs row) (hl : row.length ≤ 5) (f : frm [51, 52, 58] [] A B) (h58 : ∀ d, 0 ≤ d → d < 48 → B 58 d = G 7 d + pkS (G 0) (G 1) d 0 row) : ∀ (m F : Nat) (x : Int), x + m = 8 → 0 ≤ x → (fM_bearsAll_L (F + 8 * m + 1) 95 [x] B = (1, B) ∧ ∀ d, 6 * x ≤ d → d < 48 → G 6 d ≠ 0 → tot G row d ≤ G 5 d) ∨ (fM_bearsAll_L (F + 8 * m + 1) 95 [x] B = (0, B) ∧ ∃ d, 6 * x ≤ d ∧ d < 48 ∧ G 6 d ≠ 0 ∧ G 5 d < tot G row d)
  | 0, F, x, hm, x0 => by
    rw [fM_bearsAll_L95]
    unfold fM_bearsAll_c95
    simp only [qlet]
    rw [if_neg (show ¬ x < 8 by omega)]
    exact Or.inl ⟨rfl, fun d d0 d1 => by omega⟩
  | m + 1, F, x, hm, x0 => by
    rw [show F + 8 * (m + 1) + 1 = ((F + 8 * m + 1) + 6 + 1) + 1 by omega, fM_bearsAll_L95]
    unfold fM_bearsAll_c95
    simp only [qlet]
    rw [if_pos (show x < 8 by omega), show wI (6 * (x + 1) - 1) = 6 * x + 5 from (wI_id ⟨by omega, by omega⟩).trans (by omega)]
    rcases bear108 hA hp hdr hl f h58 x0 (show x < 8 by omega) 6 (F + 8 * m + 1) (6 * x + 5) 0 (by omega) (by omega) (by rw [if_pos rfl]) (by omega) (by omega) with ⟨a, b⟩ | ⟨a, d, d0, d1, d2⟩
    · rw [a]
      rcases bear95 hA hp hdr hl f h58 m F (x + 1) (by omega) (by omega) with ⟨a2, b2⟩ | ⟨a2, d, d0, d1, d2⟩
      · refine Or.inl ⟨a2, fun d d0 d1 z => ?_⟩
        by_cases e : d ≤ 6 * x + 5
        · exact b d d0 e z
        · exact b2 d (by omega) d1 z
      · exact Or.inr ⟨a2, d, by omega, d1, d2⟩
    · exact Or.inr ⟨a, d, d0, by omega, d2⟩
theorem bears_is {G : qA} {n : Nat} {A B : qA} (hA : plM G n A) (hp : rpos G) (f : frm [51, 52, 58] [] A B) (hd : ∀ i : Int, 0 ≤ i → i < n → dig (B 51 i)) : ∃ C, frm [51, 52, 58] [] A C ∧ C 51 = B 51 ∧ C 52 = B 52 ∧ ((fM_bearsAll B = (1, C) ∧ ∀ d, 0 ≤ d → d < 48 → G 6 d ≠ 0 → tot G (rw_ (B 51) n 0) d ≤ G 5 d) ∨ (fM_bearsAll B = (0, C) ∧ ∃ d, 0 ≤ d ∧ d < 48 ∧ G 6 d ≠ 0 ∧ G 5 d < tot G (rw_ (B 51) n 0) d)) := by
  have h5 := hA.1.2
  have e0 : fM_bearsAll B = fM_bearsAll_L 100000 2 [0] B := rfl
  obtain ⟨C1, g1, g2, g3, g4, g5⟩ := bear2 hA hp 48 99951 0 B (by decide) (by decide) f (fun d d0 d1 => by omega)
  rw [show 99951 + 48 + 1 = 100000 from rfl] at g5
  obtain ⟨C2, k1, k2, k3, k4, k5⟩ := bear57 hA hp (p := B 51) hd n (99950 - n) 0 C1 (G 7) (by omega) (by decide) g1 g2 (fun d d0 d1 => ⟨g4 d d0 d1, by have := pM_7 hA hp d0 d1; omega⟩)
  rw [show 99950 - n + n + 1 = 99951 by omega] at k5
  have key := bear95 hA hp (row := rw_ (B 51) n 0) (rw_dgs n 0 (fun j j0 j1 => hd j j0 (by omega))) (by rw [rw_len]; exact h5) k1 k4 8 (99885 - n) 0 (by decide) (by decide)
  rw [show 99885 - n + 8 * 8 + 1 = 99950 - n by omega] at key
  refine ⟨C2, k1, k2.trans g2, k3.trans g3, ?_⟩
  rw [e0, g5, k5]
  exact key
