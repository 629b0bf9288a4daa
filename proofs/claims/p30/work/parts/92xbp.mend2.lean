/-! WHAT TO MEND FIRST: the class -/
def AMd (A : qA) (n : Nat) (c h : Int → Int) : Prop := (∀ j, 0 ≤ j → j < 72 → A 57 j = 0) ∧ ∀ x : Nat, x < n → A 58 (x : Int) = h (c (x : Int) / 6) ∧ A 59 (x : Int) = 1 + c (x : Int) % 6 ∧ A 60 (x : Int) = if hasP c x = true then sl 1 ((x : Int) - 1) else 0
theorem fill57_L (v n : Int) : ∀ (m F : Nat) (i : Int) (B : qA), m < F → n - i ≤ m → fC_fill57_L F 5 [v, i, n] B = fun r j => if r = 57 ∧ i ≤ j ∧ j < n then v else B r j
  | _, 0, _, _, h, _ => absurd h (Nat.not_lt_zero _)
  | m, F + 1, i, B, hF, hm => by
    rw [fC_fill57_L5]
    unfold fC_fill57_c5
    simp only [qlet_e]
    by_cases h : i < n
    · rw [if_pos h]
      cases m with
      | zero => exfalso; omega
      | succ m =>
        rw [fill57_L v n m F (i + 1) _ (by omega) (by omega)]
        funext r j
        by_cases h1 : r = 57 ∧ i + 1 ≤ j ∧ j < n
        · rw [if_pos h1, if_pos ⟨h1.1, by omega, h1.2.2⟩]
        · rw [if_neg h1, qu_is]
          by_cases h2 : r = 57 ∧ j = i
          · rw [if_pos h2, if_pos ⟨h2.1, by omega, by omega⟩]
          · rw [if_neg h2, if_neg (fun q => by
              by_cases h3 : j = i
              · exact h2 ⟨q.1, h3⟩
              · exact h1 ⟨q.1, by omega, q.2.2⟩)]
    · rw [if_neg h]
      funext r j
      rw [if_neg (fun q => by omega)]
theorem fill57_is (A : qA) : frm [57] [] A (fC_fill57 0 A) ∧ ∀ j, 0 ≤ j → j < 72 → (fC_fill57 0 A) 57 j = 0 := by
  have e : fC_fill57 0 A = fun r j => if r = 57 ∧ 0 ≤ j ∧ j < 72 then 0 else A r j := fill57_L 0 72 72 100000 0 A (by decide) (by decide)
  rw [e]
  refine ⟨fun r i hr _ => ?_, fun j j0 j1 => if_pos ⟨rfl, j0, j1⟩⟩
  exact if_neg (fun q => hr (by rw [q.1]; exact List.mem_cons_self))
theorem asMend_L {n : Nat} {c h : Int → Int} (hc : cel n c) (n8 : n ≤ 8) : ∀ (m F x : Nat) (B : qA), x + m = n → itC B n c → B 22 = h → (∀ j, 0 ≤ j → j < 72 → B 57 j = 0) → (∀ y : Nat, y < x → B 58 (y : Int) = h (c (y : Int) / 6) ∧ B 59 (y : Int) = 1 + c (y : Int) % 6 ∧ B 60 (y : Int) = if hasP c y = true then sl 1 ((y : Int) - 1) else 0) → itC (fC_asMending_L (F + m + 1) 6 [(x : Int)] B) n c ∧ AMd (fC_asMending_L (F + m + 1) 6 [(x : Int)] B) n c h
  | 0, F, x, B, hm, hI, h22, hz, hd => by
    rw [fC_asMending_L6]
    unfold fC_asMending_c6
    simp only [qlet_e]
    rw [hI.1, if_neg (show ¬ (x : Int) < (n : Int) by omega)]
    rw [show x = n by omega] at hd
    exact ⟨hI, hz, hd⟩
  | m + 1, F, x, B, hm, hI, h22, hz, hd => by
    have hx : x < n := by omega
    have cx := hI.2 x hx
    have cb := hc x hx
    have on : ∀ v, v = (if hasP c x = true then sl 1 ((x : Int) - 1) else 0) → itC (fC_asMending_L (F + m + 1) 6 [((x + 1 : Nat) : Int)] (qu (qu (qu B 58 (x : Int) (h (c (x : Int) / 6))) 59 (x : Int) (1 + c (x : Int) % 6)) 60 (x : Int) v)) n c ∧ AMd (fC_asMending_L (F + m + 1) 6 [((x + 1 : Nat) : Int)] (qu (qu (qu B 58 (x : Int) (h (c (x : Int) / 6))) 59 (x : Int) (1 + c (x : Int) % 6)) 60 (x : Int) v)) n c h := fun v hv => by
      have f : frm [58, 59, 60] [] B (qu (qu (qu B 58 (x : Int) (h (c (x : Int) / 6))) 59 (x : Int) (1 + c (x : Int) % 6)) 60 (x : Int) v) := frm_q (frm_q (frm_q (frm_0 _ _ _) rfl) rfl) rfl
      have e58 : ∀ j, (qu (qu (qu B 58 (x : Int) (h (c (x : Int) / 6))) 59 (x : Int) (1 + c (x : Int) % 6)) 60 (x : Int) v) 58 j = if j = (x : Int) then h (c (x : Int) / 6) else B 58 j := fun j => by
        rw [qu_ne (by decide), qu_ne (by decide)]
        by_cases q : j = (x : Int)
        · rw [if_pos q, q, qu_at]
        · rw [if_neg q, qu_nj q]
      have e59 : ∀ j, (qu (qu (qu B 58 (x : Int) (h (c (x : Int) / 6))) 59 (x : Int) (1 + c (x : Int) % 6)) 60 (x : Int) v) 59 j = if j = (x : Int) then 1 + c (x : Int) % 6 else B 59 j := fun j => by
        rw [qu_ne (by decide)]
        by_cases q : j = (x : Int)
        · rw [if_pos q, q, qu_at]
        · rw [if_neg q, qu_nj q, qu_ne (by decide)]
      have e60 : ∀ j, (qu (qu (qu B 58 (x : Int) (h (c (x : Int) / 6))) 59 (x : Int) (1 + c (x : Int) % 6)) 60 (x : Int) v) 60 j = if j = (x : Int) then v else B 60 j := fun j => by
        by_cases q : j = (x : Int)
        · rw [if_pos q, q, qu_at]
        · rw [if_neg q, qu_nj q, qu_ne (by decide), qu_ne (by decide)]
      refine asMend_L hc n8 m F (x + 1) _ (by omega) ⟨by rw [frm_f f (r := 55) (j := 7) rfl]; exact hI.1, fun i hi => by rw [frm_a f (r := 56) rfl]; exact hI.2 i hi⟩ (by rw [frm_a f (r := 22) rfl]; exact h22) (fun j j0 j1 => by rw [frm_a f (r := 57) rfl]; exact hz j j0 j1) (fun y hy => ?_)
      rw [e58, e59, e60]
      by_cases q : y = x
      · subst q
        rw [if_pos rfl, if_pos rfl, if_pos rfl]
        exact ⟨rfl, rfl, hv⟩
      · rw [if_neg (show ¬ (y : Int) = (x : Int) by omega), if_neg (show ¬ (y : Int) = (x : Int) by omega), if_neg (show ¬ (y : Int) = (x : Int) by omega)]
        exact hd y (by omega)
    rw [show F + (m + 1) + 1 = (F + m + 1) + 1 by omega, fC_asMending_L6]
    unfold fC_asMending_c6
    simp only [qlet_e]
    have f34 : ∀ u w, frm [58, 59] [] B (qu (qu B 58 (x : Int) u) 59 (x : Int) w) := fun u w => frm_q (frm_q (frm_0 _ _ _) rfl) rfl
    rw [hI.1, if_pos (show (x : Int) < (n : Int) by omega), cx, qm_nn cb.1, qd_nn cb.1, h22, frm_a (f34 _ _) (r := 56) rfl, show (x : Int) + 1 = ((x + 1 : Nat) : Int) by omega]
    by_cases p1 : 0 < (x : Int)
    · rw [if_pos p1]
      by_cases p2 : 0 < c (x : Int) % 6
      · have hx1 := hI.2 (x - 1) (by omega)
        rw [show (((x - 1 : Nat)) : Int) = (x : Int) - 1 by omega] at hx1
        rw [if_pos p2, hx1]
        by_cases p3 : c ((x : Int) - 1) = c (x : Int) - 1
        · rw [if_pos p3]
          exact on _ (by rw [if_pos (hasP_t.mpr ⟨by omega, p2, p3⟩)])
        · rw [if_neg p3]
          exact on _ (by rw [if_neg (fun z => p3 (hasP_t.mp z).2.2)])
      · rw [if_neg p2]
        exact on _ (by rw [if_neg (fun z => p2 (hasP_t.mp z).2.1)])
    · rw [if_neg p1]
      exact on _ (by rw [if_neg (fun z => p1 (by have := (hasP_t.mp z).1; omega))])
theorem asMend_is {n : Nat} {c h : Int → Int} (hc : cel n c) (n8 : n ≤ 8) {B : qA} (hI : itC B n c) (h22 : B 22 = h) : itC (fC_asMending B) n c ∧ AMd (fC_asMending B) n c h := by
  obtain ⟨f, z⟩ := fill57_is B
  have e : fC_asMending B = fC_asMending_L 100000 6 [0] (fC_fill57 0 B) := (fC_asMending.eq_1 B).trans (qlet.eq_1 _ _)
  rw [e]
  obtain ⟨F, g⟩ : ∃ F : Nat, F + n + 1 = 100000 := ⟨100000 - n - 1, by omega⟩
  have key := asMend_L (h := h) hc n8 n F 0 (fC_fill57 0 B) (by omega) ⟨by rw [frm_f f (r := 55) (j := 7) rfl]; exact hI.1, fun i hi => by rw [frm_a f (r := 56) rfl]; exact hI.2 i hi⟩ (by rw [frm_a f (r := 22) rfl]; exact h22) z (fun y hy => absurd hy (Nat.not_lt_zero _))
  rw [g] at key
  exact key
theorem spentM_L {n : Nat} {c h : Int → Int} {A : qA} (n8 : n ≤ 8) (hn : A 55 (fd 7) = (n : Int)) (hA : AMd A n c h) {d : Nat} (hd : d < 256) : ∀ (m F k : Nat), k + m = n → fC_spentOn_L (F + m + 1) 4 [(d : Int), hsn c d k, (k : Int)] A = hsn c d n
  | 0, F, k, hm => by
    rw [fC_spentOn_L4]
    unfold fC_spentOn_c4
    simp only [qlet_e]
    rw [hn, if_neg (show ¬ (k : Int) < (n : Int) by omega), show k = n by omega]
  | m + 1, F, k, hm => by
    have b1 := bt1 d hd k (by omega)
    have hb := hsn_bd c d k
    obtain ⟨_, e59, _⟩ := hA.2 k (by omega)
    rw [show F + (m + 1) + 1 = (F + m + 1) + 1 by omega, fC_spentOn_L4]
    unfold fC_spentOn_c4
    simp only [qlet_e]
    rw [hn, if_pos (show (k : Int) < (n : Int) by omega), show (k : Int) + 1 = ((k + 1 : Nat) : Int) by omega, show wI ((k + 1 : Nat) : Int) = ((k + 1 : Nat) : Int) from wI_id ⟨by omega, by omega⟩, e59]
    have ih := spentM_L n8 hn hA hd m F (k + 1) (by omega)
    by_cases q : d.testBit k = true
    · rw [if_pos q] at b1
      rw [if_neg (by rw [b1]; decide), show wI (hsn c d k + (1 + c (k : Int) % 6)) = hsn c d (k + 1) from (wI_id ⟨by omega, by omega⟩).trans (by
        show _ = hsn c d k + (if d.testBit k = true then 1 + c (k : Int) % 6 else 0)
        rw [if_pos q])]
      exact ih
    · rw [if_neg q] at b1
      rw [if_pos b1]
      have e : hsn c d (k + 1) = hsn c d k := by
        show hsn c d k + (if d.testBit k = true then 1 + c (k : Int) % 6 else 0) = _
        rw [if_neg q, Int.add_zero]
      rw [e] at ih
      exact ih
theorem spentM_is {n : Nat} {c h : Int → Int} {A : qA} (n8 : n ≤ 8) (hn : A 55 (fd 7) = (n : Int)) (hA : AMd A n c h) {d : Nat} (hd : d < 256) : fC_spentOn (d : Int) A = hsn c d n := by
  obtain ⟨F, g⟩ : ∃ F : Nat, F + n + 1 = 100000 := ⟨100000 - n - 1, by omega⟩
  have key := spentM_L n8 hn hA hd n F 0 (by omega)
  rw [g] at key
  exact key
theorem viaM_is {B : qA} {n : Nat} {c h : Int → Int} (hc : cel n c) (hh : hOK h) (n8 : n ≤ 8) (hA : AMd B n c h) {d : Nat} (hd : d < 2 ^ n) (hO : ∀ D : Nat, d < D → D < 2 ^ n → ∀ la : Nat, D.testBit la = true → B 61 ((D : Int) * 9 + (la : Int)) = MM c h n D) {la : Int} (l0 : 0 ≤ la) (l1 : la ≤ 8) : ∀ k : Nat, k < n → fC_costVia (d : Int) la (k : Int) (hsn c d n) B = if alB c d k = true then gMd c h n d k else 1000000000 := by
  intro k hk
  obtain ⟨hz, hx⟩ := hA
  obtain ⟨a1, a2, a3⟩ := hx k hk
  have d256 := p2m n8 hd
  have b1 := bt1 d d256 k (by omega)
  have qF : qn 1000000000 = 1000000000 := by decide
  unfold fC_costVia
  simp only [qlet_e]
  rw [a1, a2, a3, hz _ (by omega) (by omega), bt2 d d256 k (by omega), qF, Int.zero_add]
  by_cases q : d.testBit k = true
  · rw [if_pos q] at b1
    rw [if_neg (by rw [b1]; decide), if_neg (fun z => by have := (alB_t.mp z).1; rw [q] at this; cases this)]
  · rw [if_neg q] at b1
    have qf : d.testBit k = false := by
      cases hq : d.testBit k
      · rfl
      · exact absurd hq q
    rw [if_pos b1]
    obtain ⟨e1, e2, e3, e4⟩ := bt5 n (by omega) d d256 hd k hk qf
    have hcs := cst_bd (d := d) hc hh n8 hk
    have hMb := MM_b (d := d ||| 2 ^ k) hc hh n8 e2
    have hv : wI (h (c (k : Int) / 6) * (hsn c d n + (1 + c (k : Int) % 6)) + B 61 (((d ||| 2 ^ k : Nat) : Int) * 9 + (k : Int))) = gMd c h n d k := by
      rw [hO _ e3 e2 k e4, Int.mul_comm (h (c (k : Int) / 6))]
      have hcd : (hsn c d n + (1 + c (k : Int) % 6)) * h (c (k : Int) / 6) = cst c h n d k := rfl
      rw [hcd]
      exact wI_id ⟨by omega, by omega⟩
    rw [hv]
    by_cases p : hasP c k = true
    · have hk0 := (hasP_t.mp p).1
      have ha := ah_all d d256 (k - 1) (by omega)
      rw [show (((k - 1 : Nat)) : Int) = (k : Int) - 1 by omega] at ha
      rw [if_pos p]
      by_cases w : d.testBit (k - 1) = true
      · rw [if_pos (ha.mpr w), if_pos (alB_t.mpr ⟨qf, fun _ => w⟩)]
      · rw [if_neg (fun z => w (ha.mp z)), if_neg (fun z => w ((alB_t.mp z).2 p))]
    · rw [if_neg p, if_pos (ia_z _), if_pos (alB_t.mpr ⟨qf, fun z => absurd z p⟩)]
theorem leastM_L {A : qA} {n : Nat} {P : Nat → Bool} {g : Nat → Int} (n8 : n ≤ 8) (hn : A 55 (fd 7) = (n : Int)) {d la s : Int} (hg : ∀ k : Nat, k < n → fC_costVia d la (k : Int) s A = if P k = true then g k else 1000000000) : ∀ (m F k : Nat), k + m = n → fC_leastOnward_L (F + m + 1) 4 [d, la, s, mp g P k, (k : Int)] A = mp g P n
  | 0, F, k, hm => by
    rw [fC_leastOnward_L4]
    unfold fC_leastOnward_c4
    simp only [qlet_e]
    rw [hn, if_neg (show ¬ (k : Int) < (n : Int) by omega), show k = n by omega]
  | m + 1, F, k, hm => by
    have e : min (mp g P k) (fC_costVia d la (k : Int) s A) = mp g P (k + 1) := by
      rw [hg k (by omega), Int.min_def]
      have := mp_top g P k
      cases hb : P k with
      | false =>
        rw [mp_s0 hb, if_neg (show ¬ (false = true) by decide), if_pos this]
      | true =>
        rw [mp_s1 hb, if_pos rfl]
        split <;> split <;> omega
    rw [show F + (m + 1) + 1 = (F + m + 1) + 1 by omega, fC_leastOnward_L4]
    unfold fC_leastOnward_c4
    simp only [qlet_e]
    rw [hn, if_pos (show (k : Int) < (n : Int) by omega), e, show (k : Int) + 1 = ((k + 1 : Nat) : Int) by omega, show wI ((k + 1 : Nat) : Int) = ((k + 1 : Nat) : Int) from wI_id ⟨by omega, by omega⟩]
    exact leastM_L n8 hn hg m F (k + 1) (by omega)
def OM (B : qA) (n : Nat) (c h : Int → Int) (d : Nat) : Prop := ∀ D : Nat, d < D → D < 2 ^ n → ∀ la : Nat, D.testBit la = true → B 61 ((D : Int) * 9 + (la : Int)) = MM c h n D
theorem leastM_is {B : qA} {n : Nat} {c h : Int → Int} (hc : cel n c) (hh : hOK h) (n8 : n ≤ 8) (hI : itC B n c) (hA : AMd B n c h) {d : Nat} (hd : d < 2 ^ n - 1) (hO : OM B n c h d) {la : Int} (l0 : 0 ≤ la) (l1 : la ≤ 8) : fC_leastOnward (d : Int) la (hsn c d n) B = MM c h n d := by
  have e : fC_leastOnward (d : Int) la (hsn c d n) B = fC_leastOnward_L 100000 4 [(d : Int), la, hsn c d n, mp (gMd c h n d) (alB c d) 0, 0] B := by
    unfold fC_leastOnward
    rw [show qn 1000000000 = mp (gMd c h n d) (alB c d) 0 by show qn 1000000000 = 1000000000; decide]
  obtain ⟨F, g⟩ : ∃ F : Nat, F + n + 1 = 100000 := ⟨100000 - n - 1, by omega⟩
  have key := leastM_L (P := alB c d) (g := gMd c h n d) n8 hI.1 (viaM_is hc hh n8 hA (by omega) hO l0 l1) n F 0 (by omega)
  rw [g] at key
  rw [e, MM_s n8 hd]
  exact key
theorem OM_q {B : qA} {n : Nat} {c h : Int → Int} {d l : Nat} {v : Int} (hO : OM B n c h d) (n8 : n ≤ 8) (hl : l < 9) : OM (qu B 61 ((d : Int) * 9 + (l : Int)) v) n c h d := fun D hD hD2 la hla => by
  have := bit_lt hD2 hla
  rw [qu_nj (by omega)]
  exact hO D hD hD2 la hla
theorem itC_q {B : qA} {n : Nat} {c : Int → Int} {r : Nat} {i v : Int} (h : itC B n c) (h1 : (r == 55 || r == 56) = false) : itC (qu B r i v) n c := by
  simp only [Bool.or_eq_false_iff, beq_eq_false_iff_ne] at h1
  exact ⟨by rw [qu_ne (fun z => h1.1 z.symm)]; exact h.1, fun j hj => by rw [qu_ne (fun z => h1.2 z.symm)]; exact h.2 j hj⟩
theorem AMd_q {B : qA} {n : Nat} {c h : Int → Int} {r : Nat} {i v : Int} (hA : AMd B n c h) (h1 : 60 < r) : AMd (qu B r i v) n c h := ⟨fun j j0 j1 => by rw [qu_ne (by omega)]; exact hA.1 j j0 j1, fun x hx => by
  rw [qu_ne (show 58 ≠ r by omega), qu_ne (show 59 ≠ r by omega), qu_ne (show 60 ≠ r by omega)]
  exact hA.2 x hx⟩
theorem solveM_L {n : Nat} {c h : Int → Int} (hc : cel n c) (hh : hOK h) (n8 : n ≤ 8) (n1 : 1 ≤ n) : ∀ (m F d l : Nat) (B : qA), 2 * m + 1 < F → d * 12 + (9 - l) ≤ m → d < 2 ^ n → l ≤ 9 → itC B n c → AMd B n c h → OM B n c h d → (∀ la : Nat, la < l → d.testBit la = true → B 61 ((d : Int) * 9 + (la : Int)) = MM c h n d) → (d = 0 → l = 9 → B 61 8 = MM c h n 0) → ∃ B', fC_solve_L F 17 [((2 ^ n - 1 : Nat) : Int), (d : Int), hsn c d n, (l : Int)] B = fC_findRow ((2 ^ n - 1 : Nat) : Int) B' ∧ itC B' n c ∧ AMd B' n c h ∧ OM B' n c h 0 ∧ B' 61 8 = MM c h n 0 := by
  intro m
  induction m with
  | zero =>
    intro F d l B hF hm hd hl hI hA hO hR hZ
    have d0 : d = 0 := by omega
    have l9 : l = 9 := by omega
    subst d0
    subst l9
    obtain ⟨F, rfl⟩ : ∃ F', F = F' + 1 + 1 := ⟨F - 2, by omega⟩
    rw [fC_solve_L17]
    unfold fC_solve_c17
    simp only [qlet_e]
    rw [if_neg (show ¬ ((9 : Nat) : Int) < 9 by decide), show ((0 : Nat) : Int) + -1 = -1 from rfl, show wI (-1) = -1 from wI_id ⟨by decide, by decide⟩, fC_solve_L9]
    unfold fC_solve_c9
    simp only [qlet_e]
    rw [if_pos (by decide)]
    exact ⟨B, rfl, hI, hA, hO, hZ rfl rfl⟩
  | succ m ih =>
    intro F d l B hF hm hd hl hI hA hO hR hZ
    obtain ⟨F, rfl⟩ : ∃ F', F = F' + 1 := ⟨F - 1, by omega⟩
    have d256 := p2m n8 hd
    have h2 : 2 ^ 1 ≤ 2 ^ n := Nat.pow_le_pow_right (by decide) n1
    have h28 : 2 ^ n ≤ 2 ^ 8 := Nat.pow_le_pow_right (by decide) n8
    have store : ∀ v : Int, l < 9 → (d.testBit l = true → v = MM c h n d) → (d = 0 → l = 8 → v = MM c h n 0) → ∃ B', fC_solve_L F 17 [((2 ^ n - 1 : Nat) : Int), (d : Int), hsn c d n, ((l + 1 : Nat) : Int)] (qu B 61 ((d : Int) * 9 + (l : Int)) v) = fC_findRow ((2 ^ n - 1 : Nat) : Int) B' ∧ itC B' n c ∧ AMd B' n c h ∧ OM B' n c h 0 ∧ B' 61 8 = MM c h n 0 := by
      intro v hl9 hv hv0
      refine ih F d (l + 1) _ (by omega) (by omega) hd (by omega) (itC_q (r := 61) hI rfl) (AMd_q (r := 61) hA (by decide)) (OM_q hO n8 hl9) (fun la hla ht => ?_) (fun z1 z2 => ?_)
      · by_cases q : la = l
        · subst q
          rw [qu_at]
          exact hv ht
        · rw [qu_nj (by omega)]
          exact hR la (by omega) ht
      · have : l = 8 := by omega
        subst this
        subst z1
        rw [show ((0 : Nat) : Int) * 9 + ((8 : Nat) : Int) = 8 from rfl, qu_at]
        exact hv0 rfl rfl
    have skip : l < 9 → d.testBit l = false → (d = 0 → l ≠ 8) → ∃ B', fC_solve_L F 17 [((2 ^ n - 1 : Nat) : Int), (d : Int), hsn c d n, ((l + 1 : Nat) : Int)] B = fC_findRow ((2 ^ n - 1 : Nat) : Int) B' ∧ itC B' n c ∧ AMd B' n c h ∧ OM B' n c h 0 ∧ B' 61 8 = MM c h n 0 := by
      intro hl9 hb h8
      refine ih F d (l + 1) B (by omega) (by omega) hd (by omega) hI hA hO (fun la hla ht => ?_) (fun z1 z2 => absurd (show l = 8 by omega) (h8 z1))
      by_cases q : la = l
      · rw [q, hb] at ht; cases ht
      · exact hR la (by omega) ht
    rw [fC_solve_L17]
    unfold fC_solve_c17
    simp only [qlet_e]
    by_cases q : l < 9
    · rw [if_pos (show (l : Int) < 9 by omega), show (l : Int) + 1 = ((l + 1 : Nat) : Int) by omega, show wI ((l + 1 : Nat) : Int) = ((l + 1 : Nat) : Int) from wI_id ⟨by omega, by omega⟩]
      by_cases d0 : d = 0
      · subst d0
        rw [if_pos (show ((0 : Nat) : Int) = 0 from rfl)]
        by_cases l8 : l = 8
        · subst l8
          have ha : ¬ (((0 : Nat) : Int) = ((2 ^ n - 1 : Nat) : Int)) := by omega
          rw [if_pos (show ((8 : Nat) : Int) = 8 from rfl), if_neg ha]
          exact store _ (by decide) (fun z => by rw [Nat.zero_testBit] at z; cases z) (fun _ _ => leastM_is (la := ((8 : Nat) : Int)) hc hh n8 hI hA (d := 0) (by omega) hO (by decide) (by decide))
        · rw [if_neg (show ¬ (l : Int) = 8 by omega)]
          exact skip q (Nat.zero_testBit l) (fun _ => l8)
      · rw [if_neg (show ¬ (d : Int) = 0 by omega)]
        have b1 := bt1 d d256 l q
        cases hb : d.testBit l with
        | false =>
          rw [hb, if_neg (by decide)] at b1
          rw [if_pos b1]
          exact skip q hb (fun z => absurd z d0)
        | true =>
          rw [hb, if_pos rfl] at b1
          rw [if_neg (by rw [b1]; decide)]
          have hln := bit_lt hd hb
          by_cases da : d = 2 ^ n - 1
          · rw [if_pos (show (d : Int) = ((2 ^ n - 1 : Nat) : Int) by omega)]
            exact store 0 q (fun _ => by rw [da, MM_0]) (fun z => absurd z d0)
          · rw [if_neg (show ¬ (d : Int) = ((2 ^ n - 1 : Nat) : Int) by omega)]
            exact store _ q (fun _ => leastM_is hc hh n8 hI hA (by omega) hO (by omega) (by omega)) (fun z => absurd z d0)
    · rw [if_neg (show ¬ (l : Int) < 9 by omega)]
      obtain ⟨F, rfl⟩ : ∃ F', F = F' + 1 := ⟨F - 1, by omega⟩
      by_cases d0 : d = 0
      · subst d0
        rw [show ((0 : Nat) : Int) + -1 = -1 from rfl, show wI (-1) = -1 from wI_id ⟨by decide, by decide⟩, fC_solve_L9]
        unfold fC_solve_c9
        simp only [qlet_e]
        rw [if_pos (by decide)]
        exact ⟨B, rfl, hI, hA, hO, hZ rfl (by omega)⟩
      · rw [show (d : Int) + -1 = ((d - 1 : Nat) : Int) by omega, show wI ((d - 1 : Nat) : Int) = ((d - 1 : Nat) : Int) from wI_id ⟨by omega, by omega⟩, fC_solve_L9]
        unfold fC_solve_c9
        simp only [qlet_e]
        rw [if_neg (show ¬ ((d - 1 : Nat) : Int) < 0 by omega), spentM_is n8 hI.1 hA (show d - 1 < 256 by omega)]
        exact ih F (d - 1) 0 B (by omega) (by omega) (by omega) (by omega) hI hA (fun D hD hD2 la hla => by
          by_cases z : D = d
          · subst z
            have := bit_lt hD2 hla
            exact hR la (by omega) hla
          · exact hO D (by omega) hD2 la hla) (fun la hla => absurd hla (Nat.not_lt_zero _)) (fun _ z => absurd z (by decide))
theorem solveM_is {n : Nat} {c h : Int → Int} (hc : cel n c) (hh : hOK h) (n8 : n ≤ 8) (n1 : 1 ≤ n) {B : qA} (hI : itC B n c) (hA : AMd B n c h) : ∃ B', fC_solve B = fC_findRow ((2 ^ n - 1 : Nat) : Int) B' ∧ itC B' n c ∧ AMd B' n c h ∧ OM B' n c h 0 ∧ B' 61 8 = MM c h n 0 := by
  have h2 : 2 ^ 1 ≤ 2 ^ n := Nat.pow_le_pow_right (by decide) n1
  have h28 : 2 ^ n ≤ 2 ^ 8 := Nat.pow_le_pow_right (by decide) n8
  obtain ⟨F, g⟩ : ∃ F : Nat, F + 1 = 100000 := ⟨99999, by decide⟩
  have e : fC_solve B = fC_solve_L (F + 1) 9 [((2 ^ n - 1 : Nat) : Int), ((2 ^ n - 1 : Nat) : Int)] B := by
    unfold fC_solve
    simp only [qlet_e]
    rw [hI.1, (bt6 n (by omega)).1, show ((2 ^ n : Nat) : Int) - 1 = ((2 ^ n - 1 : Nat) : Int) by omega, show wI ((2 ^ n - 1 : Nat) : Int) = ((2 ^ n - 1 : Nat) : Int) from wI_id ⟨by omega, by omega⟩, g]
  rw [e, fC_solve_L9]
  unfold fC_solve_c9
  simp only [qlet_e]
  rw [if_neg (show ¬ ((2 ^ n - 1 : Nat) : Int) < 0 by omega), spentM_is n8 hI.1 hA (show 2 ^ n - 1 < 256 by omega)]
  exact solveM_L hc hh n8 n1 4000 F (2 ^ n - 1) 0 B (by omega) (by omega) (by omega) (by omega) hI hA (fun D hD hD2 => absurd hD2 (by omega)) (fun la hla => absurd hla (Nat.not_lt_zero _)) (fun _ z => absurd z (by decide))
theorem rowM_L {n : Nat} {c h : Int → Int} (hc : cel n c) (hh : hOK h) (n8 : n ≤ 8) : ∀ (m F p k : Nat) (la : Int) (B : qA), 2 * m + 1 < F → (n - p) * 12 + (n - k) ≤ m → p < n → itC B n c → AMd B n c h → OM B n c h 0 → 0 ≤ la → la ≤ 8 → B 61 ((dnM c h n p : Int) * 9 + la) = MM c h n (dnM c h n p) → (∀ p' : Nat, p' < p → B 62 (p' : Int) = c (rwM c h n p')) → (k : Int) ≤ rwM c h n p → (∀ p' : Nat, p' < n → (fC_findRow_L F 19 [((2 ^ n - 1 : Nat) : Int), (dnM c h n p : Int), la, (p : Int), hsn c (dnM c h n p) n, (k : Int)] B) 62 (p' : Int) = c (rwM c h n p')) ∧ (fC_findRow_L F 19 [((2 ^ n - 1 : Nat) : Int), (dnM c h n p : Int), la, (p : Int), hsn c (dnM c h n p) n, (k : Int)] B) 61 = B 61 := by
  intro m
  induction m with
  | zero =>
    intro F p k la B hF hm hp
    exfalso; omega
  | succ m ih =>
    intro F p k la B hF hm hp hI hA hO l0 l1 hV hR hK
    obtain ⟨F, rfl⟩ : ∃ F', F = F' + 1 := ⟨F - 1, by omega⟩
    obtain ⟨s1, s2⟩ := dn_ok hc hh n8 p (by omega)
    have slt := dn_lt hc hh n8 hp
    have d256 := p2m n8 s1
    obtain ⟨K, k1, k2, k3, k4, k5⟩ := pp_M hc hh n8 slt
    have hrow : rwM c h n p = (K : Int) := k2
    rw [hrow] at hK
    have hO2 : OM B n c h (dnM c h n p) := fun D hD hD2 x hx => hO D (by omega) hD2 x hx
    have hcv := viaM_is hc hh n8 hA s1 hO2 l0 l1
    have bd := MM_b (d := dnM c h n p) hc hh n8 s1
    have hw : wI ((p : Int) + 1) = ((p + 1 : Nat) : Int) := (wI_id ⟨by omega, by omega⟩).trans (by omega)
    have next : (∀ p' : Nat, p' < n → (fC_findRow_L F 6 [((2 ^ n - 1 : Nat) : Int), io (dnM c h n p : Int) (sl 1 (K : Int)), (K : Int), ((p + 1 : Nat) : Int)] (qu B 62 (p : Int) (B 56 (K : Int)))) 62 (p' : Int) = c (rwM c h n p')) ∧ (fC_findRow_L F 6 [((2 ^ n - 1 : Nat) : Int), io (dnM c h n p : Int) (sl 1 (K : Int)), (K : Int), ((p + 1 : Nat) : Int)] (qu B 62 (p : Int) (B 56 (K : Int)))) 61 = B 61 := by
      have hb := (alB_t.mp k3).1
      obtain ⟨e1, e2, e3, e4⟩ := bt5 n (by omega) _ d256 s1 K k1 hb
      have st1 : dnM c h n (p + 1) = (dnM c h n p ||| 2 ^ K) := by
        show dnM c h n p ||| 2 ^ (pp (gMd c h n (dnM c h n p)) (alB c (dnM c h n p)) n).toNat = _
        rw [k2, Int.toNat_natCast]
      rw [bt2 _ d256 K (by omega), hI.2 K k1, ← st1]
      rw [← st1] at e2 e3 e4
      have hI' : itC (qu B 62 (p : Int) (c K)) n c := itC_q hI rfl
      have hA' : AMd (qu B 62 (p : Int) (c K)) n c h := AMd_q (r := 62) hA (by decide)
      have e61 : (qu B 62 (p : Int) (c K)) 61 = B 61 := qu_ne (by decide)
      have hO' : OM (qu B 62 (p : Int) (c K)) n c h 0 := fun D hD hD2 x hx => by
        rw [e61]
        exact hO D hD hD2 x hx
      have hR' : ∀ p' : Nat, p' < p + 1 → (qu B 62 (p : Int) (c K)) 62 (p' : Int) = c (rwM c h n p') := by
        intro p' hp'
        by_cases z : p' = p
        · rw [z, qu_at, hrow]
        · rw [qu_nj (by omega)]
          exact hR p' (by omega)
      obtain ⟨F, rfl⟩ : ∃ F', F = F' + 1 := ⟨F - 1, by omega⟩
      rw [fC_findRow_L6]
      unfold fC_findRow_c6
      simp only [qlet_e]
      rw [hI'.1]
      by_cases q : p + 1 < n
      · obtain ⟨t1, t2⟩ := dn_ok hc hh n8 (p + 1) (by omega)
        have tl := dn_lt hc hh n8 q
        obtain ⟨K2, j1, j2, -⟩ := pp_M hc hh n8 tl
        rw [if_pos (show ((p + 1 : Nat) : Int) < (n : Int) by omega), if_neg (show ¬ (dnM c h n (p + 1) : Int) = ((2 ^ n - 1 : Nat) : Int) by omega), spentM_is n8 hI'.1 hA' (p2m n8 t1)]
        have key := ih F (p + 1) 0 (K : Int) (qu B 62 (p : Int) (c K)) (by omega) (by omega) q hI' hA' hO' (by omega) (by omega) (by rw [e61]; exact hO _ (by omega) e2 K e4) hR' (by rw [show rwM c h n (p + 1) = (K2 : Int) from j2]; omega)
        exact ⟨key.1, key.2.trans e61⟩
      · rw [if_neg (show ¬ ((p + 1 : Nat) : Int) < (n : Int) by omega)]
        exact ⟨fun p' hp' => hR' p' (by omega), e61⟩
    rw [fC_findRow_L19]
    unfold fC_findRow_c19
    simp only [qlet_e]
    rw [hI.1, show wI ((n : Int) - 1) = (n : Int) - 1 from wI_id ⟨by omega, by omega⟩, hV, hw]
    by_cases q : k + 1 < n
    · rw [if_pos (show (k : Int) < (n : Int) - 1 by omega), hcv k (by omega)]
      by_cases z : k = K
      · subst z
        rw [if_pos k3, if_pos k4]
        exact next
      · have hne : ¬ ((if alB c (dnM c h n p) k = true then gMd c h n (dnM c h n p) k else 1000000000) = MM c h n (dnM c h n p)) := by
          by_cases hb : alB c (dnM c h n p) k = true
          · have := k5 k (by omega) hb
            rw [if_pos hb]
            omega
          · rw [if_neg hb]
            omega
        rw [if_neg hne, show (k : Int) + 1 = ((k + 1 : Nat) : Int) by omega, show wI ((k + 1 : Nat) : Int) = ((k + 1 : Nat) : Int) from wI_id ⟨by omega, by omega⟩]
        exact ih F p (k + 1) la B (by omega) (by omega) hp hI hA hO l0 l1 hV hR (by rw [hrow]; omega)
    · have z : k = K := by omega
      subst z
      rw [if_neg (show ¬ (k : Int) < (n : Int) - 1 by omega)]
      exact next
theorem rowM_is {n : Nat} {c h : Int → Int} (hc : cel n c) (hh : hOK h) (n8 : n ≤ 8) (n1 : 1 ≤ n) {B : qA} (hI : itC B n c) (hA : AMd B n c h) (hO : OM B n c h 0) (h8 : B 61 8 = MM c h n 0) : (∀ p' : Nat, p' < n → (fC_findRow ((2 ^ n - 1 : Nat) : Int) B) 62 (p' : Int) = c (rwM c h n p')) ∧ (fC_findRow ((2 ^ n - 1 : Nat) : Int) B) 61 = B 61 := by
  have h2 : 2 ^ 1 ≤ 2 ^ n := Nat.pow_le_pow_right (by decide) n1
  obtain ⟨K2, j1, j2, -⟩ := pp_M hc hh n8 (show dnM c h n 0 < 2 ^ n - 1 from dn_lt hc hh n8 n1)
  obtain ⟨F, g⟩ : ∃ F : Nat, F + 1 = 100000 := ⟨99999, by decide⟩
  have e : fC_findRow ((2 ^ n - 1 : Nat) : Int) B = fC_findRow_L (F + 1) 6 [((2 ^ n - 1 : Nat) : Int), 0, 8, 0] B := by
    unfold fC_findRow
    rw [g]
  rw [e, fC_findRow_L6]
  unfold fC_findRow_c6
  simp only [qlet_e]
  have es : fC_spentOn 0 B = hsn c 0 n := spentM_is (d := 0) n8 hI.1 hA (by decide)
  rw [hI.1, if_pos (show (0 : Int) < (n : Int) by omega), if_neg (show ¬ (0 : Int) = ((2 ^ n - 1 : Nat) : Int) by omega), es]
  exact rowM_L hc hh n8 500 F 0 0 8 B (by omega) (by omega) (by omega) hI hA hO (by decide) (by decide) (by
    show B 61 (((0 : Nat) : Int) * 9 + 8) = MM c h n 0
    exact h8) (fun p' hp' => absurd hp' (Nat.not_lt_zero _)) (by rw [show rwM c h n 0 = (K2 : Int) from j2]; omega)
