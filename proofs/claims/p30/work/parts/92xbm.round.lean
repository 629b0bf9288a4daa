/-! THE SHORTEST ROUND: what both reckon -/
def way (a b : Int) : Int := 2 * (if 0 ≤ a / 6 - b / 6 then a / 6 - b / 6 else -(a / 6 - b / 6)) + (if 0 ≤ a % 6 - b % 6 then a % 6 - b % 6 else -(a % 6 - b % 6)) + 1
theorem wayC {a b : Int} (h0 : 0 ≤ a) (h1 : 0 ≤ b) (A : qA) : fC_hoursBetween a b A + 1 = way a b := by
  unfold fC_hoursBetween way
  simp only [qlet_e]
  rw [qd_nn h0, qd_nn h1, qm_nn h0, qm_nn h1]
theorem wayM {a b : Int} (h0 : 0 ≤ a) (h1 : 0 ≤ b) (A : qA) : fM_way a b A = way a b := by
  have ap : ∀ u v : Int, fM_apart u v A = if 0 ≤ u - v then u - v else -(u - v) := by
    intro u v
    unfold fM_apart
    simp only [qlet_e]
    split <;> split <;> omega
  unfold fM_way way
  simp only [qlet_e]
  rw [qd_nn h0, qd_nn h1, qm_nn h0, qm_nn h1, ap, ap]
theorem way_bd {a b : Int} (a0 : 0 ≤ a) (a1 : a < 48) (b0 : 0 ≤ b) (b1 : b < 48) : 1 ≤ way a b ∧ way a b ≤ 20 := by
  unfold way
  split <;> split <;> omega
/-- the least of g over l's bits below -/
def mn (g : Nat → Int) (l : Nat) : Nat → Int
  | 0 => 1000000000
  | b + 1 => if l.testBit b = true then (if mn g l b < g b then mn g l b else g b) else mn g l b
theorem mn_s0 {g : Nat → Int} {l b : Nat} (h : l.testBit b = false) : mn g l (b + 1) = mn g l b := if_neg (by rw [h]; decide)
theorem mn_s1 {g : Nat → Int} {l b : Nat} (h : l.testBit b = true) : mn g l (b + 1) = if mn g l b < g b then mn g l b else g b := if_pos h
theorem mn_congr {g g' : Nat → Int} {l : Nat} : ∀ n, (∀ b, b < n → l.testBit b = true → g b = g' b) → mn g l n = mn g' l n := by
  intro n
  induction n with
  | zero => intro _; rfl
  | succ n ih =>
    intro h
    have e := ih (fun b hb => h b (by omega))
    cases hb : l.testBit n with
    | false => rw [mn_s0 hb, mn_s0 hb, e]
    | true => rw [mn_s1 hb, mn_s1 hb, e, h n (by omega) hb]
theorem mn_top (g : Nat → Int) (l : Nat) : ∀ n, mn g l n ≤ 1000000000 := by
  intro n
  induction n with
  | zero => exact Int.le_refl _
  | succ n ih =>
    cases hb : l.testBit n with
    | false => rw [mn_s0 hb]; exact ih
    | true =>
      rw [mn_s1 hb]
      split <;> omega
theorem mn_le {g : Nat → Int} {l : Nat} : ∀ n b, b < n → l.testBit b = true → mn g l n ≤ g b := by
  intro n
  induction n with
  | zero => intro b h; exact absurd h (Nat.not_lt_zero _)
  | succ n ih =>
    intro b h ht
    by_cases q : b = n
    · subst q
      rw [mn_s1 ht]
      split <;> omega
    · have e := ih b (by omega) ht
      cases hb : l.testBit n with
      | false => rw [mn_s0 hb]; exact e
      | true =>
        rw [mn_s1 hb]
        split <;> omega
theorem mn_ge {g : Nat → Int} {l : Nat} {m : Int} (hm : m ≤ 1000000000) : ∀ n, (∀ b, b < n → l.testBit b = true → m ≤ g b) → m ≤ mn g l n := by
  intro n
  induction n with
  | zero => intro _; exact hm
  | succ n ih =>
    intro h
    have e := ih (fun b hb => h b (by omega))
    cases hb : l.testBit n with
    | false => rw [mn_s0 hb]; exact e
    | true =>
      have e2 := h n (by omega) hb
      rw [mn_s1 hb]
      split <;> omega
/-- the first that is least -/
def pk (g : Nat → Int) (l : Nat) : Nat → Int
  | 0 => -1
  | b + 1 => if l.testBit b = true ∧ g b < mn g l b then (b : Int) else pk g l b
theorem pk_is (g : Nat → Int) (l : Nat) : ∀ n, (pk g l n = -1 ∧ mn g l n = 1000000000) ∨ ∃ k : Nat, k < n ∧ pk g l n = (k : Int) ∧ l.testBit k = true ∧ g k = mn g l n ∧ ∀ j : Nat, j < k → l.testBit j = true → mn g l n < g j := by
  intro n
  induction n with
  | zero => exact Or.inl ⟨rfl, rfl⟩
  | succ n ih =>
    by_cases q : l.testBit n = true ∧ g n < mn g l n
    · have e1 : pk g l (n + 1) = (n : Int) := if_pos q
      have e2 : mn g l (n + 1) = g n := by rw [mn_s1 q.1, if_neg (by omega)]
      refine Or.inr ⟨n, by omega, e1, q.1, e2.symm, fun j hj ht => ?_⟩
      have := mn_le (g := g) n j hj ht
      omega
    · have e1 : pk g l (n + 1) = pk g l n := if_neg q
      have e2 : mn g l (n + 1) = mn g l n := by
        cases hb : l.testBit n with
        | false => rw [mn_s0 hb]
        | true =>
          have : ¬ g n < mn g l n := fun z => q ⟨hb, z⟩
          rw [mn_s1 hb]
          split <;> omega
      rw [e1, e2]
      rcases ih with h | ⟨k, h1, h2⟩
      · exact Or.inl h
      · exact Or.inr ⟨k, by omega, h2⟩
def Tw (c : Int → Int) (n : Nat) : Nat → Nat → Int → Int
  | 0, _, _ => 0
  | F + 1, l, f => if l = 0 then 0 else mn (fun b => way f (c b) + Tw c n F (l - 2 ^ b) (c b)) l n
theorem sub_bit {l b : Nat} (h : l.testBit b = true) : l - 2 ^ b < l ∧ 2 ^ b ≤ l := by
  have h1 : 2 ^ b ≤ l := Nat.ge_two_pow_of_testBit h
  have h2 : 0 < 2 ^ b := Nat.two_pow_pos b
  omega
theorem Tw_f (c : Int → Int) (n : Nat) : ∀ (F l : Nat) (f : Int), l ≤ F → ∀ F', l ≤ F' → Tw c n F l f = Tw c n F' l f := by
  intro F
  induction F with
  | zero =>
    intro l f hl F' _
    have : l = 0 := by omega
    subst this
    cases F' with
    | zero => rfl
    | succ F' => exact (if_pos rfl).symm
  | succ F ih =>
    intro l f hl F' hl'
    by_cases q : l = 0
    · subst q
      cases F' with
      | zero => exact if_pos rfl
      | succ F' => exact (if_pos rfl).trans (if_pos rfl).symm
    · cases F' with
      | zero => exact absurd (Nat.le_zero.mp hl') q
      | succ F' =>
        show (if l = 0 then 0 else mn (fun b => way f (c b) + Tw c n F (l - 2 ^ b) (c b)) l n) = (if l = 0 then 0 else mn (fun b => way f (c b) + Tw c n F' (l - 2 ^ b) (c b)) l n)
        rw [if_neg q, if_neg q]
        exact mn_congr n (fun b _ ht => by
          have := sub_bit ht
          show way f (c b) + Tw c n F (l - 2 ^ b) (c b) = way f (c b) + Tw c n F' (l - 2 ^ b) (c b)
          rw [ih (l - 2 ^ b) (c b) (by omega) F' (by omega)])
/-- what is left costs at least -/
def TT (c : Int → Int) (n l : Nat) (f : Int) : Int := Tw c n l l f
def gT (c : Int → Int) (n l : Nat) (f : Int) (b : Nat) : Int := way f (c b) + TT c n (l - 2 ^ b) (c b)
theorem TT_s {c : Int → Int} {n l : Nat} {f : Int} (h : l ≠ 0) : TT c n l f = mn (gT c n l f) l n := by
  unfold TT
  cases l with
  | zero => exact absurd rfl h
  | succ l =>
    show (if l + 1 = 0 then 0 else mn (fun b => way f (c b) + Tw c n l (l + 1 - 2 ^ b) (c b)) (l + 1) n) = _
    rw [if_neg h]
    exact mn_congr n (fun b _ ht => by
      have := sub_bit ht
      show way f (c b) + Tw c n l (l + 1 - 2 ^ b) (c b) = way f (c b) + Tw c n (l + 1 - 2 ^ b) (l + 1 - 2 ^ b) (c b)
      rw [Tw_f c n l (l + 1 - 2 ^ b) (c b) (by omega) (l + 1 - 2 ^ b) (Nat.le_refl _)])
theorem bit_lt {l n b : Nat} (hl : l < 2 ^ n) (h : l.testBit b = true) : b < n := by
  by_cases q : b < n
  · exact q
  · have h1 : 2 ^ b ≤ l := Nat.ge_two_pow_of_testBit h
    have h2 : 2 ^ n ≤ 2 ^ b := Nat.pow_le_pow_right (by decide) (by omega)
    omega
theorem bit_ex {l n : Nat} (hl : l < 2 ^ n) (h : l ≠ 0) : ∃ b, b < n ∧ l.testBit b = true := by
  obtain ⟨b, hb⟩ := Nat.exists_testBit_of_ne_zero h
  exact ⟨b, bit_lt hl hb, hb⟩
def cel (n : Nat) (c : Int → Int) : Prop := ∀ i : Nat, i < n → 0 ≤ c i ∧ c i < 48
theorem TT_bd {c : Int → Int} {n : Nat} (hc : cel n c) : ∀ (l : Nat), l < 2 ^ n → ∀ f, 0 ≤ f → f < 48 → 0 ≤ TT c n l f ∧ TT c n l f ≤ 20 * (l : Int) := by
  intro l
  induction l using Nat.strongRecOn with
  | _ l ih =>
    intro hl f f0 f1
    by_cases q : l = 0
    · subst q
      exact ⟨Int.le_refl _, Int.le_refl _⟩
    · rw [TT_s q]
      obtain ⟨b, hb, ht⟩ := bit_ex hl q
      constructor
      · refine mn_ge (by decide) n (fun b hb ht => ?_)
        have s := sub_bit ht
        have e := ih (l - 2 ^ b) s.1 (by omega) (c b) (hc b hb).1 (hc b hb).2
        have w := way_bd f0 f1 (hc b hb).1 (hc b hb).2
        show 0 ≤ way f (c b) + TT c n (l - 2 ^ b) (c b)
        omega
      · have s := sub_bit ht
        have s2 : 0 < 2 ^ b := Nat.two_pow_pos b
        have e := ih (l - 2 ^ b) s.1 (by omega) (c b) (hc b hb).1 (hc b hb).2
        have w := way_bd f0 f1 (hc b hb).1 (hc b hb).2
        have z := mn_le (g := gT c n l f) n b hb ht
        have z2 : gT c n l f b = way f (c b) + TT c n (l - 2 ^ b) (c b) := rfl
        generalize 2 ^ b = u at s s2 e z2
        omega
/-- the next cell of the row -/
theorem pk_T {c : Int → Int} {n l : Nat} {f : Int} (hc : cel n c) (n8 : n ≤ 8) (hl : l < 2 ^ n) (h0 : l ≠ 0) (f0 : 0 ≤ f) (f1 : f < 48) : ∃ k : Nat, k < n ∧ pk (gT c n l f) l n = (k : Int) ∧ l.testBit k = true ∧ gT c n l f k = TT c n l f ∧ ∀ j : Nat, j < k → l.testBit j = true → TT c n l f < gT c n l f j := by
  have b := TT_bd hc l hl f f0 f1
  have l256 : l < 256 := Nat.lt_of_lt_of_le hl (show 2 ^ n ≤ 2 ^ 8 from Nat.pow_le_pow_right (by decide) n8)
  rw [TT_s h0] at b ⊢
  rcases pk_is (gT c n l f) l n with h | h
  · exfalso
    omega
  · exact h
theorem bt1 : ∀ d < 256, ∀ k < 9, ia (sr ((d : Nat) : Int) ((k : Nat) : Int)) 1 = if Nat.testBit d k = true then 1 else 0 := by decide +kernel
theorem bt2 : ∀ d < 256, ∀ k < 8, io ((d : Nat) : Int) (sl 1 ((k : Nat) : Int)) = ((d ||| 2 ^ k : Nat) : Int) := by decide +kernel
theorem bt3 : ∀ l < 256, ∀ b < 8, Nat.testBit l b = true → ia ((l : Nat) : Int) (ix (sl 1 ((b : Nat) : Int)) (-1)) = ((l - 2 ^ b : Nat) : Int) ∧ pcnt (l - 2 ^ b) 8 + 1 = pcnt l 8 := by decide +kernel
theorem bt4 : ∀ n < 9, ∀ d < 256, d < 2 ^ n → ∀ b < n, Nat.testBit (2 ^ n - 1 - d) b = !Nat.testBit d b := by decide +kernel
theorem bt5a : ∀ n < 9, ∀ d < 256, d < 2 ^ n → ∀ k < n, Nat.testBit d k = false → 2 ^ n - 1 - (d ||| 2 ^ k) = 2 ^ n - 1 - d - 2 ^ k := by decide +kernel
theorem bt5b : ∀ n < 9, ∀ d < 256, d < 2 ^ n → ∀ k < n, Nat.testBit d k = false → (d ||| 2 ^ k) < 2 ^ n := by decide +kernel
theorem bt5c : ∀ d < 256, ∀ k < 8, Nat.testBit d k = false → d < (d ||| 2 ^ k) := by decide +kernel
theorem bt5d : ∀ d < 256, ∀ k < 8, Nat.testBit (d ||| 2 ^ k) k = true := by decide +kernel
theorem bt5 (n : Nat) (h9 : n < 9) (d : Nat) (h256 : d < 256) (hd : d < 2 ^ n) (k : Nat) (hk : k < n) (hb : Nat.testBit d k = false) : 2 ^ n - 1 - (d ||| 2 ^ k) = 2 ^ n - 1 - d - 2 ^ k ∧ (d ||| 2 ^ k) < 2 ^ n ∧ d < (d ||| 2 ^ k) ∧ Nat.testBit (d ||| 2 ^ k) k = true := ⟨bt5a n h9 d h256 hd k hk hb, bt5b n h9 d h256 hd k hk hb, bt5c d h256 k (by omega) hb, bt5d d h256 k (by omega)⟩
theorem bt6 : ∀ n < 9, sl 1 ((n : Nat) : Int) = ((2 ^ n : Nat) : Int) ∧ pcnt (2 ^ n - 1) 8 = n := by decide +kernel
theorem ia_z (z : Int) : ia 0 z = 0 := by
  show (0#32 &&& BitVec.ofInt 32 z).toInt = 0
  rw [BitVec.zero_and]
  rfl
/-! the class's tables -/
def itC (A : qA) (n : Nat) (c : Int → Int) : Prop := A 55 (fd 7) = (n : Int) ∧ ∀ i : Nat, i < n → A 56 (i : Int) = c (i : Int)
def AW (A : qA) (n : Nat) (c : Int → Int) (f0 : Int) (X : Nat) : Prop := ∀ x : Nat, x < X → (∀ y : Nat, y < n → A 57 ((y : Int) * 8 + (x : Int)) = way (c y) (c x)) ∧ A 57 (64 + (x : Int)) = way f0 (c x) ∧ A 58 (x : Int) = 0 ∧ A 59 (x : Int) = 0 ∧ A 60 (x : Int) = 0
theorem asWork_L {n : Nat} {c : Int → Int} {col : Int} (hc : cel n c) (n8 : n ≤ 8) (c0 : 0 ≤ col) : ∀ (m F x y : Nat) (B : qA), m < F → (n - x) * 10 + (n - y) ≤ m → x < n → y ≤ n → itC B n c → AW B n c (col * 6) x → (∀ y' : Nat, y' < y → B 57 ((y' : Int) * 8 + (x : Int)) = way (c y') (c x)) → itC (fC_asWork_L F 8 [col, (x : Int), (y : Int)] B) n c ∧ AW (fC_asWork_L F 8 [col, (x : Int), (y : Int)] B) n c (col * 6) n
  | _, 0, _, _, _, h, _, _, _, _, _, _ => absurd h (Nat.not_lt_zero _)
  | m, F + 1, x, y, B, hF, hm, hx, hy, hI, hA, hY => by
    rw [fC_asWork_L8]
    unfold fC_asWork_c8
    simp only [qlet_e]
    rw [hI.1]
    by_cases q : y < n
    · rw [if_pos (show (y : Int) < (n : Int) by omega), hI.2 y q, hI.2 x hx, wayC (hc y q).1 (hc x hx).1, show (y : Int) + 1 = ((y + 1 : Nat) : Int) by omega]
      cases m with
      | zero => exfalso; omega
      | succ m =>
        refine asWork_L hc n8 c0 m F x (y + 1) _ (by omega) (by omega) hx (by omega) ⟨?_, fun i hi => ?_⟩ (fun x' hx' => ?_) (fun y' hy' => ?_)
        · rw [qu_ne (show (55 : Nat) ≠ 57 by decide)]; exact hI.1
        · rw [qu_ne (show (56 : Nat) ≠ 57 by decide)]; exact hI.2 i hi
        · obtain ⟨a1, a2, a3, a4, a5⟩ := hA x' hx'
          refine ⟨fun y' hy' => ?_, ?_, ?_, ?_, ?_⟩
          · rw [qu_nj (by omega)]; exact a1 y' hy'
          · rw [qu_nj (by omega)]; exact a2
          · rw [qu_ne (show (58 : Nat) ≠ 57 by decide)]; exact a3
          · rw [qu_ne (show (59 : Nat) ≠ 57 by decide)]; exact a4
          · rw [qu_ne (show (60 : Nat) ≠ 57 by decide)]; exact a5
        · by_cases z : y' = y
          · rw [z, qu_at]
          · rw [qu_nj (by omega)]
            exact hY y' (by omega)
    · have hyn : y = n := by omega
      rw [if_neg (show ¬ (y : Int) < (n : Int) by omega), hI.2 x hx, wayC (show 0 ≤ col * 6 by omega) (hc x hx).1, show (x : Int) + 1 = ((x + 1 : Nat) : Int) by omega]
      generalize hB : qu (qu (qu (qu B 57 (64 + (x : Int)) (way (col * 6) (c x))) 58 (x : Int) 0) 59 (x : Int) 0) 60 (x : Int) 0 = B'
      have e57 : ∀ j, B' 57 j = if j = 64 + (x : Int) then way (col * 6) (c x) else B 57 j := by
        intro j; rw [← hB]; simp [qu_is]
      have e58 : ∀ j, B' 58 j = if j = (x : Int) then 0 else B 58 j := by
        intro j; rw [← hB]; simp [qu_is]
      have e59 : ∀ j, B' 59 j = if j = (x : Int) then 0 else B 59 j := by
        intro j; rw [← hB]; simp [qu_is]
      have e60 : ∀ j, B' 60 j = if j = (x : Int) then 0 else B 60 j := by
        intro j; rw [← hB]; simp [qu_is]
      have hI' : itC B' n c := by
        refine ⟨?_, fun i hi => ?_⟩
        · rw [← hB]; simp [qu_is]; exact hI.1
        · rw [← hB]; simp [qu_is]; exact hI.2 i hi
      have hA' : AW B' n c (col * 6) (x + 1) := by
        intro x' hx'
        by_cases z : x' = x
        · subst z
          refine ⟨fun y' hy' => ?_, ?_, ?_, ?_, ?_⟩
          · rw [e57, if_neg (by omega)]; exact hY y' (by omega)
          · rw [e57, if_pos rfl]
          · rw [e58, if_pos rfl]
          · rw [e59, if_pos rfl]
          · rw [e60, if_pos rfl]
        · obtain ⟨a1, a2, a3, a4, a5⟩ := hA x' (by omega)
          refine ⟨fun y' hy' => ?_, ?_, ?_, ?_, ?_⟩
          · rw [e57, if_neg (by omega)]; exact a1 y' hy'
          · rw [e57, if_neg (by omega)]; exact a2
          · rw [e58, if_neg (by omega)]; exact a3
          · rw [e59, if_neg (by omega)]; exact a4
          · rw [e60, if_neg (by omega)]; exact a5
      cases F with
      | zero => exfalso; omega
      | succ F =>
        rw [fC_asWork_L2]
        unfold fC_asWork_c2
        simp only [qlet_e]
        rw [hI'.1]
        by_cases z : x + 1 < n
        · rw [if_pos (show ((x + 1 : Nat) : Int) < (n : Int) by omega)]
          exact asWork_L hc n8 c0 (m - 2) F (x + 1) 0 B' (by omega) (by omega) z (by omega) hI' hA' (fun y' hy' => absurd hy' (Nat.not_lt_zero _))
        · rw [if_neg (show ¬ ((x + 1 : Nat) : Int) < (n : Int) by omega)]
          rw [show x + 1 = n by omega] at hA'
          exact ⟨hI', hA'⟩
theorem asWork_is {n : Nat} {c : Int → Int} {col : Int} (hc : cel n c) (n8 : n ≤ 8) (n1 : 1 ≤ n) (c0 : 0 ≤ col) {B : qA} (hI : itC B n c) : itC (fC_asWork col B) n c ∧ AW (fC_asWork col B) n c (col * 6) n := by
  unfold fC_asWork
  rw [fC_asWork_L2]
  unfold fC_asWork_c2
  simp only [qlet_e]
  rw [hI.1, if_pos (show (0 : Int) < (n : Int) by omega)]
  exact asWork_L hc n8 c0 1000 99999 0 0 B (by decide) (by omega) (by omega) (by omega) hI (fun x hx => absurd hx (Nat.not_lt_zero _)) (fun y hy => absurd hy (Nat.not_lt_zero _))
theorem spent_L {n : Nat} {A : qA} (n8 : n ≤ 8) (hn : A 55 (fd 7) = (n : Int)) (hz : ∀ i : Nat, i < n → A 59 (i : Int) = 0) (d : Int) : ∀ (m F k : Nat), m < F → n - k ≤ m → k ≤ n → fC_spentOn_L F 4 [d, 0, (k : Int)] A = 0
  | _, 0, _, h, _, _ => absurd h (Nat.not_lt_zero _)
  | m, F + 1, k, hF, hm, hk => by
    rw [fC_spentOn_L4]
    unfold fC_spentOn_c4
    simp only [qlet_e]
    rw [hn]
    by_cases q : k < n
    · rw [if_pos (show (k : Int) < (n : Int) by omega), hz k q, show (0 : Int) + 0 = 0 from rfl, show wI 0 = 0 from wI_id ⟨by decide, by decide⟩, show (k : Int) + 1 = ((k + 1 : Nat) : Int) by omega, show wI ((k + 1 : Nat) : Int) = ((k + 1 : Nat) : Int) from wI_id ⟨by omega, by omega⟩, ite_self]
      cases m with
      | zero => exfalso; omega
      | succ m => exact spent_L n8 hn hz d m F (k + 1) (by omega) (by omega) (by omega)
    · rw [if_neg (show ¬ (k : Int) < (n : Int) by omega)]
theorem costVia_is {A : qA} {n : Nat} {c : Int → Int} {f0 : Int} (n8 : n ≤ 8) (hA : AW A n c f0 n) {d k : Nat} (hd : d < 256) (hk : k < n) (la : Int) : fC_costVia (d : Int) la (k : Int) 0 A = if d.testBit k = true then 1000000000 else wI (A 57 (la * 8 + (k : Int)) + A 61 (((d ||| 2 ^ k : Nat) : Int) * 9 + (k : Int))) := by
  obtain ⟨-, -, a3, a4, a5⟩ := hA k hk
  have b1 := bt1 d hd k (by omega)
  unfold fC_costVia
  simp only [qlet_e]
  rw [a3, a4, a5, ia_z, bt2 d hd k (by omega)]
  by_cases q : d.testBit k = true
  · rw [if_pos q] at b1
    rw [if_neg (by rw [b1]; decide), if_pos q]
    rfl
  · rw [if_neg q] at b1
    rw [if_pos b1, if_pos rfl, if_neg q, Int.zero_mul, Int.add_zero]
theorem least_L {A : qA} {n l : Nat} {g : Nat → Int} (n8 : n ≤ 8) (hn : A 55 (fd 7) = (n : Int)) {d la : Int} (hg : ∀ k : Nat, k < n → fC_costVia d la (k : Int) 0 A = if l.testBit k = true then g k else 1000000000) : ∀ (m F k : Nat), m < F → n - k ≤ m → k ≤ n → fC_leastOnward_L F 4 [d, la, 0, mn g l k, (k : Int)] A = mn g l n
  | _, 0, _, h, _, _ => absurd h (Nat.not_lt_zero _)
  | m, F + 1, k, hF, hm, hk => by
    rw [fC_leastOnward_L4]
    unfold fC_leastOnward_c4
    simp only [qlet_e]
    rw [hn]
    by_cases q : k < n
    · have e : min (mn g l k) (fC_costVia d la (k : Int) 0 A) = mn g l (k + 1) := by
        rw [hg k q, Int.min_def]
        have := mn_top g l k
        cases hb : l.testBit k with
        | false =>
          rw [mn_s0 hb, if_neg (show ¬ (false = true) by decide), if_pos this]
        | true =>
          rw [mn_s1 hb, if_pos rfl]
          split <;> split <;> omega
      rw [if_pos (show (k : Int) < (n : Int) by omega), e, show (k : Int) + 1 = ((k + 1 : Nat) : Int) by omega, show wI ((k + 1 : Nat) : Int) = ((k + 1 : Nat) : Int) from wI_id ⟨by omega, by omega⟩]
      cases m with
      | zero => exfalso; omega
      | succ m => exact least_L n8 hn hg m F (k + 1) (by omega) (by omega) (by omega)
    · rw [if_neg (show ¬ (k : Int) < (n : Int) by omega), show k = n by omega]
