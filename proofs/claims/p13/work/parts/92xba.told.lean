/-! CELLS TOLD BY BITS: both gardens -/
theorem jsr_sh (a b : Int) : jsr a b = ((BitVec.ofInt 64 a).sshiftRight ((((Int32.ofInt b).toInt64 &&& 63).toBitVec.smod 64)).toNat).toInt := rfl
theorem bit_u {x c : Int} (h0 : 0 ≤ c) (h1 : c < 64) : jc (ja (jsu x c) 1) 0 ≠ 0 ↔ hbit x c = true := hb_is (A := fun _ _ => x) h0 h1
theorem bit_r {x c : Int} (h0 : 0 ≤ c) (h1 : c < 64) : jc (ja (jsr x c) 1) 0 ≠ 0 ↔ hbit x c = true := by
  have hs : jsr x c = ((BitVec.ofInt 64 x).sshiftRight c.toNat).toInt := by
    rw [jsr_sh]
    have := jsl_k c.toNat (by omega)
    rw [show ((c.toNat : Nat) : Int) = c by omega] at this
    rw [this]
  have ha : ja (jsr x c) 1 = (((BitVec.ofInt 64 x).sshiftRight c.toNat) &&& 1#64).toInt := by
    rw [ja_bv, hs, bv_ofInt]; rfl
  have hz : (((BitVec.ofInt 64 x).sshiftRight c.toNat) &&& 1#64).toInt = 0 ↔ hbit x c = false := by
    rw [bv_toInt0, bv_and1, BitVec.getLsbD_sshiftRight, Nat.add_zero, if_pos (show c.toNat < 64 by omega)]
    unfold hbit
    simp
  unfold jc
  rw [ha]
  by_cases q : (((BitVec.ofInt 64 x).sshiftRight c.toNat) &&& 1#64).toInt = 0
  · rw [if_pos q]
    have := hz.mp q
    simp [this]
  · rw [if_neg q]
    have : hbit x c = true := by
      cases hh : hbit x c
      · exact absurd (hz.mpr hh) q
      · rfl
    simp only [this, iff_true]
    split <;> decide
theorem hbit_n {x : Int} (h0 : 0 ≤ x) (h1 : x < 281474976710656) (c : Int) : hbit x c = x.toNat.testBit c.toNat := by
  unfold hbit
  have e : (x % ((2 ^ 64 : Nat) : Int)) = x := Int.emod_eq_of_lt h0 (by have : ((2 ^ 64 : Nat) : Int) = 18446744073709551616 := rfl; omega)
  rw [← BitVec.testBit_toNat, BitVec.toNat_ofInt, e]
theorem pcnt_zero : ∀ n, pcnt 0 n = 0 := by
  intro n
  induction n with
  | zero => rfl
  | succ n ih =>
    show pcnt 0 n + (if (0 : Nat).testBit n then 1 else 0) = 0
    rw [ih, Nat.zero_testBit]
    rfl
theorem pcnt_48 {X : Nat} (h : X < 281474976710656) : pcnt X 64 = pcnt X 48 := by
  rw [show 64 = 48 + 16 from rfl, pcnt_add, Nat.div_eq_of_lt (show X < 2 ^ 48 by omega), pcnt_zero, Nat.add_zero]
theorem pcnt_mono (X : Nat) {a b : Nat} (h : a ≤ b) : pcnt X a ≤ pcnt X b := by
  obtain ⟨d, rfl⟩ := Nat.exists_eq_add_of_le h
  rw [pcnt_add]
  omega
theorem pcnt_lt {X : Nat} {a b : Nat} (h : a < b) (ht : X.testBit a = true) : pcnt X a < pcnt X b := by
  have h1 := pcnt_mono X (show a + 1 ≤ b from h)
  have h2 : pcnt X (a + 1) = pcnt X a + 1 := by
    show pcnt X a + (if X.testBit a then 1 else 0) = pcnt X a + 1
    rw [ht]
    rfl
  omega
theorem pcnt_s0 {X k : Nat} (h : X.testBit k = false) : pcnt X (k + 1) = pcnt X k := by
  show pcnt X k + (if X.testBit k then 1 else 0) = pcnt X k
  rw [h]
  rfl
theorem pcnt_s1 {X k : Nat} (h : X.testBit k = true) : pcnt X (k + 1) = pcnt X k + 1 := by
  show pcnt X k + (if X.testBit k then 1 else 0) = pcnt X k + 1
  rw [h]
  rfl
theorem pcnt_ex {X : Nat} : ∀ (k i : Nat), i < pcnt X k → ∃ j, j < k ∧ X.testBit j = true ∧ pcnt X j = i := by
  intro k
  induction k with
  | zero => intro i h; exact absurd h (Nat.not_lt_zero _)
  | succ k ih =>
    intro i h
    cases hb : X.testBit k with
    | false =>
      rw [pcnt_s0 hb] at h
      obtain ⟨j, a, b, c⟩ := ih i h
      exact ⟨j, by omega, b, c⟩
    | true =>
      rw [pcnt_s1 hb] at h
      by_cases q : i = pcnt X k
      · exact ⟨k, by omega, hb, q.symm⟩
      · obtain ⟨j, a, b, c⟩ := ih i (by omega)
        exact ⟨j, by omega, b, c⟩
theorem jc_0 {a : Int} : jc a 0 = 0 ↔ a = 0 := by
  unfold jc
  constructor
  · intro h
    by_cases q : a = 0
    · exact q
    · rw [if_neg q] at h
      split at h <;> exact absurd h (by decide)
  · intro h
    rw [if_pos h]
theorem toldC_is {x : Int} (h : rngL x) (t : Int) (A : qA) : fC_toldCells x t A = if 0 ≤ x ∧ x < 281474976710656 then (if t < (pcnt x.toNat 48 : Int) then 0 else (pcnt x.toNat 48 : Int)) else 0 := by
  unfold fC_toldCells
  simp only [qlet]
  rw [bitsL_is h]
  have hs : jsu x 48 = ((BitVec.ofInt 64 x) >>> 48).toInt := by
    have e := jsu_n (BitVec.ofInt 64 x) 48 (by decide)
    rw [show (BitVec.ofInt 64 x).toInt = x from wL_id h] at e
    exact e
  have hN : (BitVec.ofInt 64 x).toNat = (x % 18446744073709551616).toNat := BitVec.toNat_ofInt _
  by_cases q : 0 ≤ x ∧ x < 281474976710656
  · have hn : (BitVec.ofInt 64 x).toNat = x.toNat := by rw [hN]; omega
    have z : jsu x 48 = 0 := by
      rw [hs, bv_toInt0]
      apply BitVec.eq_of_toNat_eq
      rw [BitVec.toNat_ushiftRight, hn, Nat.shiftRight_eq_div_pow]
      show x.toNat / 281474976710656 = 0
      omega
    rw [if_pos q, if_pos (jc_0.mpr z), hn, pcnt_48 (by omega)]
  · have z : jsu x 48 ≠ 0 := by
      intro e
      rw [hs, bv_toInt0] at e
      have e2 := congrArg BitVec.toNat e
      rw [BitVec.toNat_ushiftRight, hN, Nat.shiftRight_eq_div_pow] at e2
      have e3 : (x % 18446744073709551616).toNat / 281474976710656 = 0 := e2
      obtain ⟨u, v⟩ := h
      omega
    rw [if_neg q, if_neg (fun e => z (jc_0.mp e))]
/-- the cells told so far lie in their order -/
def tld (X k : Nat) (g : Int → Int) : Prop := ∀ j, j < k → X.testBit j = true → g (pcnt X j : Int) = (j : Int)
theorem tld_s0 {X k : Nat} {g : Int → Int} (h : tld X k g) (hb : X.testBit k = false) : tld X (k + 1) g := by
  intro j hj ht
  by_cases q : j = k
  · rw [q, hb] at ht; cases ht
  · exact h j (by omega) ht
theorem isTold_is {x : Int} (h0 : 0 ≤ x) (h1 : x < 281474976710656) {k : Nat} (hk : k < 48) (A : qA) : fC_isTold x (k : Int) A = if x.toNat.testBit k then 1 else 0 := by
  unfold fC_isTold
  simp only [qlet]
  have hb := bit_u (x := x) (c := (k : Int)) (by omega) (by omega)
  rw [hbit_n h0 h1, show ((k : Int)).toNat = k by omega] at hb
  by_cases q : x.toNat.testBit k = true
  · rw [if_neg (hb.mpr q), if_pos q]
  · rw [if_pos (Classical.byContradiction fun z => q (hb.mp z)), if_neg q]
theorem laysT_L {x T : Int} (h0 : 0 ≤ x) (h1 : x < 281474976710656) : ∀ (m F k : Nat) (B : qA), m < F → 48 - k ≤ m → k ≤ 48 → (pcnt x.toNat k : Int) ≤ T → B 0 (fd 63) = (pcnt x.toNat k : Int) → tld x.toNat k (B 50) → (T < (pcnt x.toNat 48 : Int) → (fM_lays_L F 15 [x, T, (k : Int)] B).1 = 0) ∧ ((pcnt x.toNat 48 : Int) ≤ T → (fM_lays_L F 15 [x, T, (k : Int)] B).1 = 1 ∧ (fM_lays_L F 15 [x, T, (k : Int)] B).2 0 (fd 63) = (pcnt x.toNat 48 : Int) ∧ tld x.toNat 48 ((fM_lays_L F 15 [x, T, (k : Int)] B).2 50)) ∧ frm [50] [(0, 63)] B (fM_lays_L F 15 [x, T, (k : Int)] B).2
  | _, 0, _, _, h, _, _, _, _, _ => absurd h (Nat.not_lt_zero _)
  | m, F + 1, k, B, hF, hm, hk, hp, hn, ht => by
    rw [fM_lays_L15]
    unfold fM_lays_c15
    simp only [qlet]
    by_cases hk2 : k < 48
    · rw [if_pos (show (k : Int) < 48 by omega)]
      have hbr := bit_r (x := x) (c := (k : Int)) (by omega) (by omega)
      rw [hbit_n h0 h1, show ((k : Int)).toNat = k by omega] at hbr
      cases m with
      | zero => exfalso; omega
      | succ m =>
        cases hb : x.toNat.testBit k with
        | false =>
          rw [if_pos (Classical.byContradiction fun z => by rw [hb] at hbr; exact absurd (hbr.mp z) (by decide)), show (k : Int) + 1 = ((k + 1 : Nat) : Int) by omega]
          exact laysT_L h0 h1 m F (k + 1) B (by omega) (by omega) (by omega) (by rw [pcnt_s0 hb]; exact hp) (by rw [pcnt_s0 hb]; exact hn) (tld_s0 ht hb)
        | true =>
          have l := pcnt_lt hk2 hb
          rw [if_neg (hbr.mpr hb), hn]
          by_cases q8 : (pcnt x.toNat k : Int) = T
          · rw [if_pos q8]
            exact ⟨fun _ => rfl, fun z => by omega, frm_0 _ _ _⟩
          · rw [if_neg q8, show (k : Int) + 1 = ((k + 1 : Nat) : Int) by omega]
            obtain ⟨a, b, c⟩ := laysT_L h0 h1 (T := T) m F (k + 1) (qu (qu B 50 (pcnt x.toNat k : Int) (k : Int)) 0 (fd 63) ((pcnt x.toNat k : Int) + 1)) (by omega) (by omega) (by omega) (by rw [pcnt_s1 hb]; omega) (by rw [qu_at, pcnt_s1 hb]; omega) (by
              intro j hj htj
              rw [qu_ne (show (50 : Nat) ≠ 0 by decide)]
              by_cases q : j = k
              · rw [q, qu_at]
              · have l2 := pcnt_lt (show j < k by omega) htj
                rw [qu_nj (by omega)]
                exact ht j (by omega) htj)
            exact ⟨a, b, frm_c (frm_qf (frm_q (frm_0 _ _ _) rfl) rfl) c rfl⟩
    · rw [if_neg (show ¬ (k : Int) < 48 by omega)]
      rw [show k = 48 by omega] at hn ht hp
      exact ⟨fun z => by omega, fun _ => ⟨rfl, hn, ht⟩, frm_0 _ _ _⟩
def okT (x T : Int) : Prop := 0 < x ∧ x < 281474976710656 ∧ (pcnt x.toNat 48 : Int) ≤ T
theorem laysT_is {x T : Int} (T0 : 0 ≤ T) (A : qA) : (¬ okT x T → (fM_lays x T A).1 = 0) ∧ (okT x T → (fM_lays x T A).1 = 1 ∧ (fM_lays x T A).2 0 (fd 63) = (pcnt x.toNat 48 : Int) ∧ tld x.toNat 48 ((fM_lays x T A).2 50)) ∧ frm [50] [(0, 63)] A (fM_lays x T A).2 := by
  unfold fM_lays
  simp only [qlet_e]
  have q48 : qnL 281474976710656 = 281474976710656 := by decide
  rw [q48]
  have e1 : (0 < jc x 0) ↔ 0 < x := by
    unfold jc
    by_cases a : x = 0
    · rw [if_pos a]; omega
    · rw [if_neg a]
      by_cases b : 0 < x
      · rw [if_pos b]; simp [b]
      · rw [if_neg b]; simp [b]
  have e2 : (jc x 281474976710656 < 0) ↔ x < 281474976710656 := by
    unfold jc
    by_cases a : x = 281474976710656
    · rw [if_pos a]; omega
    · rw [if_neg a]
      by_cases b : 281474976710656 < x
      · rw [if_pos b]; omega
      · rw [if_neg b]; omega
  by_cases p1 : 0 < x
  · rw [if_pos (e1.mpr p1)]
    by_cases p2 : x < 281474976710656
    · rw [if_pos (e2.mpr p2)]
      obtain ⟨a, b, c⟩ := laysT_L (x := x) (T := T) (by omega) p2 48 100000 0 (qu A 0 (fd 63) 0) (by decide) (by omega) (by omega) (by show ((0 : Nat) : Int) ≤ T; omega) (by rw [qu_at]; rfl) (fun j hj => absurd hj (Nat.not_lt_zero j))
      exact ⟨fun z => a (by
        by_cases w : (pcnt x.toNat 48 : Int) ≤ T
        · exact absurd ⟨p1, p2, w⟩ z
        · omega), fun z => b z.2.2, frm_c (frm_qf (frm_0 _ _ _) rfl) c rfl⟩
    · rw [if_neg (fun z => p2 (e2.mp z))]
      exact ⟨fun _ => rfl, fun z => absurd z.2.1 p2, frm_0 _ _ _⟩
  · rw [if_neg (fun z => p1 (e1.mp z))]
    exact ⟨fun _ => rfl, fun z => absurd z.1 p1, frm_0 _ _ _⟩
/-- how many are told, in the class -/
theorem toldT_is {x : Int} (h : rngL x) (T : Int) (A : qA) : (okT x T → fC_toldCells x T A = (pcnt x.toNat 48 : Int) ∧ 1 ≤ (pcnt x.toNat 48 : Int)) ∧ (¬ okT x T → fC_toldCells x T A < 1) := by
  rw [toldC_is h T A]
  by_cases p : 0 ≤ x ∧ x < 281474976710656
  · rw [if_pos p]
    by_cases z : x = 0
    · have e0 : pcnt x.toNat 48 = 0 := by rw [z]; exact pcnt_zero 48
      refine ⟨fun q => absurd q.1 (by omega), fun _ => ?_⟩
      rw [e0]
      split <;> decide
    · have hx : 1 ≤ pcnt x.toNat 48 := by
        by_cases w : pcnt x.toNat 48 = 0
        · exfalso
          have all : ∀ i, x.toNat.testBit i = false := fun i => by
            by_cases hi : i < 48
            · cases hb : x.toNat.testBit i
              · rfl
              · have := pcnt_lt hi hb
                omega
            · have : x.toNat < 2 ^ i := Nat.lt_of_lt_of_le (show x.toNat < 2 ^ 48 by omega) (Nat.pow_le_pow_right (by decide) (by omega))
              exact Nat.testBit_lt_two_pow this
          have : x.toNat = 0 := Nat.eq_of_testBit_eq (fun i => by rw [all i, Nat.zero_testBit])
          omega
        · omega
      by_cases w : T < (pcnt x.toNat 48 : Int)
      · rw [if_pos w]
        exact ⟨fun q => absurd q.2.2 (by omega), fun _ => by decide⟩
      · rw [if_neg w]
        exact ⟨fun _ => ⟨rfl, by omega⟩, fun q => absurd ⟨by omega, p.2, by omega⟩ q⟩
  · rw [if_neg p]
    exact ⟨fun q => absurd ⟨by have := q.1; omega, q.2.1⟩ p, fun _ => by decide⟩
/-- rows of cells told in both, alike -/
theorem tld_same {X : Nat} {f g : Int → Int} (hf : tld X 48 f) (hg : tld X 48 g) : ∀ i : Int, 0 ≤ i → i < (pcnt X 48 : Int) → f i = g i ∧ 0 ≤ g i ∧ g i < 48 := by
  intro i i0 i1
  obtain ⟨j, h1, h2, h3⟩ := pcnt_ex (X := X) 48 i.toNat (by omega)
  have a := hf j h1 h2
  have b := hg j h1 h2
  rw [h3, show ((i.toNat : Nat) : Int) = i by omega] at a b
  rw [a, b]
  exact ⟨rfl, by omega, by omega⟩
theorem tld_inj {X : Nat} {g : Int → Int} (hg : tld X 48 g) : ∀ i j : Int, 0 ≤ i → i < j → j < (pcnt X 48 : Int) → g i < g j := by
  intro i j i0 ij j1
  obtain ⟨a, h1, h2, h3⟩ := pcnt_ex (X := X) 48 i.toNat (by omega)
  obtain ⟨b, k1, k2, k3⟩ := pcnt_ex (X := X) 48 j.toNat (by omega)
  have u := hg a h1 h2
  have v := hg b k1 k2
  rw [h3, show ((i.toNat : Nat) : Int) = i by omega] at u
  rw [k3, show ((j.toNat : Nat) : Int) = j by omega] at v
  rw [u, v]
  by_cases w : a < b
  · omega
  · have := pcnt_mono X (show b ≤ a by omega)
    omega
