/-! HOW MANY BITS (Long.bitCount) -/
def pcnt (X : Nat) : Nat → Nat
  | 0 => 0
  | n + 1 => pcnt X n + (if X.testBit n then 1 else 0)
theorem pcnt_add (X m : Nat) : ∀ n, pcnt X (m + n) = pcnt X m + pcnt (X / 2 ^ m) n := by
  intro n
  induction n with
  | zero => rfl
  | succ n ih =>
    show pcnt X (m + n) + (if X.testBit (m + n) then 1 else 0) = pcnt X m + (pcnt (X / 2 ^ m) n + (if (X / 2 ^ m).testBit n then 1 else 0))
    rw [ih, Nat.testBit_div_two_pow, Nat.add_comm n m, Nat.add_assoc]
theorem pcnt_mod (X m : Nat) : ∀ n, n ≤ m → pcnt (X % 2 ^ m) n = pcnt X n := by
  intro n
  induction n with
  | zero => intro _; rfl
  | succ n ih =>
    intro h
    show pcnt (X % 2 ^ m) n + (if (X % 2 ^ m).testBit n then 1 else 0) = pcnt X n + (if X.testBit n then 1 else 0)
    rw [ih (by omega), Nat.testBit_mod_two_pow, decide_eq_true (show n < m by omega), Bool.true_and]
theorem pcnt_8 (X n : Nat) : pcnt X (8 + n) = pcnt (X % 256) 8 + pcnt (X / 256) n := by
  rw [pcnt_add, ← pcnt_mod X 8 8 (Nat.le_refl 8)]
theorem pcnt_le (X : Nat) : ∀ n, pcnt X n ≤ n := by
  intro n
  induction n with
  | zero => exact Nat.le_refl 0
  | succ n ih =>
    show pcnt X n + (if X.testBit n then 1 else 0) ≤ n + 1
    split <;> omega
def pb5 (b : Nat) : Nat := b - (b / 2 &&& 85)
def pb3 (b : Nat) : Nat := (b &&& 51) + (b / 4 &&& 51)
def pbF (b : Nat) : Nat := (b + b / 16) &&& 15
theorem pb_all : ∀ b < 256, pbF (pb3 (pb5 b)) = pcnt b 8 ∧ pb3 (pb5 b) ≤ 68 ∧ pb3 (pb5 b) % 16 ≤ 4 ∧ pb5 b < 256 := by decide +kernel
theorem m85 : ∀ q < 2, ∀ b < 256, (128 * q + b / 2) &&& 85 = b / 2 &&& 85 := by decide +kernel
theorem m51 : ∀ q < 4, ∀ b < 256, (64 * q + b / 4) &&& 51 = b / 4 &&& 51 := by decide +kernel
theorem m15 : ∀ q < 5, ∀ b < 69, (b + 16 * q + b / 16) &&& 15 = (b + b / 16) &&& 15 := by decide +kernel
def mk8 (d : Nat) : Nat → Nat
  | 0 => 0
  | n + 1 => 256 * mk8 d n + d
theorem and8 (a b c d : Nat) (hb : b < 256) (hd : d < 256) : (256 * a + b) &&& (256 * c + d) = 256 * (a &&& c) + (b &&& d) := by
  have h1 : ((256 * a + b) &&& (256 * c + d)) / 2 ^ 8 = a &&& c := by
    rw [Nat.and_div_two_pow, show (256 * a + b) / 2 ^ 8 = a by omega, show (256 * c + d) / 2 ^ 8 = c by omega]
  have h2 : ((256 * a + b) &&& (256 * c + d)) % 2 ^ 8 = b &&& d := by
    rw [Nat.and_mod_two_pow, show (256 * a + b) % 2 ^ 8 = b by omega, show (256 * c + d) % 2 ^ 8 = d by omega]
  have h3 := Nat.div_add_mod ((256 * a + b) &&& (256 * c + d)) (2 ^ 8)
  rw [h1, h2] at h3
  exact h3.symm
def G5 (n X : Nat) : Nat := X - (X / 2 &&& mk8 85 n)
def G3 (n X : Nat) : Nat := (X &&& mk8 51 n) + (X / 4 &&& mk8 51 n)
def GF (n X : Nat) : Nat := (X + X / 16) &&& mk8 15 n
theorem G5_s (n a b : Nat) (hb : b < 256) : G5 (n + 1) (256 * a + b) = 256 * G5 n a + pb5 b := by
  show (256 * a + b) - ((256 * a + b) / 2 &&& (256 * mk8 85 n + 85)) = 256 * (a - (a / 2 &&& mk8 85 n)) + (b - (b / 2 &&& 85))
  rw [show (256 * a + b) / 2 = 256 * (a / 2) + (128 * (a % 2) + b / 2) by omega, and8 _ _ _ _ (by omega) (by decide), m85 (a % 2) (by omega) b hb]
  have l1 : a / 2 &&& mk8 85 n ≤ a / 2 := Nat.and_le_left
  have l2 : b / 2 &&& 85 ≤ b / 2 := Nat.and_le_left
  generalize a / 2 &&& mk8 85 n = u at l1 ⊢
  generalize b / 2 &&& 85 = v at l2 ⊢
  omega
theorem G3_s (n a b : Nat) (hb : b < 256) : G3 (n + 1) (256 * a + b) = 256 * G3 n a + pb3 b := by
  show ((256 * a + b) &&& (256 * mk8 51 n + 51)) + ((256 * a + b) / 4 &&& (256 * mk8 51 n + 51)) = 256 * ((a &&& mk8 51 n) + (a / 4 &&& mk8 51 n)) + ((b &&& 51) + (b / 4 &&& 51))
  rw [show (256 * a + b) / 4 = 256 * (a / 4) + (64 * (a % 4) + b / 4) by omega, and8 _ _ _ _ hb (by decide), and8 _ _ _ _ (by omega) (by decide), m51 (a % 4) (by omega) b hb]
  generalize a &&& mk8 51 n = u
  generalize a / 4 &&& mk8 51 n = v
  generalize b &&& 51 = w
  generalize b / 4 &&& 51 = z
  omega
theorem GF_s (n a b : Nat) (hb : b ≤ 68) (ha : a % 16 ≤ 4) : GF (n + 1) (256 * a + b) = 256 * GF n a + pbF b := by
  show ((256 * a + b) + (256 * a + b) / 16) &&& (256 * mk8 15 n + 15) = 256 * ((a + a / 16) &&& mk8 15 n) + ((b + b / 16) &&& 15)
  rw [show (256 * a + b) + (256 * a + b) / 16 = 256 * (a + a / 16) + (b + 16 * (a % 16) + b / 16) by omega, and8 _ _ _ _ (by omega) (by decide), m15 (a % 16) (by omega) b (by omega)]
def sumb : Nat → Nat → Nat
  | 0, _ => 0
  | n + 1, X => 256 * sumb n (X / 256) + pcnt (X % 256) 8
theorem G_all : ∀ (n X : Nat), X < 256 ^ n → G3 n (G5 n X) % 16 ≤ 4 ∧ GF n (G3 n (G5 n X)) = sumb n X := by
  intro n
  induction n with
  | zero =>
    intro X hX
    rw [show X = 0 by rw [Nat.pow_zero] at hX; omega]
    decide
  | succ n ih =>
    intro X hX
    have hb : X % 256 < 256 := Nat.mod_lt _ (by decide)
    obtain ⟨g1, g2, g3, g4⟩ := pb_all (X % 256) hb
    obtain ⟨i1, i2⟩ := ih (X / 256) (by rw [Nat.pow_succ] at hX; exact Nat.div_lt_of_lt_mul (by rw [Nat.mul_comm]; exact hX))
    have e5 : G5 (n + 1) X = 256 * G5 n (X / 256) + pb5 (X % 256) := by
      rw [← G5_s n (X / 256) (X % 256) hb, Nat.div_add_mod]
    have e3 : G3 (n + 1) (G5 (n + 1) X) = 256 * G3 n (G5 n (X / 256)) + pb3 (pb5 (X % 256)) := by
      rw [e5, G3_s _ _ _ g4]
    rw [e3, GF_s _ _ _ g2 i1, i2, g1]
    refine ⟨?_, rfl⟩
    clear i2 g1 e3 e5
    generalize G3 n (G5 n (X / 256)) = u at i1 ⊢
    generalize pb3 (pb5 (X % 256)) = v at g3 ⊢
    clear g2 g4 hb hX ih
    omega
theorem sumb_64 (N : Nat) : ∃ c0 c1 c2 c3 c4 c5 c6 c7 : Nat, (c0 ≤ 8 ∧ c1 ≤ 8 ∧ c2 ≤ 8 ∧ c3 ≤ 8 ∧ c4 ≤ 8 ∧ c5 ≤ 8 ∧ c6 ≤ 8 ∧ c7 ≤ 8) ∧ sumb 8 N = c0 + 256 * (c1 + 256 * (c2 + 256 * (c3 + 256 * (c4 + 256 * (c5 + 256 * (c6 + 256 * c7)))))) ∧ pcnt N 64 = c0 + c1 + c2 + c3 + c4 + c5 + c6 + c7 := by
  refine ⟨pcnt (N % 256) 8, pcnt (N / 256 % 256) 8, pcnt (N / 256 / 256 % 256) 8, pcnt (N / 256 / 256 / 256 % 256) 8, pcnt (N / 256 / 256 / 256 / 256 % 256) 8, pcnt (N / 256 / 256 / 256 / 256 / 256 % 256) 8, pcnt (N / 256 / 256 / 256 / 256 / 256 / 256 % 256) 8, pcnt (N / 256 / 256 / 256 / 256 / 256 / 256 / 256 % 256) 8, ⟨pcnt_le _ 8, pcnt_le _ 8, pcnt_le _ 8, pcnt_le _ 8, pcnt_le _ 8, pcnt_le _ 8, pcnt_le _ 8, pcnt_le _ 8⟩, ?_, ?_⟩
  · rw [show sumb 8 N = 256 * (256 * (256 * (256 * (256 * (256 * (256 * (256 * 0 + pcnt (N / 256 / 256 / 256 / 256 / 256 / 256 / 256 % 256) 8) + pcnt (N / 256 / 256 / 256 / 256 / 256 / 256 % 256) 8) + pcnt (N / 256 / 256 / 256 / 256 / 256 % 256) 8) + pcnt (N / 256 / 256 / 256 / 256 % 256) 8) + pcnt (N / 256 / 256 / 256 % 256) 8) + pcnt (N / 256 / 256 % 256) 8) + pcnt (N / 256 % 256) 8) + pcnt (N % 256) 8 from rfl]
    generalize pcnt (N % 256) 8 = a0
    generalize pcnt (N / 256 % 256) 8 = a1
    generalize pcnt (N / 256 / 256 % 256) 8 = a2
    generalize pcnt (N / 256 / 256 / 256 % 256) 8 = a3
    generalize pcnt (N / 256 / 256 / 256 / 256 % 256) 8 = a4
    generalize pcnt (N / 256 / 256 / 256 / 256 / 256 % 256) 8 = a5
    generalize pcnt (N / 256 / 256 / 256 / 256 / 256 / 256 % 256) 8 = a6
    generalize pcnt (N / 256 / 256 / 256 / 256 / 256 / 256 / 256 % 256) 8 = a7
    omega
  · have h := pcnt_8 N 56
    have h1 := pcnt_8 (N / 256) 48
    have h2 := pcnt_8 (N / 256 / 256) 40
    have h3 := pcnt_8 (N / 256 / 256 / 256) 32
    have h4 := pcnt_8 (N / 256 / 256 / 256 / 256) 24
    have h5 := pcnt_8 (N / 256 / 256 / 256 / 256 / 256) 16
    have h6 := pcnt_8 (N / 256 / 256 / 256 / 256 / 256 / 256) 8
    have h7 := pcnt_8 (N / 256 / 256 / 256 / 256 / 256 / 256 / 256) 0
    rw [show 8 + 56 = 64 from rfl] at h
    rw [show 8 + 48 = 56 from rfl] at h1
    rw [show 8 + 40 = 48 from rfl] at h2
    rw [show 8 + 32 = 40 from rfl] at h3
    rw [show 8 + 24 = 32 from rfl] at h4
    rw [show 8 + 16 = 24 from rfl] at h5
    rw [show 8 + 8 = 16 from rfl] at h6
    rw [show 8 + 0 = 8 from rfl] at h7
    rw [h, h1, h2, h3, h4, h5, h6, h7]
    rw [show pcnt (N / 256 / 256 / 256 / 256 / 256 / 256 / 256 / 256) 0 = 0 from rfl]
    clear h h1 h2 h3 h4 h5 h6 h7
    generalize pcnt (N % 256) 8 = a0
    generalize pcnt (N / 256 % 256) 8 = a1
    generalize pcnt (N / 256 / 256 % 256) 8 = a2
    generalize pcnt (N / 256 / 256 / 256 % 256) 8 = a3
    generalize pcnt (N / 256 / 256 / 256 / 256 % 256) 8 = a4
    generalize pcnt (N / 256 / 256 / 256 / 256 / 256 % 256) 8 = a5
    generalize pcnt (N / 256 / 256 / 256 / 256 / 256 / 256 % 256) 8 = a6
    generalize pcnt (N / 256 / 256 / 256 / 256 / 256 / 256 / 256 % 256) 8 = a7
    omega
