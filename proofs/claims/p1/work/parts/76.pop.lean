/-! HOW MANY BITS: the machine's count, byte by byte -/
def s1 (M x : Nat) : Nat := x - ((x / 2) &&& M)
def s2 (M x : Nat) : Nat := (x &&& M) + ((x / 4) &&& M)
def s3 (M x : Nat) : Nat := (x + x / 16) &&& M
theorem and_by (h M : Nat) {l m : Nat} (hl : l < 256) (hm : m < 256) : (h * 256 + l) &&& (M * 256 + m) = (h &&& M) * 256 + (l &&& m) := by
  have hlm : l &&& m < 2 ^ 8 := Nat.and_lt_two_pow _ (by omega)
  have e : ∀ a b : Nat, a * 256 + b = 2 ^ 8 * a + b := fun a b => by omega
  rw [e, e, e]
  apply Nat.eq_of_testBit_eq
  intro i
  rw [Nat.testBit_and, Nat.testBit_two_pow_mul_add _ (by omega), Nat.testBit_two_pow_mul_add _ (by omega), Nat.testBit_two_pow_mul_add _ hlm]
  by_cases hi : i < 8
  · simp only [if_pos hi, Nat.testBit_and]
  · simp only [if_neg hi, Nat.testBit_and]
set_option maxRecDepth 4000 in
theorem by_1 : ∀ a < 2, ∀ l < 256, (a * 128 + l / 2) &&& 85 = (l / 2) &&& 85 := by decide +kernel
set_option maxRecDepth 4000 in
theorem by_2 : ∀ a < 4, ∀ l < 256, (a * 64 + l / 4) &&& 51 = (l / 4) &&& 51 := by decide +kernel
set_option maxRecDepth 4000 in
theorem by_3 : ∀ a < 5, ∀ l < 69, (l + (a * 16 + l / 16)) &&& 15 = (l + l / 16) &&& 15 := by decide +kernel
set_option maxRecDepth 4000 in
theorem by_p : ∀ l < 256, (l / 2) &&& 85 ≤ l ∧ s1 85 l < 256 ∧ s2 51 (s1 85 l) < 69 ∧ s2 51 (s1 85 l) % 16 ≤ 4 ∧ s3 15 (s2 51 (s1 85 l)) = pop8 l := by decide +kernel
set_option maxRecDepth 4000 in
theorem by_q : ∀ l < 256, (l &&& 51) + ((l / 4) &&& 51) < 256 := by decide +kernel
theorem s1_by (M h : Nat) {l : Nat} (hl : l < 256) : s1 (M * 256 + 85) (h * 256 + l) = s1 M h * 256 + s1 85 l := by
  unfold s1
  have e : (h * 256 + l) / 2 = (h / 2) * 256 + (h % 2 * 128 + l / 2) := by omega
  rw [e, and_by _ _ (by omega) (by decide), by_1 _ (by omega) l hl]
  have h1 : (h / 2) &&& M ≤ h := Nat.le_trans Nat.and_le_left (by omega)
  have h2 := (by_p l hl).1
  omega
theorem s2_by (M h : Nat) {l : Nat} (hl : l < 256) : s2 (M * 256 + 51) (h * 256 + l) = s2 M h * 256 + s2 51 l := by
  unfold s2
  have e : (h * 256 + l) / 4 = (h / 4) * 256 + (h % 4 * 64 + l / 4) := by omega
  rw [e, and_by (h / 4) M (l := h % 4 * 64 + l / 4) (by omega) (by decide), and_by h M hl (by decide), by_2 _ (by omega) l hl]
  omega
theorem s3_by (M h : Nat) {l : Nat} (hl : l < 69) (hh : h % 16 ≤ 4) : s3 (M * 256 + 15) (h * 256 + l) = s3 M h * 256 + s3 15 l := by
  unfold s3
  have e : h * 256 + l + (h * 256 + l) / 16 = (h + h / 16) * 256 + (l + (h % 16 * 16 + l / 16)) := by omega
  rw [e, and_by _ _ (by omega) (by decide), by_3 _ (by omega) l hl]
def s12 (M1 M2 x : Nat) : Nat := s2 M2 (s1 M1 x)
theorem s12_by (M1 M2 h : Nat) {l : Nat} (hl : l < 256) : s12 (M1 * 256 + 85) (M2 * 256 + 51) (h * 256 + l) = s12 M1 M2 h * 256 + s12 85 51 l := by
  unfold s12
  rw [s1_by _ _ hl, s2_by _ _ (by_p l hl).2.1]
theorem s12_16 (M1 M2 h : Nat) {l : Nat} (hl : l < 256) : s12 (M1 * 256 + 85) (M2 * 256 + 51) (h * 256 + l) % 16 ≤ 4 := by
  rw [s12_by _ _ _ hl]
  have h2 : s12 85 51 l % 16 ≤ 4 := (by_p l hl).2.2.2.1
  omega
theorem s123_by (M1 M2 M3 h : Nat) {l : Nat} (hl : l < 256) (hh : s12 M1 M2 h % 16 ≤ 4) : s3 (M3 * 256 + 15) (s12 (M1 * 256 + 85) (M2 * 256 + 51) (h * 256 + l)) = s3 M3 (s12 M1 M2 h) * 256 + pop8 l := by
  have h1 := by_p l hl
  have h2 : s12 85 51 l < 69 := h1.2.2.1
  rw [s12_by _ _ _ hl, s3_by _ _ h2 hh]
  have h3 : s3 15 (s12 85 51 l) = pop8 l := h1.2.2.2.2
  rw [h3]
theorem s123_0 (M1 M2 M3 : Nat) : s12 M1 M2 0 = 0 ∧ s3 M3 0 = 0 := by
  unfold s12 s1 s2 s3
  simp
theorem pop8_le (l : Nat) : pop8 l ≤ 8 := cnt_le _ 8
/-- the six bytes -/
theorem pop_48 {a b c d e f : Nat} (ha : a < 256) (hb : b < 256) (hc : c < 256) (hd : d < 256) (he : e < 256) (hf : f < 256) : s3 1085102592571150095 (s12 6148914691236517205 3689348814741910323 (((((f * 256 + e) * 256 + d) * 256 + c) * 256 + b) * 256 + a)) = ((((pop8 f * 256 + pop8 e) * 256 + pop8 d) * 256 + pop8 c) * 256 + pop8 b) * 256 + pop8 a := by
  have z := s123_0 0x5555 0x3333 0x0f0f
  have t5 := s123_by 0x5555 0x3333 0x0f0f 0 hf (by rw [z.1]; decide)
  rw [z.1, z.2] at t5
  have t4 := s123_by _ _ (0x0f0f * 256 + 15) _ he (s12_16 0x5555 0x3333 0 hf)
  have t3 := s123_by _ _ ((0x0f0f * 256 + 15) * 256 + 15) _ hd (s12_16 (0x5555 * 256 + 85) (0x3333 * 256 + 51) (0 * 256 + f) he)
  have t2 := s123_by _ _ (((0x0f0f * 256 + 15) * 256 + 15) * 256 + 15) _ hc (s12_16 ((0x5555 * 256 + 85) * 256 + 85) ((0x3333 * 256 + 51) * 256 + 51) ((0 * 256 + f) * 256 + e) hd)
  have t1 := s123_by _ _ ((((0x0f0f * 256 + 15) * 256 + 15) * 256 + 15) * 256 + 15) _ hb (s12_16 (((0x5555 * 256 + 85) * 256 + 85) * 256 + 85) (((0x3333 * 256 + 51) * 256 + 51) * 256 + 51) (((0 * 256 + f) * 256 + e) * 256 + d) hc)
  have t0 := s123_by _ _ (((((0x0f0f * 256 + 15) * 256 + 15) * 256 + 15) * 256 + 15) * 256 + 15) _ ha (s12_16 ((((0x5555 * 256 + 85) * 256 + 85) * 256 + 85) * 256 + 85) ((((0x3333 * 256 + 51) * 256 + 51) * 256 + 51) * 256 + 51) ((((0 * 256 + f) * 256 + e) * 256 + d) * 256 + c) hb)
  rw [t1, t2, t3, t4, t5] at t0
  simp only [Nat.zero_mul, Nat.zero_add] at t0
  exact t0
theorem cnt_by (x : Nat) : ∀ m, cnt (fun k => x.testBit k) (8 + m) = pop8 (x % 256) + cnt (fun k => (x / 256).testBit k) m
  | 0 => by
    have e : ∀ m, m ≤ 8 → cnt (fun k => x.testBit k) m = cnt (fun k => (x % 256).testBit k) m := by
      intro m
      induction m with
      | zero => intro _; rfl
      | succ m ih =>
        intro hm
        show cnt _ m + (if x.testBit m = true then 1 else 0) = cnt _ m + (if (x % 256).testBit m = true then 1 else 0)
        have t : (x % 2 ^ 8).testBit m = x.testBit m := by
          rw [Nat.testBit_mod_two_pow, decide_eq_true (by omega : m < 8), Bool.true_and]
        rw [ih (by omega), t]
    exact e 8 (Nat.le_refl _)
  | m + 1 => by
    show cnt _ (8 + m) + (if x.testBit (8 + m) = true then 1 else 0) = pop8 (x % 256) + (cnt _ m + (if (x / 256).testBit m = true then 1 else 0))
    have t : (x / 256).testBit m = x.testBit (8 + m) := by
      rw [show (256 : Nat) = 2 ^ 8 from rfl, Nat.testBit_div_two_pow]
      congr 1
      omega
    rw [cnt_by x m, ← t]
    omega
theorem cnt_48 {a b c d e f : Nat} (ha : a < 256) (hb : b < 256) (hc : c < 256) (hd : d < 256) (he : e < 256) (hf : f < 256) : cnt (fun k => (((((f * 256 + e) * 256 + d) * 256 + c) * 256 + b) * 256 + a).testBit k) 48 = pop8 a + (pop8 b + (pop8 c + (pop8 d + (pop8 e + pop8 f)))) := by
  have st : ∀ (h l m : Nat), l < 256 → cnt (fun k => (h * 256 + l).testBit k) (8 + m) = pop8 l + cnt (fun k => h.testBit k) m := by
    intro h l m hl
    rw [cnt_by]
    have e1 : (h * 256 + l) % 256 = l := by omega
    have e2 : (h * 256 + l) / 256 = h := by omega
    rw [e1, e2]
  rw [show (48 : Nat) = 8 + (8 + (8 + (8 + (8 + 8)))) from rfl, st _ _ _ ha, st _ _ _ hb, st _ _ _ hc, st _ _ _ hd, st _ _ _ he]
  rfl
/-- the sum of the bytes -/
theorem pop_sum {x p q r s t u : Nat} (hx : x = ((((u * 256 + t) * 256 + s) * 256 + r) * 256 + q) * 256 + p) (h1 : p ≤ 8) (h2 : q ≤ 8) (h3 : r ≤ 8) (h4 : s ≤ 8) (h5 : t ≤ 8) (h6 : u ≤ 8) : (x + x / 256 + (x + x / 256) / 65536 + (x + x / 256 + (x + x / 256) / 65536) / 4294967296) % 128 = p + (q + (r + (s + (t + u)))) := by
  have e1 : x / 256 = (((u * 256 + t) * 256 + s) * 256 + r) * 256 + q := by omega
  rw [e1]
  have e2 : (x + ((((u * 256 + t) * 256 + s) * 256 + r) * 256 + q)) / 65536 = ((u * 256 + (t + u)) * 256 + (s + t)) * 256 + (r + s) := by omega
  rw [e2]
  have e3 : (x + ((((u * 256 + t) * 256 + s) * 256 + r) * 256 + q) + (((u * 256 + (t + u)) * 256 + (s + t)) * 256 + (r + s))) / 4294967296 = u * 256 + (t + u) := by omega
  rw [e3]
  omega
theorem bytes_of {x : Nat} (h : x < 281474976710656) : ∃ a b c d e f : Nat, a < 256 ∧ b < 256 ∧ c < 256 ∧ d < 256 ∧ e < 256 ∧ f < 256 ∧ x = ((((f * 256 + e) * 256 + d) * 256 + c) * 256 + b) * 256 + a :=
  ⟨x % 256, x / 256 % 256, x / 65536 % 256, x / 16777216 % 256, x / 4294967296 % 256, x / 1099511627776, by omega, by omega, by omega, by omega, by omega, by omega, by omega⟩
def popN (x : Nat) : Nat := (let y := s3 1085102592571150095 (s12 6148914691236517205 3689348814741910323 x); (y + y / 256 + (y + y / 256) / 65536 + (y + y / 256 + (y + y / 256) / 65536) / 4294967296) % 128)
theorem popN_is {x : Nat} (h : x < 281474976710656) : popN x = cnt (fun k => x.testBit k) 48 := by
  obtain ⟨a, b, c, d, e, f, ha, hb, hc, hd, he, hf, rfl⟩ := bytes_of h
  rw [cnt_48 ha hb hc hd he hf]
  exact pop_sum (pop_48 ha hb hc hd he hf) (pop8_le _) (pop8_le _) (pop8_le _) (pop8_le _) (pop8_le _) (pop8_le _)
