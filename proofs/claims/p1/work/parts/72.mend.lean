/-! WHAT IS MENDED FIRST: the numbers -/
def mF : Nat := 1000000000
def cnt (b : Nat → Bool) : Nat → Nat
  | 0 => 0
  | k + 1 => cnt b k + (if b k = true then 1 else 0)
def pkF (p : Nat → Bool) : Nat → Nat → Nat
  | 0, q => q
  | f + 1, q => if p q = true then q else pkF p f (q + 1)
def nx (b : Nat → Bool) (j : Nat) : Nat := pkF (fun k => b k && cnt b k == j) 48 0
theorem pkF_eq {p : Nat → Bool} {q : Nat} (hq : p q = true) : ∀ (f s : Nat), s ≤ q → q < s + f → (∀ i, s ≤ i → i < q → p i = false) → pkF p f s = q := by
  intro f
  induction f with
  | zero => intro s h1 h2 _; omega
  | succ f ih =>
    intro s h1 h2 h3
    unfold pkF
    by_cases h : s = q
    · subst h; rw [if_pos hq]
    · rw [if_neg (by rw [h3 s (Nat.le_refl _) (by omega)]; decide)]
      exact ih (s + 1) (by omega) (by omega) (fun i h4 h5 => h3 i (by omega) h5)
theorem cnt_mono (b : Nat → Bool) : ∀ (k m : Nat), k ≤ m → cnt b k ≤ cnt b m := by
  intro k m
  induction m with
  | zero => intro h; have : k = 0 := by omega
            subst this; exact Nat.le_refl _
  | succ m ih =>
    intro h
    by_cases hk : k = m + 1
    · subst hk; exact Nat.le_refl _
    · exact Nat.le_trans (ih (by omega)) (Nat.le_add_right _ _)
theorem cnt_lt {b : Nat → Bool} {k m : Nat} (hb : b k = true) (h : k < m) : cnt b k < cnt b m := by
  have h1 := cnt_mono b (k + 1) m h
  have h2 : cnt b (k + 1) = cnt b k + 1 := by show cnt b k + _ = _; rw [if_pos hb]
  omega
theorem cnt_le (b : Nat → Bool) : ∀ k, cnt b k ≤ k
  | 0 => Nat.le_refl _
  | k + 1 => by
    have := cnt_le b k
    show cnt b k + _ ≤ _
    split <;> omega
theorem nx_at {b : Nat → Bool} {k : Nat} (hb : b k = true) (hk : k < 48) : nx b (cnt b k) = k := by
  refine pkF_eq (by simp [hb]) 48 0 (Nat.zero_le _) (by omega) (fun i _ hi => ?_)
  cases hbi : b i with
  | false => rfl
  | true =>
    have := cnt_lt hbi hi
    simp only [Bool.true_and, beq_eq_false_iff_ne]
    omega
theorem cnt_ex (b : Nat → Bool) (j : Nat) : ∀ m, j < cnt b m → ∃ k, k < m ∧ b k = true ∧ cnt b k = j := by
  intro m
  induction m with
  | zero => intro h; exact absurd h (Nat.not_lt_zero _)
  | succ m ih =>
    intro h
    by_cases h1 : j < cnt b m
    · obtain ⟨k, q1, q2, q3⟩ := ih h1
      exact ⟨k, by omega, q2, q3⟩
    · have h2 : j < cnt b m + (if b m = true then 1 else 0) := h
      by_cases hb : b m = true
      · rw [if_pos hb] at h2
        exact ⟨m, by omega, hb, by omega⟩
      · rw [if_neg hb] at h2; omega
theorem nx_lt {b : Nat → Bool} {j : Nat} (h : j < cnt b 48) : nx b j < 48 ∧ b (nx b j) = true ∧ cnt b (nx b j) = j := by
  obtain ⟨k, h1, h2, h3⟩ := cnt_ex b j 48 h
  have h4 := nx_at h2 h1
  rw [h3] at h4
  rw [h4]
  exact ⟨h1, h2, h3⟩
theorem nx_mono {b : Nat → Bool} {i j : Nat} (hj : j < cnt b 48) (h : i < j) : nx b i < nx b j := by
  obtain ⟨a1, a2, a3⟩ := nx_lt (b := b) (j := i) (by omega)
  obtain ⟨b1, b2, b3⟩ := nx_lt hj
  refine Nat.not_le.mp (fun q => ?_)
  have := cnt_mono b _ _ q
  omega
def hrs (cs : Nat → Nat) (d : Nat) : Nat → Nat
  | 0 => 0
  | i + 1 => hrs cs d i + (if d.testBit i = true then 1 + cs i % 6 else 0)
def blw (cs : Nat → Nat) (q : Nat) : Bool := decide (0 < q) && (decide (0 < cs q % 6) && decide (cs (q - 1) + 1 = cs q))
def can (cs : Nat → Nat) (d q : Nat) : Bool := !d.testBit q && !(blw cs q && !d.testBit (q - 1))
def mn (v : Nat → Nat) : Nat → Nat
  | 0 => mF
  | q + 1 => min (mn v q) (v q)
def via (cs : Nat → Nat) (n : Nat) (K : Nat → Nat) (d q : Nat) : Nat := if can cs d q = true then hrs cs d n + (1 + cs q % 6) + K (d ||| 2 ^ q) else mF
def kst (cs : Nat → Nat) (n : Nat) : Nat → Nat → Nat
  | 0, _ => 0
  | f + 1, d => if d = 2 ^ n - 1 then 0 else mn (via cs n (kst cs n f) d) n
def kK (cs : Nat → Nat) (n d : Nat) : Nat := kst cs n (2 ^ n - d) d
theorem bt_or : ∀ d < 256, ∀ q < 8, d.testBit q = false → d < d ||| 2 ^ q := by decide +kernel
theorem bt_first : ∀ n < 9, ∀ d < 2 ^ n - 1, ∃ q < n, d.testBit q = false ∧ ∀ i < q, d.testBit i = true := by decide +kernel
theorem bt_all : ∀ n < 9, ∀ q < n, (2 ^ n - 1).testBit q = true := by decide +kernel
theorem pow8 {n : Nat} (h : n < 9) : 0 < 2 ^ n ∧ 2 ^ n ≤ 256 := ⟨Nat.two_pow_pos n, Nat.pow_le_pow_right (by decide) (by omega : n ≤ 8)⟩
theorem or_lt {n d q : Nat} (hd : d < 2 ^ n) (hq : q < n) : d ||| 2 ^ q < 2 ^ n := Nat.or_lt_two_pow hd (Nat.pow_lt_pow_right (by decide) hq)
theorem mn_congr {v w : Nat → Nat} : ∀ n, (∀ q, q < n → v q = w q) → mn v n = mn w n
  | 0, _ => rfl
  | n + 1, h => by
    unfold mn
    rw [mn_congr n (fun q hq => h q (by omega)), h n (by omega)]
theorem mn_le (v : Nat → Nat) : ∀ n, mn v n ≤ mF
  | 0 => Nat.le_refl _
  | n + 1 => Nat.le_trans (Nat.min_le_left _ _) (mn_le v n)
theorem mn_le_at {v : Nat → Nat} {q : Nat} : ∀ n, q < n → mn v n ≤ v q
  | 0, h => absurd h (Nat.not_lt_zero _)
  | n + 1, h => by
    by_cases hq : q = n
    · subst hq; exact Nat.min_le_right _ _
    · exact Nat.le_trans (Nat.min_le_left _ _) (mn_le_at n (by omega))
theorem mn_ex {v : Nat → Nat} : ∀ n, mn v n < mF → ∃ q, q < n ∧ v q = mn v n
  | 0, h => absurd h (Nat.lt_irrefl _)
  | n + 1, h => by
    have e : mn v (n + 1) = min (mn v n) (v n) := rfl
    by_cases h1 : v n ≤ mn v n
    · exact ⟨n, by omega, by rw [e, Nat.min_eq_right h1]⟩
    · have e2 : mn v (n + 1) = mn v n := by rw [e, Nat.min_eq_left (by omega)]
      obtain ⟨q, q1, q2⟩ := mn_ex (v := v) n (by omega)
      exact ⟨q, by omega, by rw [e2]; exact q2⟩
section KK
variable {cs : Nat → Nat} {n : Nat}
theorem can_bit {d q : Nat} (h : can cs d q = true) : d.testBit q = false := by
  unfold can at h
  simp only [Bool.and_eq_true, Bool.not_eq_true'] at h
  exact h.1
theorem via_congr (hn : n < 9) {K K' : Nat → Nat} {d q : Nat} (hd : d < 2 ^ n) (hq : q < n) (h : ∀ e, d < e → e < 2 ^ n → K e = K' e) : via cs n K d q = via cs n K' d q := by
  unfold via
  by_cases hc : can cs d q = true
  · have hp := pow8 hn
    rw [if_pos hc, if_pos hc, h _ (bt_or d (by omega) q (by omega) (can_bit hc)) (or_lt hd hq)]
  · rw [if_neg hc, if_neg hc]
theorem kst_st (hn : n < 9) : ∀ (f g d : Nat), 2 ^ n - d ≤ f → 2 ^ n - d ≤ g → d < 2 ^ n → kst cs n f d = kst cs n g d := by
  intro f
  induction f with
  | zero => intro g d h1 h2 h3; omega
  | succ f ih =>
    intro g d h1 h2 h3
    obtain ⟨g, rfl⟩ : ∃ g', g = g' + 1 := ⟨g - 1, by omega⟩
    unfold kst
    by_cases hd : d = 2 ^ n - 1
    · rw [if_pos hd, if_pos hd]
    · rw [if_neg hd, if_neg hd]
      exact mn_congr n (fun q hq => via_congr hn h3 hq (fun e h4 h5 => ih g e (by omega) (by omega) h5))
theorem kK_eq (hn : n < 9) {d : Nat} (hd : d < 2 ^ n) : kK cs n d = if d = 2 ^ n - 1 then 0 else mn (via cs n (kK cs n) d) n := by
  obtain ⟨f, hf⟩ : ∃ f, 2 ^ n - d = f + 1 := ⟨2 ^ n - d - 1, by omega⟩
  have e : kK cs n d = kst cs n (f + 1) d := by unfold kK; rw [hf]
  rw [e]
  unfold kst
  by_cases h : d = 2 ^ n - 1
  · rw [if_pos h, if_pos h]
  · rw [if_neg h, if_neg h]
    exact mn_congr n (fun q hq => via_congr hn hd hq (fun e h4 h5 => kst_st hn _ _ e (by omega) (by omega) h5))
theorem kK_le (hn : n < 9) {d : Nat} (hd : d < 2 ^ n) : kK cs n d ≤ mF := by
  rw [kK_eq hn hd]
  split
  · exact Nat.zero_le _
  · exact mn_le _ _
theorem hrs_le (d : Nat) : ∀ m, hrs cs d m ≤ 6 * m
  | 0 => Nat.le_refl _
  | m + 1 => by
    have h := hrs_le d m
    have h2 : cs m % 6 < 6 := Nat.mod_lt _ (by decide)
    show hrs cs d m + _ ≤ _
    split <;> omega
theorem can_first {d q : Nat} (h1 : d.testBit q = false) (h2 : ∀ i < q, d.testBit i = true) : can cs d q = true := by
  unfold can
  rw [h1]
  by_cases hq : 0 < q
  · rw [h2 (q - 1) (by omega)]; simp
  · have : q = 0 := by omega
    subst this
    simp [blw]
theorem kK_lt (hn : n < 9) : ∀ (f d : Nat), 2 ^ n - d ≤ f → d < 2 ^ n → kK cs n d ≤ 100 * (2 ^ n - 1 - d) := by
  intro f
  induction f with
  | zero => intro d h1 h2; omega
  | succ f ih =>
    intro d h1 h2
    rw [kK_eq hn h2]
    split
    · exact Nat.zero_le _
    · next hd =>
      obtain ⟨q, q1, q2, q3⟩ := bt_first n hn d (by omega)
      have hp := pow8 hn
      have h3 := bt_or d (by omega) q (by omega) q2
      have h4 := or_lt h2 q1
      have h5 := ih (d ||| 2 ^ q) (by omega) h4
      have h6 := mn_le_at (v := via cs n (kK cs n) d) n q1
      have h7 : via cs n (kK cs n) d q = hrs cs d n + (1 + cs q % 6) + kK cs n (d ||| 2 ^ q) := by unfold via; rw [if_pos (can_first q2 q3)]
      have h8 := hrs_le (cs := cs) d n
      have h9 : cs q % 6 < 6 := Nat.mod_lt _ (by decide)
      omega
/-- which is taken next -/
def pkP (cs : Nat → Nat) (n d q : Nat) : Bool := can cs d q && via cs n (kK cs n) d q == kK cs n d
def pk (cs : Nat → Nat) (n d : Nat) : Nat := pkF (pkP cs n d) n 0
theorem pk_ex (hn : n < 9) {d : Nat} (hd : d < 2 ^ n - 1) : ∃ q, q < n ∧ pkP cs n d q = true := by
  have h1 := kK_eq (cs := cs) hn (d := d) (by omega)
  rw [if_neg (by omega)] at h1
  have h2 := kK_lt (cs := cs) hn _ d (Nat.le_refl _) (by omega)
  have hp := pow8 hn
  have h3 : kK cs n d < mF := by unfold mF; omega
  rw [h1] at h3
  obtain ⟨q, q1, q2⟩ := mn_ex n h3
  refine ⟨q, q1, ?_⟩
  unfold pkP
  rw [h1, q2]
  cases hc : can cs d q with
  | true => simp
  | false =>
    exfalso
    have e : via cs n (kK cs n) d q = mF := by unfold via; rw [hc]; rfl
    omega
theorem least_ex {p : Nat → Bool} : ∀ (n : Nat), (∃ q, q < n ∧ p q = true) → ∃ q, q < n ∧ p q = true ∧ ∀ i, i < q → p i = false
  | 0, ⟨q, h, _⟩ => absurd h (Nat.not_lt_zero _)
  | n + 1, ⟨q, h1, h2⟩ => by
    by_cases h : ∃ q, q < n ∧ p q = true
    · obtain ⟨r, r1, r2, r3⟩ := least_ex n h
      exact ⟨r, by omega, r2, r3⟩
    · have hq : q = n := by
        refine Classical.byContradiction (fun z => h ⟨q, by omega, h2⟩)
      subst hq
      refine ⟨q, h1, h2, fun i hi => ?_⟩
      cases hb : p i with
      | false => rfl
      | true => exact absurd ⟨i, hi, hb⟩ h
theorem pk_is (hn : n < 9) {d : Nat} (hd : d < 2 ^ n - 1) : pk cs n d < n ∧ pkP cs n d (pk cs n d) = true ∧ ∀ i, i < pk cs n d → pkP cs n d i = false := by
  obtain ⟨q, q1, q2, q3⟩ := least_ex n (pk_ex (cs := cs) hn hd)
  have e : pk cs n d = q := pkF_eq q2 n 0 (Nat.zero_le _) (by omega) (fun i _ h => q3 i h)
  rw [e]
  exact ⟨q1, q2, q3⟩
def dD (cs : Nat → Nat) (n : Nat) : Nat → Nat
  | 0 => 0
  | p + 1 => dD cs n p ||| 2 ^ pk cs n (dD cs n p)
def pop8 (d : Nat) : Nat := cnt (fun i => d.testBit i) 8
theorem pop_or : ∀ d < 256, ∀ q < 8, d.testBit q = false → pop8 (d ||| 2 ^ q) = pop8 d + 1 := by decide +kernel
theorem pop_all : ∀ n < 9, pop8 (2 ^ n - 1) = n := by decide +kernel
theorem dD_is (hn : n < 9) : ∀ p, p ≤ n → dD cs n p < 2 ^ n ∧ pop8 (dD cs n p) = p
  | 0, _ => ⟨(pow8 hn).1, by show pop8 0 = 0; decide⟩
  | p + 1, h => by
    obtain ⟨h1, h2⟩ := dD_is hn p (by omega)
    have hp := pow8 hn
    have h3 : dD cs n p ≠ 2 ^ n - 1 := fun q => by rw [q, pop_all n hn] at h2; omega
    obtain ⟨a1, a2, a3⟩ := pk_is (cs := cs) hn (d := dD cs n p) (by omega)
    unfold pkP at a2
    simp only [Bool.and_eq_true] at a2
    refine ⟨or_lt h1 a1, ?_⟩
    show pop8 (dD cs n p ||| 2 ^ pk cs n (dD cs n p)) = _
    rw [pop_or _ (by omega) _ (by omega) (can_bit a2.1), h2]
theorem dD_lt (hn : n < 9) {p : Nat} (h : p < n) : dD cs n p < 2 ^ n - 1 := by
  obtain ⟨h1, h2⟩ := dD_is (cs := cs) hn p (by omega)
  have h3 : dD cs n p ≠ 2 ^ n - 1 := fun q => by rw [q, pop_all n hn] at h2; omega
  omega
end KK
