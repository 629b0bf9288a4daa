/-! WHAT TO MEND FIRST: what both reckon -/
/-- the least of g over P below -/
def mp (g : Nat → Int) (P : Nat → Bool) : Nat → Int
  | 0 => 1000000000
  | b + 1 => if P b = true then (if mp g P b < g b then mp g P b else g b) else mp g P b
theorem mp_s0 {g : Nat → Int} {P : Nat → Bool} {b : Nat} (h : P b = false) : mp g P (b + 1) = mp g P b := if_neg (by rw [h]; decide)
theorem mp_s1 {g : Nat → Int} {P : Nat → Bool} {b : Nat} (h : P b = true) : mp g P (b + 1) = if mp g P b < g b then mp g P b else g b := if_pos h
theorem mp_congr {g g' : Nat → Int} {P : Nat → Bool} : ∀ n, (∀ b, b < n → P b = true → g b = g' b) → mp g P n = mp g' P n := by
  intro n
  induction n with
  | zero => intro _; rfl
  | succ n ih =>
    intro h
    have e := ih (fun b hb => h b (by omega))
    cases hb : P n with
    | false => rw [mp_s0 hb, mp_s0 hb, e]
    | true => rw [mp_s1 hb, mp_s1 hb, e, h n (by omega) hb]
theorem mp_top (g : Nat → Int) (P : Nat → Bool) : ∀ n, mp g P n ≤ 1000000000 := by
  intro n
  induction n with
  | zero => exact Int.le_refl _
  | succ n ih =>
    cases hb : P n with
    | false => rw [mp_s0 hb]; exact ih
    | true =>
      rw [mp_s1 hb]
      split <;> omega
theorem mp_le {g : Nat → Int} {P : Nat → Bool} : ∀ n b, b < n → P b = true → mp g P n ≤ g b := by
  intro n
  induction n with
  | zero => intro b h; exact absurd h (Nat.not_lt_zero _)
  | succ n ih =>
    intro b h ht
    by_cases q : b = n
    · subst q
      rw [mp_s1 ht]
      split <;> omega
    · have e := ih b (by omega) ht
      cases hb : P n with
      | false => rw [mp_s0 hb]; exact e
      | true =>
        rw [mp_s1 hb]
        split <;> omega
theorem mp_ge {g : Nat → Int} {P : Nat → Bool} {m : Int} (hm : m ≤ 1000000000) : ∀ n, (∀ b, b < n → P b = true → m ≤ g b) → m ≤ mp g P n := by
  intro n
  induction n with
  | zero => intro _; exact hm
  | succ n ih =>
    intro h
    have e := ih (fun b hb => h b (by omega))
    cases hb : P n with
    | false => rw [mp_s0 hb]; exact e
    | true =>
      have e2 := h n (by omega) hb
      rw [mp_s1 hb]
      split <;> omega
/-- the first that is least -/
def pp (g : Nat → Int) (P : Nat → Bool) : Nat → Int
  | 0 => -1
  | b + 1 => if P b = true ∧ g b < mp g P b then (b : Int) else pp g P b
theorem pp_is (g : Nat → Int) (P : Nat → Bool) : ∀ n, (pp g P n = -1 ∧ mp g P n = 1000000000) ∨ ∃ k : Nat, k < n ∧ pp g P n = (k : Int) ∧ P k = true ∧ g k = mp g P n ∧ ∀ j : Nat, j < k → P j = true → mp g P n < g j := by
  intro n
  induction n with
  | zero => exact Or.inl ⟨rfl, rfl⟩
  | succ n ih =>
    by_cases q : P n = true ∧ g n < mp g P n
    · have e1 : pp g P (n + 1) = (n : Int) := if_pos q
      have e2 : mp g P (n + 1) = g n := by rw [mp_s1 q.1, if_neg (by omega)]
      refine Or.inr ⟨n, by omega, e1, q.1, e2.symm, fun j hj ht => ?_⟩
      have := mp_le (g := g) n j hj ht
      omega
    · have e1 : pp g P (n + 1) = pp g P n := if_neg q
      have e2 : mp g P (n + 1) = mp g P n := by
        cases hb : P n with
        | false => rw [mp_s0 hb]
        | true =>
          have : ¬ g n < mp g P n := fun z => q ⟨hb, z⟩
          rw [mp_s1 hb]
          split <;> omega
      rw [e1, e2]
      rcases ih with h | ⟨k, h1, h2⟩
      · exact Or.inl h
      · exact Or.inr ⟨k, by omega, h2⟩
def hasP (c : Int → Int) (k : Nat) : Bool := decide (0 < k) && (decide (0 < c (k : Int) % 6) && decide (c ((k : Int) - 1) = c (k : Int) - 1))
theorem hasP_t {c : Int → Int} {k : Nat} : hasP c k = true ↔ 0 < k ∧ 0 < c (k : Int) % 6 ∧ c ((k : Int) - 1) = c (k : Int) - 1 := by
  unfold hasP
  simp only [Bool.and_eq_true, decide_eq_true_eq]
/-- may be next: not done, and what it hangs from, if told, is done -/
def alB (c : Int → Int) (d k : Nat) : Bool := !d.testBit k && (!hasP c k || d.testBit (k - 1))
theorem alB_t {c : Int → Int} {d k : Nat} : alB c d k = true ↔ d.testBit k = false ∧ (hasP c k = true → d.testBit (k - 1) = true) := by
  unfold alB
  cases d.testBit k <;> cases hasP c k <;> cases d.testBit (k - 1) <;> decide
def hsn (c : Int → Int) (d : Nat) : Nat → Int
  | 0 => 0
  | n + 1 => hsn c d n + (if d.testBit n = true then 1 + c (n : Int) % 6 else 0)
theorem hsn_bd (c : Int → Int) (d : Nat) : ∀ n : Nat, 0 ≤ hsn c d n ∧ hsn c d n ≤ 6 * (n : Int)
  | 0 => ⟨Int.le_refl _, Int.le_refl _⟩
  | n + 1 => by
    have ih := hsn_bd c d n
    show 0 ≤ hsn c d n + (if d.testBit n = true then 1 + c (n : Int) % 6 else 0) ∧ hsn c d n + (if d.testBit n = true then 1 + c (n : Int) % 6 else 0) ≤ 6 * ((n + 1 : Nat) : Int)
    split <;> omega
def cst (c h : Int → Int) (n d k : Nat) : Int := (hsn c d n + (1 + c (k : Int) % 6)) * h (c (k : Int) / 6)
def hOK (h : Int → Int) : Prop := ∀ x, 0 ≤ x → x < 8 → 0 ≤ h x ∧ h x ≤ 99
theorem cst_bd {c h : Int → Int} {n d k : Nat} (hc : cel n c) (hh : hOK h) (n8 : n ≤ 8) (hk : k < n) : 0 ≤ cst c h n d k ∧ cst c h n d k ≤ 5346 := by
  have a := hsn_bd c d n
  have b := hc k hk
  have e := hh (c (k : Int) / 6) (by omega) (by omega)
  exact mul_bd (a := hsn c d n + (1 + c (k : Int) % 6)) (b := h (c (k : Int) / 6)) (p := 54) (q := 99) (by omega) (by omega) e.1 e.2
def Mw (c h : Int → Int) (n : Nat) : Nat → Nat → Int
  | 0, _ => 0
  | F + 1, d => if d = 2 ^ n - 1 then 0 else mp (fun k => cst c h n d k + Mw c h n F (d ||| 2 ^ k)) (alB c d) n
theorem p2m {n d : Nat} (n8 : n ≤ 8) (hd : d < 2 ^ n) : d < 256 := Nat.lt_of_lt_of_le hd (show 2 ^ n ≤ 2 ^ 8 from Nat.pow_le_pow_right (by decide) n8)
theorem or_bit {n d k : Nat} (n8 : n ≤ 8) (hd : d < 2 ^ n) (hk : k < n) (hb : d.testBit k = false) : (d ||| 2 ^ k) < 2 ^ n ∧ d < (d ||| 2 ^ k) := by
  obtain ⟨_, b, c, _⟩ := bt5 n (by omega) d (p2m n8 hd) hd k hk hb
  exact ⟨b, c⟩
theorem Mw_f (c h : Int → Int) {n : Nat} (n8 : n ≤ 8) : ∀ (F d : Nat), d < 2 ^ n → 2 ^ n - 1 - d ≤ F → ∀ F', 2 ^ n - 1 - d ≤ F' → Mw c h n F d = Mw c h n F' d := by
  intro F
  induction F with
  | zero =>
    intro d hd hF F' _
    have : d = 2 ^ n - 1 := by omega
    cases F' with
    | zero => rfl
    | succ F' => exact (if_pos this).symm
  | succ F ih =>
    intro d hd hF F' hF'
    by_cases q : d = 2 ^ n - 1
    · cases F' with
      | zero => exact if_pos q
      | succ F' => exact (if_pos q).trans (if_pos q).symm
    · cases F' with
      | zero => exfalso; omega
      | succ F' =>
        show (if d = 2 ^ n - 1 then 0 else mp (fun k => cst c h n d k + Mw c h n F (d ||| 2 ^ k)) (alB c d) n) = (if d = 2 ^ n - 1 then 0 else mp (fun k => cst c h n d k + Mw c h n F' (d ||| 2 ^ k)) (alB c d) n)
        rw [if_neg q, if_neg q]
        exact mp_congr n (fun k hk ha => by
          have hb := (alB_t.mp ha).1
          obtain ⟨o1, o2⟩ := or_bit n8 hd hk hb
          show cst c h n d k + Mw c h n F (d ||| 2 ^ k) = cst c h n d k + Mw c h n F' (d ||| 2 ^ k)
          rw [ih (d ||| 2 ^ k) o1 (by omega) F' (by omega)])
/-- what is left costs at least -/
def MM (c h : Int → Int) (n d : Nat) : Int := Mw c h n (2 ^ n - 1 - d) d
def gMd (c h : Int → Int) (n d k : Nat) : Int := cst c h n d k + MM c h n (d ||| 2 ^ k)
theorem MM_0 (c h : Int → Int) (n : Nat) : MM c h n (2 ^ n - 1) = 0 := by
  unfold MM
  rw [Nat.sub_self]
  rfl
theorem MM_s {c h : Int → Int} {n d : Nat} (n8 : n ≤ 8) (hd : d < 2 ^ n - 1) : MM c h n d = mp (gMd c h n d) (alB c d) n := by
  unfold MM
  obtain ⟨F, hF⟩ : ∃ F, 2 ^ n - 1 - d = F + 1 := ⟨2 ^ n - 1 - d - 1, by omega⟩
  rw [hF]
  show (if d = 2 ^ n - 1 then 0 else mp (fun k => cst c h n d k + Mw c h n F (d ||| 2 ^ k)) (alB c d) n) = _
  rw [if_neg (by omega)]
  exact mp_congr n (fun k hk ha => by
    have hb := (alB_t.mp ha).1
    obtain ⟨o1, o2⟩ := or_bit n8 (show d < 2 ^ n by omega) hk hb
    show cst c h n d k + Mw c h n F (d ||| 2 ^ k) = cst c h n d k + Mw c h n (2 ^ n - 1 - (d ||| 2 ^ k)) (d ||| 2 ^ k)
    rw [Mw_f c h n8 F (d ||| 2 ^ k) o1 (by omega) (2 ^ n - 1 - (d ||| 2 ^ k)) (Nat.le_refl _)])
theorem fst_all : ∀ n < 9, ∀ d < 256, d < 2 ^ n - 1 → (List.range n).any (fun k => !Nat.testBit d k && (List.range k).all (fun j => Nat.testBit d j)) = true := by decide +kernel
theorem al_ex {c : Int → Int} {n d : Nat} (n8 : n ≤ 8) (hd : d < 2 ^ n - 1) : ∃ k, k < n ∧ alB c d k = true := by
  have h := fst_all n (by omega) d (p2m n8 (by omega)) hd
  obtain ⟨k, k1, k2⟩ := List.any_eq_true.mp h
  simp only [Bool.and_eq_true, Bool.not_eq_true'] at k2
  refine ⟨k, List.mem_range.mp k1, alB_t.mpr ⟨k2.1, fun z => ?_⟩⟩
  have hp := (hasP_t.mp z).1
  exact List.all_eq_true.mp k2.2 (k - 1) (List.mem_range.mpr (by omega))
theorem MM_bd {c h : Int → Int} {n : Nat} (hc : cel n c) (hh : hOK h) (n8 : n ≤ 8) : ∀ (m d : Nat), d < 2 ^ n → 2 ^ n - 1 - d ≤ m → 0 ≤ MM c h n d ∧ MM c h n d ≤ 5346 * (((2 ^ n - 1 - d : Nat)) : Int) := by
  intro m
  induction m with
  | zero =>
    intro d hd hm
    rw [show d = 2 ^ n - 1 by omega, MM_0]
    omega
  | succ m ih =>
    intro d hd hm
    by_cases q : d = 2 ^ n - 1
    · rw [q, MM_0]
      omega
    · rw [MM_s n8 (by omega)]
      constructor
      · refine mp_ge (by decide) n (fun k hk ha => ?_)
        obtain ⟨o1, o2⟩ := or_bit n8 hd hk (alB_t.mp ha).1
        have e := ih (d ||| 2 ^ k) o1 (by omega)
        have b := cst_bd (d := d) hc hh n8 hk
        show 0 ≤ cst c h n d k + MM c h n (d ||| 2 ^ k)
        omega
      · obtain ⟨k, hk, ha⟩ := al_ex (c := c) n8 (show d < 2 ^ n - 1 by omega)
        obtain ⟨o1, o2⟩ := or_bit n8 hd hk (alB_t.mp ha).1
        have e := ih (d ||| 2 ^ k) o1 (by omega)
        have b := cst_bd (d := d) hc hh n8 hk
        have z := mp_le (g := gMd c h n d) n k hk ha
        have z2 : gMd c h n d k = cst c h n d k + MM c h n (d ||| 2 ^ k) := rfl
        omega
theorem MM_b {c h : Int → Int} {n d : Nat} (hc : cel n c) (hh : hOK h) (n8 : n ≤ 8) (hd : d < 2 ^ n) : 0 ≤ MM c h n d ∧ MM c h n d ≤ 1363230 := by
  have := MM_bd hc hh n8 (2 ^ n - 1 - d) d hd (Nat.le_refl _)
  have := p2m n8 hd
  have h2 : 2 ^ n ≤ 2 ^ 8 := Nat.pow_le_pow_right (by decide) n8
  omega
theorem pp_M {c h : Int → Int} {n d : Nat} (hc : cel n c) (hh : hOK h) (n8 : n ≤ 8) (hd : d < 2 ^ n - 1) : ∃ k : Nat, k < n ∧ pp (gMd c h n d) (alB c d) n = (k : Int) ∧ alB c d k = true ∧ gMd c h n d k = MM c h n d ∧ ∀ j : Nat, j < k → alB c d j = true → MM c h n d < gMd c h n d j := by
  have b := MM_b (d := d) hc hh n8 (by omega)
  rw [MM_s n8 hd] at b ⊢
  rcases pp_is (gMd c h n d) (alB c d) n with z | z
  · exfalso
    omega
  · exact z
/-- what is done after p cells -/
def dnM (c h : Int → Int) (n : Nat) : Nat → Nat
  | 0 => 0
  | p + 1 => dnM c h n p ||| 2 ^ (pp (gMd c h n (dnM c h n p)) (alB c (dnM c h n p)) n).toNat
def rwM (c h : Int → Int) (n p : Nat) : Int := pp (gMd c h n (dnM c h n p)) (alB c (dnM c h n p)) n
theorem pc_or : ∀ d < 256, ∀ k < 8, Nat.testBit d k = false → pcnt (d ||| 2 ^ k) 8 = pcnt d 8 + 1 := by decide +kernel
theorem pc_full : ∀ n < 9, ∀ d < 256, d < 2 ^ n → (pcnt d 8 < n → d < 2 ^ n - 1) := by decide +kernel
theorem dn_ok {c h : Int → Int} {n : Nat} (hc : cel n c) (hh : hOK h) (n8 : n ≤ 8) : ∀ p, p ≤ n → dnM c h n p < 2 ^ n ∧ pcnt (dnM c h n p) 8 = p := by
  intro p
  induction p with
  | zero =>
    intro _
    have h2 : 0 < 2 ^ n := Nat.two_pow_pos n
    exact ⟨h2, pcnt_zero 8⟩
  | succ p ih =>
    intro hp
    obtain ⟨a1, a2⟩ := ih (by omega)
    have hl : dnM c h n p < 2 ^ n - 1 := pc_full n (by omega) _ (p2m n8 a1) a1 (by omega)
    obtain ⟨k, k1, k2, k3, -⟩ := pp_M hc hh n8 hl
    have hb := (alB_t.mp k3).1
    obtain ⟨o1, o2⟩ := or_bit n8 a1 k1 hb
    have hpc := pc_or _ (p2m n8 a1) k (by omega) hb
    show dnM c h n p ||| 2 ^ (pp (gMd c h n (dnM c h n p)) (alB c (dnM c h n p)) n).toNat < 2 ^ n ∧ pcnt (dnM c h n p ||| 2 ^ (pp (gMd c h n (dnM c h n p)) (alB c (dnM c h n p)) n).toNat) 8 = p + 1
    rw [k2, Int.toNat_natCast]
    exact ⟨o1, by omega⟩
theorem dn_lt {c h : Int → Int} {n p : Nat} (hc : cel n c) (hh : hOK h) (n8 : n ≤ 8) (hp : p < n) : dnM c h n p < 2 ^ n - 1 := by
  obtain ⟨a1, a2⟩ := dn_ok hc hh n8 p (by omega)
  exact pc_full n (by omega) _ (p2m n8 a1) a1 (by omega)
theorem ah_all : ∀ d < 256, ∀ j < 8, (ia (sl 1 ((j : Nat) : Int)) (ix ((d : Nat) : Int) (-1)) = 0 ↔ Nat.testBit d j = true) := by decide +kernel
