/-! PLANTING: loads, choices, both gardens -/
def ownP (A2 : qA) (c : Int) : Int := if A2 1 c = 0 then 0 else 10 * A2 4 c + A2 9 c + A2 10 c + (if A2 7 c = -1 then 0 else max (A2 8 c) (A2 12 (A2 7 c)))
def lodP (A2 : qA) (c : Int) : Int := if A2 1 c = 0 then 0 else 10 * A2 4 c + A2 8 c + A2 9 c + A2 10 c
def ripP (A2 : qA) (c : Int) : Int := if A2 1 c = 0 then 0 else (if A2 7 c = -1 then 0 else max 0 (A2 12 (A2 7 c) - A2 8 c))
def sumP (f : Int → Int) : Nat → Int → Int
  | 0, _ => 0
  | m + 1, k => f k + sumP f m (k + 1)
theorem sumP_add (f g h : Int → Int) : ∀ (m : Nat) (k : Int), (∀ i, k ≤ i → i < k + m → h i = f i + g i) → sumP h m k = sumP f m k + sumP g m k
  | 0, _, _ => rfl
  | m + 1, k, e => by
    show h k + sumP h m (k + 1) = (f k + sumP f m (k + 1)) + (g k + sumP g m (k + 1))
    rw [sumP_add f g h m (k + 1) (fun i i0 i1 => e i (by omega) (by omega)), e k (Int.le_refl _) (by omega)]
    omega
theorem sumP_0 (f : Int → Int) : ∀ (m : Nat) (k : Int), (∀ i, k ≤ i → i < k + m → f i = 0) → sumP f m k = 0
  | 0, _, _ => rfl
  | m + 1, k, e => by
    show f k + sumP f m (k + 1) = 0
    rw [sumP_0 f m (k + 1) (fun i i0 i1 => e i (by omega) (by omega)), e k (Int.le_refl _) (by omega)]
    rfl
/-- bounds of what lies in the cells -/
def PB (A2 : qA) : Prop := ∀ d, 0 ≤ d → d < 48 → A2 1 d ≠ 0 → (0 ≤ A2 4 d ∧ A2 4 d ≤ 9) ∧ (0 ≤ A2 9 d ∧ A2 9 d ≤ 6000000) ∧ (0 ≤ A2 10 d ∧ A2 10 d ≤ 20) ∧ (0 ≤ A2 8 d ∧ A2 8 d ≤ 200) ∧ (-1 ≤ A2 7 d ∧ A2 7 d ≤ 5)
theorem own_s {A2 : qA} (hb : PB A2) (hk : ∀ k, 0 ≤ k → k < 6 → 1 ≤ A2 12 k ∧ A2 12 k ≤ 200) (hz : ∀ d, 0 ≤ d → d < 48 → A2 1 d ≠ 0 → A2 7 d = -1 → A2 8 d = 0) {c : Int} (c0 : 0 ≤ c) (c1 : c < 48) : ownP A2 c = lodP A2 c + ripP A2 c ∧ (0 ≤ lodP A2 c ∧ lodP A2 c ≤ 6000310) ∧ 0 ≤ ripP A2 c ∧ ripP A2 c ≤ 200 := by
  unfold ownP lodP ripP
  by_cases q : A2 1 c = 0
  · rw [if_pos q, if_pos q, if_pos q]; omega
  · obtain ⟨u1, u2, u3, u4, u5⟩ := hb c c0 c1 q
    rw [if_neg q, if_neg q, if_neg q]
    by_cases w : A2 7 c = -1
    · have := hz c c0 c1 q w
      rw [if_pos w, if_pos w]; omega
    · have := hk (A2 7 c) (by omega) (by omega)
      rw [if_neg w, if_neg w]; omega
theorem lodC_L {A1 A2 : qA} (h : RC A1 A2) (hb : PB A2) {e : Int} (e48 : e ≤ 48) : ∀ (m F : Nat) (s k : Int), k + m = e → 0 ≤ k → (∀ i, k ≤ i → i < e → i / 6 = k / 6) → 0 ≤ s → s ≤ 6001000 * (6 - m) → m ≤ 6 → fC_loadOf_L (F + m + 1) 7 [s, e, k] A1 = s + sumP (lodP A2) m k
  | 0, F, s, k, hm, k0, hc, s0, s1, m6 => by
    rw [fC_loadOf_L7]
    unfold fC_loadOf_c7
    simp only [qlet_e]
    rw [if_neg (show ¬ k < e by omega)]
    show s = s + 0
    omega
  | m + 1, F, s, k, hm, k0, hc, s0, s1, m6 => by
    rw [show F + (m + 1) + 1 = (F + m + 1) + 1 by omega, fC_loadOf_L7]
    unfold fC_loadOf_c7
    simp only [qlet_e]
    have hg := hang_is (h.1 k k0 (by omega)) k0 (by omega)
    rw [if_pos (show k < e by omega)]
    show _ = s + (lodP A2 k + sumP (lodP A2) m (k + 1))
    by_cases q : A2 1 k = 0
    · rw [if_neg (fun z => hg.mp z q)]
      have hz : ∀ i, k ≤ i → i < e → lodP A2 i = 0 := fun i i0 i1 => by
        have := RC_below h (c := k) (i - k).toNat i (by omega) k0 (by omega) (hc i i0 i1) q
        unfold lodP
        rw [if_pos this]
      rw [hz k (Int.le_refl _) (by omega), sumP_0 _ m (k + 1) (fun i i0 i1 => hz i (by omega) (by omega))]
      omega
    · obtain ⟨⟨_, g2, _, _⟩, ⟨g8, g9⟩⟩ := (h.1 k k0 (by omega)).1.2 q
      have g6 := ((h.1 k k0 (by omega)).2 q).1.2.1
      obtain ⟨u1, u2, u3, u4, u5⟩ := hb k k0 (by omega) q
      have hl : lodP A2 k = 10 * A2 4 k + A2 8 k + A2 9 k + A2 10 k := by
        unfold lodP
        rw [if_neg q]
      rw [if_pos (hg.mpr q), g2, g6, g8, g9, show wI (s + (10 * A2 4 k + A2 8 k + A2 9 k + A2 10 k)) = s + (10 * A2 4 k + A2 8 k + A2 9 k + A2 10 k) from wI_id ⟨by omega, by omega⟩, show wI (k + 1) = k + 1 from wI_id ⟨by omega, by omega⟩, lodC_L h hb e48 m F _ (k + 1) (by omega) (by omega) (fun i i0 i1 => by have := hc i (by omega) i1; have := hc (k + 1) (by omega) (by omega); omega) (by omega) (by omega) (by omega), hl]
      omega
theorem ripC_L {A1 A2 : qA} (h : RC A1 A2) (hbb : RB A1 A2) (hb : PB A2) {e : Int} (e48 : e ≤ 48) : ∀ (m F : Nat) (s k : Int), k + m = e → 0 ≤ k → (∀ i, k ≤ i → i < e → i / 6 = k / 6) → 0 ≤ s → s ≤ 100000000 - 200 * m → m ≤ 6 → fC_ripeLoadOf_L (F + m + 1) 9 [s, e, k] A1 = s + sumP (ripP A2) m k := by
  intro m
  induction m with
  | zero =>
    intro F s k hm k0 hc s0 s1 m6
    rw [fC_ripeLoadOf_L9]
    unfold fC_ripeLoadOf_c9
    simp only [qlet_e]
    rw [if_neg (show ¬ k < e by omega)]
    show s = s + 0
    omega
  | succ m ih =>
    intro F s k hm k0 hc s0 s1 m6
    rw [show F + (m + 1) + 1 = (F + m + 1) + 1 by omega, fC_ripeLoadOf_L9]
    unfold fC_ripeLoadOf_c9
    simp only [qlet_e]
    have hr := h.1 k k0 (by omega)
    have hg := hang_is hr k0 (by omega)
    have hcr := crop_is hr k0 (by omega)
    rw [if_pos (show k < e by omega)]
    show _ = s + (ripP A2 k + sumP (ripP A2) m (k + 1))
    have hnx : ∀ s' : Int, 0 ≤ s' → s' ≤ 100000000 - 200 * m → fC_ripeLoadOf_L (F + m + 1) 9 [s', e, k + 1] A1 = s' + sumP (ripP A2) m (k + 1) := fun s' a b => ih F s' (k + 1) (by omega) (by omega) (fun i i0 i1 => by have := hc i (by omega) i1; have := hc (k + 1) (by omega) (by omega); omega) a b (by omega)
    by_cases q : A2 1 k = 0
    · rw [if_neg (fun z => hg.mp z q)]
      have hz : ∀ i, k ≤ i → i < e → ripP A2 i = 0 := fun i i0 i1 => by
        have := RC_below h (c := k) (i - k).toNat i (by omega) k0 (by omega) (hc i i0 i1) q
        unfold ripP
        rw [if_pos this]
      rw [hz k (Int.le_refl _) (by omega), sumP_0 _ m (k + 1) (fun i i0 i1 => hz i (by omega) (by omega))]
      omega
    · obtain ⟨⟨g6, g7, _⟩, _⟩ := hr.2 q
      obtain ⟨u1, u2, u3, u4, u5⟩ := hb k k0 (by omega) q
      rw [if_pos (hg.mpr q), show wI (k + 1) = k + 1 from wI_id ⟨by omega, by omega⟩]
      by_cases w : A2 7 k = -1
      · have hl : ripP A2 k = 0 := by
          unfold ripP
          rw [if_neg q, if_pos w]
        rw [if_neg (fun z => (hcr.mp z).2 w), hnx s s0 (by omega), hl]
        omega
      · have hk := hbb.1 (A2 7 k) (by omega) (by omega)
        have hl : ripP A2 k = max 0 (A2 12 (A2 7 k) - A2 8 k) := by
          unfold ripP
          rw [if_neg q, if_neg w]
        rw [if_pos (hcr.mpr ⟨q, w⟩), g6, g7, hk.1.2.1, show wI (A2 12 (A2 7 k) - A2 8 k) = A2 12 (A2 7 k) - A2 8 k from wI_id ⟨by omega, by omega⟩, ← hl]
        have hb9 : 0 ≤ ripP A2 k ∧ ripP A2 k ≤ 200 := by rw [hl]; omega
        rw [show wI (s + ripP A2 k) = s + ripP A2 k from wI_id ⟨by omega, by omega⟩, hnx _ (by omega) (by omega)]
        omega
theorem ripeload_is {A1 A2 : qA} (h : RC A1 A2) (hbb : RB A1 A2) (hb : PB A2) {c : Int} (c0 : 0 ≤ c) (c1 : c < 48) : fC_ripeLoadOf c A1 = sumP (ownP A2) (6 - c % 6).toNat c := by
  have hk : ∀ k, 0 ≤ k → k < 6 → 1 ≤ A2 12 k ∧ A2 12 k ≤ 200 := fun k a b => (hbb.1 k a b).2.2.1
  have hz : ∀ d, 0 ≤ d → d < 48 → A2 1 d ≠ 0 → A2 7 d = -1 → A2 8 d = 0 := fun d a b z w => (((h.1 d a b).2 z).2.1 w).1
  have el := lodC_L h hb (e := c - c % 6 + 6) (by omega) (6 - c % 6).toNat (99999 - (6 - c % 6).toNat) 0 c (by omega) c0 (fun i i0 i1 => by omega) (by decide) (by omega) (by omega)
  rw [show 99999 - (6 - c % 6).toNat + (6 - c % 6).toNat + 1 = 100000 by omega, Int.zero_add] at el
  have hlb : ∀ (m : Nat) (k : Int), 0 ≤ k → k + m ≤ 48 → 0 ≤ sumP (lodP A2) m k ∧ sumP (lodP A2) m k ≤ 6001000 * m := by
    intro m
    induction m with
    | zero => intro k _ _; exact ⟨Int.le_refl _, Int.le_refl _⟩
    | succ m ih =>
      intro k k0 k1
      have a := ih (k + 1) (by omega) (by omega)
      have b := (own_s hb hk hz (c := k) k0 (by omega)).2.1
      show 0 ≤ lodP A2 k + sumP (lodP A2) m (k + 1) ∧ lodP A2 k + sumP (lodP A2) m (k + 1) ≤ _
      omega
  have hl6 := hlb (6 - c % 6).toNat c c0 (by omega)
  have er := ripC_L h hbb hb (e := c - c % 6 + 6) (by omega) (6 - c % 6).toNat (99999 - (6 - c % 6).toNat) (sumP (lodP A2) (6 - c % 6).toNat c) c (by omega) c0 (fun i i0 i1 => by omega) (by omega) (by omega) (by omega)
  rw [show 99999 - (6 - c % 6).toNat + (6 - c % 6).toNat + 1 = 100000 by omega] at er
  have e1 : fC_loadOf c A1 = sumP (lodP A2) (6 - c % 6).toNat c := el
  have e2 : fC_ripeLoadOf c A1 = fC_ripeLoadOf_L 100000 9 [fC_loadOf c A1, c - c % 6 + 6, c] A1 := by rw [fC_ripeLoadOf.eq_1]; repeat rw [qlet.eq_1]
  rw [e2, e1, er]
  exact (sumP_add (lodP A2) (ripP A2) (ownP A2) _ c (fun i i0 i1 => (own_s hb hk hz (by omega) (by omega)).1)).symm
/-- the numbers of a planting -/
def pG (A2 : qA) (cc : Int → Int) : qA := fun r i => match r with
  | 0 => cc i
  | 1 => A2 12 i
  | 2 => A2 13 i
  | 3 => A2 16 i
  | 4 => sumP (ownP A2) (6 - i % 6).toNat i
  | 5 => A2 3 i
  | 6 => A2 1 i
  | _ => ownP A2 i
theorem pG_4 (A2 : qA) (cc : Int → Int) {c : Int} (c0 : 0 ≤ c) (c1 : c < 48) : pG A2 cc 4 c = pG A2 cc 7 c + (if c % 6 = 5 then 0 else pG A2 cc 4 (c + 1)) := by
  show sumP (ownP A2) (6 - c % 6).toNat c = ownP A2 c + (if c % 6 = 5 then 0 else sumP (ownP A2) (6 - (c + 1) % 6).toNat (c + 1))
  by_cases q : c % 6 = 5
  · rw [if_pos q, q]
    rfl
  · rw [if_neg q, show (6 - c % 6).toNat = (6 - (c + 1) % 6).toNat + 1 by omega]
    rfl
