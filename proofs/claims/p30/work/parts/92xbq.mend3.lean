/-! WHAT TO MEND FIRST: the reference -/
def itN (A : qA) (n : Nat) (c : Int → Int) : Prop := A 0 (fd 63) = (n : Int) ∧ ∀ i : Nat, i < n → A 50 (i : Int) = c (i : Int)
def inc (n : Nat) (c : Int → Int) : Prop := ∀ i j : Nat, i < j → j < n → c (i : Int) < c (j : Int)
theorem inc_le {n : Nat} {c : Int → Int} (h : inc n c) {i j : Nat} (hij : i ≤ j) (hj : j < n) : c (i : Int) ≤ c (j : Int) := by
  by_cases q : i = j
  · rw [q]; exact Int.le_refl _
  · have := h i j (by omega) hj
    omega
theorem pred_is {n : Nat} {c : Int → Int} (hc : cel n c) (h : inc n c) {i q : Nat} (hi : i < n) (hq : q < n) (e : c (i : Int) = c (q : Int) - 1) (e5 : c (i : Int) % 6 ≠ 5) : hasP c q = true ∧ i = q - 1 := by
  have b := hc i hi
  have b2 := hc q hq
  have hlt : i < q := by
    by_cases w : i < q
    · exact w
    · have := inc_le h (show q ≤ i by omega) hi
      omega
  have h1 := inc_le h (show i ≤ q - 1 by omega) (show q - 1 < n by omega)
  have h2 := h (q - 1) q (by omega) hq
  have hi1 : i = q - 1 := by
    by_cases w : i = q - 1
    · exact w
    · have := h i (q - 1) (by omega) (by omega)
      omega
  rw [show (((q - 1 : Nat)) : Int) = (q : Int) - 1 by omega] at h1 h2
  exact ⟨hasP_t.mpr ⟨by omega, by omega, by omega⟩, hi1⟩
def hE (B : qA) (h : Int → Int) : Prop := ∀ y, 0 ≤ y → y < 8 → B 21 y = h y
theorem hours_L {n : Nat} {c : Int → Int} {A : qA} (n8 : n ≤ 8) (hI : itN A n c) {d : Nat} (hd : d < 256) : ∀ (m F k : Nat), k + m = n → fM_hoursOf2_L (F + m + 1) 4 [(d : Int), hsn c d k, (k : Int)] A = hsn c d n
  | 0, F, k, hm => by
    rw [fM_hoursOf2_L4]
    unfold fM_hoursOf2_c4
    simp only [qlet_e]
    rw [hI.1, if_neg (show ¬ (k : Int) < (n : Int) by omega), show k = n by omega]
  | m + 1, F, k, hm => by
    have b1 := bt1 d hd k (by omega)
    rw [show F + (m + 1) + 1 = (F + m + 1) + 1 by omega, fM_hoursOf2_L4]
    unfold fM_hoursOf2_c4
    simp only [qlet_e]
    rw [hI.1, if_pos (show (k : Int) < (n : Int) by omega), show (k : Int) + 1 = ((k + 1 : Nat) : Int) by omega, hI.2 k (by omega)]
    have ih := hours_L n8 hI hd m F (k + 1) (by omega)
    by_cases q : d.testBit k = true
    · have e : hsn c d (k + 1) = hsn c d k + (1 + c (k : Int) % 6) := by
        show hsn c d k + (if d.testBit k = true then 1 + c (k : Int) % 6 else 0) = _
        rw [if_pos q]
      rw [if_pos q] at b1
      rw [if_pos b1, ← e]
      exact ih
    · have e : hsn c d (k + 1) = hsn c d k := by
        show hsn c d k + (if d.testBit k = true then 1 + c (k : Int) % 6 else 0) = _
        rw [if_neg q, Int.add_zero]
      rw [if_neg q] at b1
      rw [if_neg (by rw [b1]; decide), Int.add_zero]
      rw [e] at ih
      exact ih
theorem hours_is {n : Nat} {c : Int → Int} {A : qA} (n8 : n ≤ 8) (hI : itN A n c) {d : Nat} (hd : d < 256) : fM_hoursOf2 (d : Int) A = hsn c d n := by
  obtain ⟨F, g⟩ : ∃ F : Nat, F + n + 1 = 100000 := ⟨100000 - n - 1, by omega⟩
  have key := hours_L n8 hI hd n F 0 (by omega)
  rw [g] at key
  exact key
theorem cost_is {n : Nat} {c h : Int → Int} {A : qA} (hc : cel n c) (n8 : n ≤ 8) (hI : itN A n c) (h21 : hE A h) {d k : Nat} (hd : d < 256) (hk : k < n) : fM_costBy2 (d : Int) (k : Int) A = cst c h n d k + A 63 ((d ||| 2 ^ k : Nat) : Int) := by
  unfold fM_costBy2
  simp only [qlet_e]
  have cb := hc k hk
  rw [hours_is n8 hI hd, hI.2 k hk, qd_nn cb.1, h21 _ (by omega) (by omega), bt2 d hd k (by omega)]
  rfl
theorem can_L {n : Nat} {c : Int → Int} {A : qA} (hc : cel n c) (n8 : n ≤ 8) (hI : itN A n c) {d q : Nat} (hd : d < 256) (hq : q < n) : ∀ (m F j : Nat), j + m = n → (fM_canBeNext2_L (F + m + 1) 11 [(d : Int), (q : Int), (j : Int)] A = 1 ∧ ∀ i : Nat, j ≤ i → i < n → c (i : Int) = c (q : Int) - 1 → c (i : Int) % 6 ≠ 5 → d.testBit i = true) ∨ (fM_canBeNext2_L (F + m + 1) 11 [(d : Int), (q : Int), (j : Int)] A = 0 ∧ ∃ i : Nat, j ≤ i ∧ i < n ∧ c (i : Int) = c (q : Int) - 1 ∧ c (i : Int) % 6 ≠ 5 ∧ d.testBit i = false)
  | 0, F, j, hm => by
    rw [fM_canBeNext2_L11]
    unfold fM_canBeNext2_c11
    simp only [qlet_e]
    rw [hI.1, if_neg (show ¬ (j : Int) < (n : Int) by omega)]
    exact Or.inl ⟨rfl, fun i i0 i1 => by omega⟩
  | m + 1, F, j, hm => by
    have hj : j < n := by omega
    have b := hc j hj
    have b1 := bt1 d hd j (by omega)
    have ih := can_L hc n8 hI hd hq m F (j + 1) (by omega)
    rw [show F + (m + 1) + 1 = (F + m + 1) + 1 by omega, fM_canBeNext2_L11]
    unfold fM_canBeNext2_c11
    simp only [qlet_e]
    rw [hI.1, if_pos (show (j : Int) < (n : Int) by omega), hI.2 j hj, hI.2 q hq, show (j : Int) + 1 = ((j + 1 : Nat) : Int) by omega, qm_nn b.1]
    have nx : (c (j : Int) = c (q : Int) - 1 → c (j : Int) % 6 ≠ 5 → d.testBit j = true) → (fM_canBeNext2_L (F + m + 1) 11 [(d : Int), (q : Int), ((j + 1 : Nat) : Int)] A = 1 ∧ ∀ i : Nat, j ≤ i → i < n → c (i : Int) = c (q : Int) - 1 → c (i : Int) % 6 ≠ 5 → d.testBit i = true) ∨ (fM_canBeNext2_L (F + m + 1) 11 [(d : Int), (q : Int), ((j + 1 : Nat) : Int)] A = 0 ∧ ∃ i : Nat, j ≤ i ∧ i < n ∧ c (i : Int) = c (q : Int) - 1 ∧ c (i : Int) % 6 ≠ 5 ∧ d.testBit i = false) := fun hjj => by
      rcases ih with ⟨a, e⟩ | ⟨a, i, i0, i1, i2⟩
      · refine Or.inl ⟨a, fun i i0 i1 e1 e2 => ?_⟩
        by_cases w : i = j
        · rw [w] at e1 e2 ⊢
          exact hjj e1 e2
        · exact e i (by omega) i1 e1 e2
      · exact Or.inr ⟨a, i, by omega, i1, i2⟩
    by_cases e1 : c (j : Int) = c (q : Int) - 1
    · rw [if_pos e1]
      by_cases e2 : c (j : Int) % 6 = 5
      · rw [if_pos e2]
        exact nx (fun _ z => absurd e2 z)
      · rw [if_neg e2]
        by_cases w : d.testBit j = true
        · rw [if_pos w] at b1
          rw [if_neg (by rw [b1]; decide)]
          exact nx (fun _ _ => w)
        · have wf : d.testBit j = false := by
            cases hw : d.testBit j
            · rfl
            · exact absurd hw w
          rw [if_neg w] at b1
          rw [if_pos b1]
          exact Or.inr ⟨rfl, j, Nat.le_refl _, hj, e1, e2, wf⟩
    · rw [if_neg e1]
      exact nx (fun z => absurd z e1)
theorem can_is {n : Nat} {c : Int → Int} {A : qA} (hc : cel n c) (hi : inc n c) (n8 : n ≤ 8) (hI : itN A n c) {d q : Nat} (hd : d < 256) (hq : q < n) : fM_canBeNext2 (d : Int) (q : Int) A = if alB c d q = true then 1 else 0 := by
  have b1 := bt1 d hd q (by omega)
  obtain ⟨F, g⟩ : ∃ F : Nat, F + n + 1 = 100000 := ⟨100000 - n - 1, by omega⟩
  have key := can_L hc n8 hI hd hq n F 0 (by omega)
  rw [g, show ((0 : Nat) : Int) = 0 from rfl] at key
  unfold fM_canBeNext2
  simp only [qlet_e]
  by_cases w : d.testBit q = true
  · rw [if_pos w] at b1
    rw [if_pos b1, if_neg (fun z => by have := (alB_t.mp z).1; rw [w] at this; cases this)]
  · have wf : d.testBit q = false := by
      cases hw : d.testBit q
      · rfl
      · exact absurd hw w
    rw [if_neg w] at b1
    rw [if_neg (by rw [b1]; decide)]
    rcases key with ⟨a, e⟩ | ⟨a, i, i0, i1, i2, i3, i4⟩
    · rw [a, if_pos (alB_t.mpr ⟨wf, fun z => by
        obtain ⟨z1, z2, z3⟩ := hasP_t.mp z
        have hb := hc q hq
        refine e (q - 1) (Nat.zero_le _) (by omega) ?_ ?_
        · rw [show (((q - 1 : Nat)) : Int) = (q : Int) - 1 by omega]; exact z3
        · rw [show (((q - 1 : Nat)) : Int) = (q : Int) - 1 by omega]; omega⟩)]
    · obtain ⟨p1, p2⟩ := pred_is hc hi i1 hq i2 i3
      rw [a, if_neg (fun z => by
        have := (alB_t.mp z).2 p1
        rw [← p2, i4] at this
        cases this)]
def LHM (B : qA) (n : Nat) (c h : Int → Int) (d : Int) : Prop := ∀ D : Nat, d < (D : Int) → D < 2 ^ n → B 63 (D : Int) = MM c h n D
def VV (c h : Int → Int) (n d q : Nat) : Int := if d = 2 ^ n - 1 then 0 else mp (gMd c h n d) (alB c d) q
theorem full_al {c : Int → Int} {n q : Nat} (n8 : n ≤ 8) (hq : q < n) : ¬ alB c (2 ^ n - 1) q = true := fun z => by
  have h2 : 2 ^ 1 ≤ 2 ^ n := Nat.pow_le_pow_right (by decide) (show 1 ≤ n by omega)
  have := bt4 n (by omega) 0 (by decide) (by omega) q hq
  rw [Nat.sub_zero, Nat.zero_testBit] at this
  have e := (alB_t.mp z).1
  rw [this] at e
  cases e
theorem tab56 {n : Nat} {c h : Int → Int} {w : Int} (hc : cel n c) (hi : inc n c) (n8 : n ≤ 8) {d : Nat} (hd : d < 2 ^ n) : ∀ (m F q : Nat) (B : qA), q + m = n → itN B n c → hE B h → LHM B n c h (d : Int) → B 63 (d : Int) = VV c h n d q → ∃ B', fM_mended_L (F + m + 1) 56 [w, ((2 ^ n - 1 : Nat) : Int), (d : Int), (q : Int)] B = fM_mended_L F 42 [w, ((2 ^ n - 1 : Nat) : Int), (d : Int) + (-1)] B' ∧ itN B' n c ∧ hE B' h ∧ LHM B' n c h ((d : Int) + (-1))
  | 0, F, q, B, hm, hI, h21, hL, hV => by
    rw [fM_mended_L56]
    unfold fM_mended_c56
    simp only [qlet_e]
    rw [hI.1, if_neg (show ¬ (q : Int) < (n : Int) by omega)]
    refine ⟨B, rfl, hI, h21, fun D hD hD2 => ?_⟩
    by_cases z : D = d
    · rw [z, hV, show q = n by omega]
      unfold VV
      by_cases y : d = 2 ^ n - 1
      · rw [if_pos y, y, MM_0]
      · rw [if_neg y, MM_s n8 (by omega)]
    · exact hL D (by omega) hD2
  | m + 1, F, q, B, hm, hI, h21, hL, hV => by
    have hq : q < n := by omega
    have d256 := p2m n8 hd
    rw [show F + (m + 1) + 1 = (F + m + 1) + 1 by omega, fM_mended_L56]
    unfold fM_mended_c56
    simp only [qlet_e]
    rw [hI.1, if_pos (show (q : Int) < (n : Int) by omega), can_is hc hi n8 hI d256 hq, show (q : Int) + 1 = ((q + 1 : Nat) : Int) by omega]
    by_cases a : alB c d q = true
    · have dn : d ≠ 2 ^ n - 1 := fun z => by rw [z] at a; exact full_al n8 hq a
      obtain ⟨o1, o2⟩ := or_bit n8 hd hq (alB_t.mp a).1
      rw [if_pos a, if_neg (show ¬ (1 : Int) = 0 by decide), cost_is hc n8 hI h21 d256 hq, hL (d ||| 2 ^ q) (by omega) o1]
      have hl : fM_less (B 63 (d : Int)) (cst c h n d q + MM c h n (d ||| 2 ^ q)) B = VV c h n d (q + 1) := by
        unfold fM_less VV
        rw [hV, if_neg dn, mp_s1 a]
        unfold VV
        rw [if_neg dn]
        rfl
      rw [hl]
      have f : frm [63] [] B (qu B 63 (d : Int) (VV c h n d (q + 1))) := frm_q (frm_0 _ _ _) rfl
      exact tab56 hc hi n8 hd m F (q + 1) _ (by omega) ⟨by rw [frm_f f (r := 0) (j := 63) rfl]; exact hI.1, fun i hi => by rw [frm_a f (r := 50) rfl]; exact hI.2 i hi⟩ (by unfold hE; rw [frm_a f (r := 21) rfl]; exact h21) (fun D hD hD2 => by rw [qu_nj (by omega)]; exact hL D hD hD2) (qu_at _ _ _ _)
    · rw [if_neg a, if_pos rfl]
      have af : alB c d q = false := by
        cases ha : alB c d q
        · rfl
        · exact absurd ha a
      exact tab56 hc hi n8 hd m F (q + 1) B (by omega) hI h21 hL (by
        rw [hV]
        unfold VV
        rw [mp_s0 af])
theorem tab42 {n : Nat} {c h : Int → Int} {w : Int} (hc : cel n c) (hi : inc n c) (n8 : n ≤ 8) : ∀ (m F : Nat) (d : Int) (B : qA), d + 1 = m → 12 * m ≤ F → d < ((2 ^ n : Nat) : Int) → itN B n c → hE B h → LHM B n c h d → ∃ F' B', F ≤ F' + 12 * m ∧ fM_mended_L F 42 [w, ((2 ^ n - 1 : Nat) : Int), d] B = fM_mended_L F' 42 [w, ((2 ^ n - 1 : Nat) : Int), -1] B' ∧ itN B' n c ∧ hE B' h ∧ LHM B' n c h (-1)
  | 0, F, d, B, hm, hF, hd, hI, h21, hL => by
    rw [show d = -1 by omega] at hL ⊢
    exact ⟨F, B, by omega, rfl, hI, h21, hL⟩
  | m + 1, F, d, B, hm, hF, hd, hI, h21, hL => by
    obtain ⟨D, rfl⟩ : ∃ D : Nat, d = (D : Int) := ⟨d.toNat, by omega⟩
    have hD : D < 2 ^ n := by omega
    obtain ⟨F2, hF2⟩ : ∃ F2, F = (F2 + n + 1) + 1 := ⟨F - n - 2, by omega⟩
    rw [hF2, fM_mended_L42]
    unfold fM_mended_c42
    simp only [qlet_e]
    have go : ∀ v, v = VV c h n D 0 → ∃ F' B', F2 + n + 1 + 1 ≤ F' + 12 * (m + 1) ∧ fM_mended_L (F2 + n + 1) 56 [w, ((2 ^ n - 1 : Nat) : Int), (D : Int), 0] (qu B 63 (D : Int) v) = fM_mended_L F' 42 [w, ((2 ^ n - 1 : Nat) : Int), -1] B' ∧ itN B' n c ∧ hE B' h ∧ LHM B' n c h (-1) := fun v hv => by
      have f : frm [63] [] B (qu B 63 (D : Int) v) := frm_q (frm_0 _ _ _) rfl
      obtain ⟨C, c1, c2, c3, c4⟩ := tab56 (w := w) (h := h) hc hi n8 hD n F2 0 (qu B 63 (D : Int) v) (by omega) ⟨by rw [frm_f f (r := 0) (j := 63) rfl]; exact hI.1, fun i hi => by rw [frm_a f (r := 50) rfl]; exact hI.2 i hi⟩ (by unfold hE; rw [frm_a f (r := 21) rfl]; exact h21) (fun E hE hE2 => by rw [qu_nj (by omega)]; exact hL E hE hE2) (by rw [qu_at]; exact hv)
      rw [show ((0 : Nat) : Int) = 0 from rfl] at c1
      rw [c1]
      obtain ⟨F3, C2, e0, e1, e2, e3, e4⟩ := tab42 (w := w) hc hi n8 m F2 ((D : Int) + -1) C (by omega) (by omega) (by omega) c2 c3 c4
      exact ⟨F3, C2, by omega, e1, e2, e3, e4⟩
    rw [if_neg (show ¬ (D : Int) < 0 by omega)]
    by_cases z : D = 2 ^ n - 1
    · rw [if_pos (show (D : Int) = ((2 ^ n - 1 : Nat) : Int) by omega)]
      exact go 0 (by unfold VV; rw [if_pos z])
    · have qF : qn 1000000000 = 1000000000 := by decide
      rw [if_neg (show ¬ (D : Int) = ((2 ^ n - 1 : Nat) : Int) by omega), qF]
      exact go 1000000000 (by unfold VV; rw [if_neg z]; rfl)
theorem walk99 {n : Nat} {c h : Int → Int} {B : qA} (hc : cel n c) (hi : inc n c) (hh : hOK h) (n8 : n ≤ 8) (hI : itN B n c) (h21 : hE B h) (hL : LHM B n c h (-1)) {w : Nat} (hw : w < n) : ∀ (m F p q : Nat), (n - p) * 10 + (n - q) ≤ m → 2 * m + 1 < F → p ≤ w → (q : Int) ≤ rwM c h n p → fM_mended_L F 99 [(w : Int), (dnM c h n p : Int), (p : Int), (q : Int)] B = (c (rwM c h n w), B) := by
  intro m
  induction m with
  | zero =>
    intro F p q hm hF hp hq
    exfalso; omega
  | succ m ih =>
    intro F p q hm hF hp hq
    obtain ⟨F, rfl⟩ : ∃ F', F = F' + 1 := ⟨F - 1, by omega⟩
    obtain ⟨s1, s2⟩ := dn_ok hc hh n8 p (by omega)
    have sl := dn_lt hc hh n8 (show p < n by omega)
    have d256 := p2m n8 s1
    obtain ⟨K, k1, k2, k3, k4, k5⟩ := pp_M hc hh n8 sl
    have hrow : rwM c h n p = (K : Int) := k2
    rw [hrow] at hq
    have hqn : q < n := by omega
    rw [fM_mended_L99]
    unfold fM_mended_c99
    simp only [qlet_e]
    rw [can_is hc hi n8 hI d256 hqn, cost_is hc n8 hI h21 d256 hqn, hL (dnM c h n p) (by omega) s1, show (q : Int) + 1 = ((q + 1 : Nat) : Int) by omega, show (p : Int) + 1 = ((p + 1 : Nat) : Int) by omega]
    by_cases a : alB c (dnM c h n p) q = true
    · obtain ⟨o1, o2⟩ := or_bit n8 s1 hqn (alB_t.mp a).1
      have eg : cst c h n (dnM c h n p) q + MM c h n (dnM c h n p ||| 2 ^ q) = gMd c h n (dnM c h n p) q := rfl
      rw [if_pos a, if_neg (show ¬ (1 : Int) = 0 by decide), hL _ (by omega) o1, eg]
      by_cases z : q = K
      · subst z
        rw [if_pos k4]
        by_cases e : p = w
        · subst e
          rw [if_pos rfl, hI.2 q hqn, hrow]
        · have st1 : dnM c h n (p + 1) = (dnM c h n p ||| 2 ^ q) := by
            show dnM c h n p ||| 2 ^ (pp (gMd c h n (dnM c h n p)) (alB c (dnM c h n p)) n).toNat = _
            rw [k2, Int.toNat_natCast]
          rw [if_neg (show ¬ (p : Int) = (w : Int) by omega), bt2 _ d256 q (by omega), ← st1]
          obtain ⟨F, rfl⟩ : ∃ F', F = F' + 1 := ⟨F - 1, by omega⟩
          rw [fM_mended_L94]
          unfold fM_mended_c94
          obtain ⟨K2, j1, j2, -⟩ := pp_M hc hh n8 (show dnM c h n (p + 1) < 2 ^ n - 1 from dn_lt hc hh n8 (by omega))
          rw [if_neg (show ¬ (w : Int) < ((p + 1 : Nat) : Int) by omega)]
          exact ih F (p + 1) 0 (by omega) (by omega) (by omega) (by rw [show rwM c h n (p + 1) = (K2 : Int) from j2]; omega)
      · have := k5 q (by omega) a
        rw [if_neg (show ¬ gMd c h n (dnM c h n p) q = MM c h n (dnM c h n p) by omega)]
        exact ih F p (q + 1) (by omega) (by omega) hp (by rw [hrow]; omega)
    · have z : q ≠ K := fun z => by rw [z] at a; exact a k3
      rw [if_neg a, if_pos rfl]
      exact ih F p (q + 1) (by omega) (by omega) hp (by rw [hrow]; omega)
/-- told cells that hang -/
theorem hang17 {n : Nat} {c : Int → Int} {w : Int} {B : qA} (n8 : n ≤ 8) (hI : itN B n c) : ∀ (m F q : Nat), q + m = n → ((∀ i : Nat, q ≤ i → i < n → B 1 (c (i : Int)) = 0) ∧ fM_mended_L (F + m + 1) 17 [w, (q : Int)] B = fM_mended_L F 42 [w, ((2 ^ n - 1 : Nat) : Int), ((2 ^ n - 1 : Nat) : Int)] B) ∨ ((∃ i : Nat, q ≤ i ∧ i < n ∧ B 1 (c (i : Int)) ≠ 0) ∧ fM_mended_L (F + m + 1) 17 [w, (q : Int)] B = (-3, B))
  | 0, F, q, hm => by
    have h0 : 0 < 2 ^ n := Nat.two_pow_pos n
    rw [fM_mended_L17]
    unfold fM_mended_c17
    simp only [qlet_e]
    rw [hI.1, if_neg (show ¬ (q : Int) < (n : Int) by omega), (bt6 n (by omega)).1, show ((2 ^ n : Nat) : Int) - 1 = ((2 ^ n - 1 : Nat) : Int) by omega]
    exact Or.inl ⟨fun i i0 i1 => by omega, rfl⟩
  | m + 1, F, q, hm => by
    have hq : q < n := by omega
    rw [show F + (m + 1) + 1 = (F + m + 1) + 1 by omega, fM_mended_L17]
    unfold fM_mended_c17
    simp only [qlet_e]
    rw [hI.1, if_pos (show (q : Int) < (n : Int) by omega), hI.2 q hq, show (q : Int) + 1 = ((q + 1 : Nat) : Int) by omega]
    by_cases z : B 1 (c (q : Int)) = 0
    · rw [if_pos z]
      rcases hang17 (w := w) n8 hI m F (q + 1) (by omega) with ⟨a, b⟩ | ⟨⟨i, i0, i1, i2⟩, b⟩
      · refine Or.inl ⟨fun i i0 i1 => ?_, b⟩
        by_cases e : i = q
        · rw [e]; exact z
        · exact a i (by omega) i1
      · exact Or.inr ⟨⟨i, by omega, i1, i2⟩, b⟩
    · rw [if_neg z]
      exact Or.inr ⟨⟨q, Nat.le_refl _, hq, z⟩, rfl⟩
theorem ja_0 {x H : Int} (h0 : 0 ≤ x) (h1 : x < 281474976710656) : ja x H = 0 ↔ ∀ j : Nat, j < 48 → x.toNat.testBit j = true → hbit H (j : Int) = false := by
  rw [ja_bv, bv_toInt0]
  have hx : (BitVec.ofInt 64 x).toNat = x.toNat := by
    rw [BitVec.toNat_ofInt]
    omega
  constructor
  · intro h j hj ht
    have e := congrArg (fun V => BitVec.getLsbD V j) h
    rw [BitVec.getLsbD_and, BitVec.getLsbD_zero, ← BitVec.testBit_toNat, hx, ht, Bool.true_and] at e
    unfold hbit
    rw [Int.toNat_natCast]
    exact e
  · intro h
    apply BitVec.eq_of_getLsbD_eq
    intro i hi
    rw [BitVec.getLsbD_and, BitVec.getLsbD_zero, ← BitVec.testBit_toNat, hx]
    cases ht : x.toNat.testBit i
    · rfl
    · by_cases q : i < 48
      · have := h i q ht
        unfold hbit at this
        rw [Int.toNat_natCast] at this
        rw [this]
        rfl
      · have : x.toNat < 2 ^ i := Nat.lt_of_lt_of_le (show x.toNat < 2 ^ 48 by omega) (Nat.pow_le_pow_right (by decide) (by omega))
        rw [Nat.testBit_lt_two_pow this] at ht
        cases ht
theorem qlp_e2 {β : Type} (p : Int × qA) (f : Int → qA → β) : qlp p f = f p.1 p.2 := (qlp.eq_1 p f).trans (Eq.refl (f p.1 p.2))
theorem frC_tell_L (x : Int) : ∀ (F : Nat) (k : Int) (B : qA), frm [56] [(55, 7)] B (fC_tell_L F 5 [x, k] B)
  | 0, _, _ => frm_0 _ _ _
  | F + 1, k, B => by
    have ih := frC_tell_L x F
    rw [fC_tell_L5]
    unfold fC_tell_c5
    simp only [qlet_e]
    split
    · split
      · exact ih _ _
      · split
        · exact frm_c (frm_qf (frm_q (frm_0 _ _ _) rfl) rfl) (ih _ _) rfl
        · exact ih _ _
    · exact frm_0 _ _ _
theorem mended_R (x w : Int) (hx : rngL x) {A1 A2 : qA} (h : GR A1 A2) (hr : hOK (A1 22)) : (fC_mended x w A1).1 = (fM_mended x w A2).1 := by
  obtain ⟨t1, t2⟩ := toldT_is hx 8 A1
  obtain ⟨l1, l2, l3⟩ := laysU_is (x := x) (T := 8) (by decide) A2
  unfold fC_mended fM_mended
  simp only [qlet_e, qlp_e2]
  by_cases ok : okT x 8
  · obtain ⟨e1, e2⟩ := t1 ok
    obtain ⟨m1, m2, m3⟩ := l2 ok
    obtain ⟨x0, x1, p8⟩ := ok
    rw [e1, m1, if_neg (show ¬ ((pcnt x.toNat 48 : Nat) : Int) < 1 by omega), if_neg (show ¬ (1 : Int) = 0 by decide)]
    generalize (fM_lays2 x 8 A2).2 = M at m2 m3 l3 ⊢
    rw [m2]
    have hcl : ∀ i : Nat, i < pcnt x.toNat 48 → ∃ j : Nat, j < 48 ∧ x.toNat.testBit j = true ∧ M 50 (i : Int) = (j : Int) ∧ pcnt x.toNat j = i := fun i hi => by
      obtain ⟨j, j1, j2, j3⟩ := pcnt_ex (X := x.toNat) 48 i hi
      have e := m3 j j1 j2
      rw [j3] at e
      exact ⟨j, j1, j2, e, j3⟩
    have hc : cel (pcnt x.toNat 48) (M 50) := fun i hi => by
      obtain ⟨j, j1, _, j3, _⟩ := hcl i hi
      rw [j3]
      omega
    have hinc : inc (pcnt x.toNat 48) (M 50) := fun i j ij hj => tld_inj m3 (i : Int) (j : Int) (by omega) (by omega) (by omega)
    have hM : itN M (pcnt x.toNat 48) (M 50) := ⟨m2, fun _ _ => rfl⟩
    have eM1 : M 1 = A2 1 := frm_a l3 rfl
    have hH : (ja x (A1 1 (fd 0)) = 0) ↔ ∀ i : Nat, 0 ≤ i → i < pcnt x.toNat 48 → M 1 (M 50 (i : Int)) = 0 := by
      rw [ja_0 (by omega) x1]
      constructor
      · intro H i _ hi
        obtain ⟨j, j1, j2, j3, _⟩ := hcl i hi
        have g := h.1.1.1 (j : Int) (by omega) (by omega)
        have hb := H j j1 j2
        rw [j3, eM1]
        by_cases z : A2 1 (j : Int) = 0
        · exact z
        · exfalso
          have := (hb_is (show (0 : Int) ≤ (j : Int) by omega) (by omega)).mp (g.mpr z)
          rw [hb] at this
          cases this
      · intro H j j1 j2
        have hi := pcnt_lt j1 j2
        have e := m3 j j1 j2
        have z := H (pcnt x.toNat j) (Nat.zero_le _) hi
        rw [e, eM1] at z
        have g := h.1.1.1 (j : Int) (by omega) (by omega)
        cases hb : hbit (A1 1 (fd 0)) (j : Int)
        · rfl
        · exact absurd z (g.mp ((hb_is (show (0 : Int) ≤ (j : Int) by omega) (by omega)).mpr hb))
    have hn1 : 1 ≤ pcnt x.toNat 48 := by omega
    have hn8 : pcnt x.toNat 48 ≤ 8 := by omega
    by_cases hw : -1 ≤ w ∧ w ≤ ((pcnt x.toNat 48 : Nat) : Int) - 1
    · rw [if_pos hw]
      obtain ⟨F, g⟩ : ∃ F : Nat, F + pcnt x.toNat 48 + 1 = 100000000 := ⟨100000000 - pcnt x.toNat 48 - 1, by omega⟩
      have h17 := hang17 (w := w) hn8 hM (pcnt x.toNat 48) F 0 (by omega)
      rw [g, show ((0 : Nat) : Int) = 0 from rfl] at h17
      rcases h17 with ⟨a, b⟩ | ⟨⟨i, i0, i1, i2⟩, b⟩
      · have hE0 : hE M (A1 22) := fun y y0 y1 => by
          rw [frm_a l3 (r := 21) rfl]
          exact (h.2.1.2.1 y y0 y1).2.2.1.2.symm
        have h20 : 0 < 2 ^ pcnt x.toNat 48 := Nat.two_pow_pos _
        have h28 : 2 ^ pcnt x.toNat 48 ≤ 2 ^ 8 := Nat.pow_le_pow_right (by decide) hn8
        rw [if_pos (jc_0.mpr (hH.mpr a)), if_neg (show ¬ w < -1 by omega), if_pos (show w < ((pcnt x.toNat 48 : Nat) : Int) by omega), b]
        obtain ⟨F1, B', f0, f1, f2, f3, f4⟩ := tab42 (w := w) (h := A1 22) hc hinc hn8 (2 ^ pcnt x.toNat 48) F ((2 ^ pcnt x.toNat 48 - 1 : Nat) : Int) M (by omega) (by omega) (by omega) hM hE0 (fun D hD hD2 => by omega)
        rw [f1]
        obtain ⟨F2, g2⟩ : ∃ F2, F1 = F2 + 1 + 1 := ⟨F1 - 2, by omega⟩
        rw [g2, fM_mended_L42]
        unfold fM_mended_c42
        simp only [qlet_e]
        rw [if_pos (show (-1 : Int) < 0 by decide)]
        have tC := tellC_L (x := x) (by omega) x1 hn8 48 100000 0 (qu A1 55 (fd 7) 0) (by decide) (by omega) (by omega) (by rw [qu_at]; rfl) (fun j hj => absurd hj (Nat.not_lt_zero j))
        have eT : fC_tell x A1 = fC_tell_L 100000 5 [x, 0] (qu A1 55 (fd 7) 0) := (fC_tell.eq_1 x A1).trans (qlet.eq_1 _ _)
        have fT : frm [56] [(55, 7)] A1 (fC_tell x A1) := by
          rw [eT]
          exact frm_c (frm_qf (frm_0 _ _ _) rfl) (frC_tell_L x _ _ _) rfl
        rw [show ((0 : Nat) : Int) = 0 from rfl, ← eT] at tC
        have iC : itC (fC_tell x A1) (pcnt x.toNat 48) (M 50) := by
          refine ⟨tC.1, fun i hi => ?_⟩
          obtain ⟨j, j1, j2, j3, j4⟩ := hcl i hi
          have u := tC.2 j j1 j2
          rw [j4] at u
          rw [j3]
          exact u
        obtain ⟨iC2, aC⟩ := asMend_is (h := A1 22) hc hn8 iC (frm_a fT rfl)
        obtain ⟨B2, sC, iC3, aC3, oC, h8⟩ := solveM_is hc hr hn8 hn1 iC2 aC
        obtain ⟨rC, rE⟩ := rowM_is hc hr hn8 hn1 iC3 aC3 oC h8
        rw [sC]
        by_cases w1 : w = -1
        · rw [if_pos w1, if_pos w1]
          show (fC_findRow ((2 ^ pcnt x.toNat 48 - 1 : Nat) : Int) B2) 61 8 = B' 63 0
          rw [rE, h8]
          exact (f4 0 (by decide) h20).symm
        · rw [if_neg w1, if_neg w1, fM_mended_L94]
          unfold fM_mended_c94 fC_cellAt
          simp only [qlet_e]
          rw [if_neg (show ¬ w < 0 by omega), if_pos (show 0 ≤ w ∧ w ≤ 7 by omega)]
          obtain ⟨K2, j1, j2, -⟩ := pp_M hc hr hn8 (show dnM (M 50) (A1 22) (pcnt x.toNat 48) 0 < 2 ^ pcnt x.toNat 48 - 1 from dn_lt hc hr hn8 hn1)
          have wk := walk99 hc hinc hr hn8 f2 f3 f4 (w := w.toNat) (by omega) 200 F2 0 0 (by omega) (by omega) (by omega) (by rw [show rwM (M 50) (A1 22) (pcnt x.toNat 48) 0 = (K2 : Int) from j2]; omega)
          have ew : ((w.toNat : Nat) : Int) = w := by omega
          rw [ew] at wk
          have wk : fM_mended_L F2 99 [w, 0, 0, 0] B' = (M 50 (rwM (M 50) (A1 22) (pcnt x.toNat 48) w.toNat), B') := wk
          rw [wk]
          have u := rC w.toNat (by omega)
          rw [ew] at u
          exact u
      · rw [b, if_neg (fun z => i2 (hH.mp (jc_0.mp z) i i0 i1))]
    · rw [if_neg hw]
      by_cases z : jc (ja x (A1 1 (fd 0))) 0 = 0
      · rw [if_pos z]
        by_cases w1 : w < -1
        · rw [if_pos w1]
        · rw [if_neg w1, if_neg (show ¬ w < ((pcnt x.toNat 48 : Nat) : Int) by omega)]
      · rw [if_neg z]
  · rw [if_pos (t2 ok), l1 ok, if_pos rfl]
