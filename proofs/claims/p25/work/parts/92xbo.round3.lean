/-! THE SHORTEST ROUND: the class's row, the reference's table and row -/
theorem ON_k {B : qA} {n : Nat} {c : Int → Int} (h : ON B n c 0) (d : Nat) : ON B n c d := fun D hD hD2 la hla => h D (by omega) hD2 la hla
theorem row_L {n : Nat} {c : Int → Int} {f0 : Int} (hc : cel n c) (n8 : n ≤ 8) (f00 : 0 ≤ f0) (f01 : f0 < 48) : ∀ (m F p k : Nat) (la : Int) (B : qA), m + 1 < F → (n - p) * 12 + (n - k) ≤ m → p < n → itC B n c → AW B n c f0 n → ON B n c 0 → (∀ k : Nat, k < n → B 57 (la * 8 + (k : Int)) = way (stW c n f0 p).2 (c k)) → B 61 (((2 ^ n - 1 - (stW c n f0 p).1 : Nat) : Int) * 9 + la) = TT c n (stW c n f0 p).1 (stW c n f0 p).2 → (∀ p' : Nat, p' < p → B 62 (p' : Int) = c (rowK c n f0 p')) → (k : Int) ≤ rowK c n f0 p → (∀ p' : Nat, p' < n → (fC_findRow_L F 19 [((2 ^ n - 1 : Nat) : Int), ((2 ^ n - 1 - (stW c n f0 p).1 : Nat) : Int), la, (p : Int), 0, (k : Int)] B) 62 (p' : Int) = c (rowK c n f0 p')) ∧ (fC_findRow_L F 19 [((2 ^ n - 1 : Nat) : Int), ((2 ^ n - 1 - (stW c n f0 p).1 : Nat) : Int), la, (p : Int), 0, (k : Int)] B) 61 = B 61
  | _, 0, _, _, _, _, h, _, _, _, _, _, _, _, _, _ => absurd h (Nat.not_lt_zero _)
  | m, F + 1, p, k, la, B, hF, hm, hp, hI, hA, hO, hS, hV, hR, hK => by
    obtain ⟨s1, s2, s3, s4⟩ := stW_ok hc n8 f00 f01 p (by omega)
    have l0 : (stW c n f0 p).1 ≠ 0 := by
      intro z
      rw [z, pcnt_zero] at s2
      omega
    obtain ⟨K, k1, k2, k3, k4, k5⟩ := pk_T hc n8 s1 l0 s3 s4
    have hrow : rowK c n f0 p = (K : Int) := k2
    rw [hrow] at hK
    have hcv := via_is hc n8 hA (d := 2 ^ n - 1 - (stW c n f0 p).1) (by omega) (ON_k hO _) s3 s4 hS
    rw [show 2 ^ n - 1 - (2 ^ n - 1 - (stW c n f0 p).1) = (stW c n f0 p).1 by omega] at hcv
    have bd := TT_bd hc _ s1 _ s3 s4
    have l256 := p2_256 n8 s1
    -- the cell is found: on to the next place
    have next : ∀ w : Int, w = (p : Int) + 1 → (∀ p' : Nat, p' < n → (fC_findRow_L F 6 [((2 ^ n - 1 : Nat) : Int), io ((2 ^ n - 1 - (stW c n f0 p).1 : Nat) : Int) (sl 1 (K : Int)), (K : Int), w] (qu B 62 (p : Int) (B 56 (K : Int)))) 62 (p' : Int) = c (rowK c n f0 p')) ∧ (fC_findRow_L F 6 [((2 ^ n - 1 : Nat) : Int), io ((2 ^ n - 1 - (stW c n f0 p).1 : Nat) : Int) (sl 1 (K : Int)), (K : Int), w] (qu B 62 (p : Int) (B 56 (K : Int)))) 61 = B 61 := by
      intro w hw
      have hd : 2 ^ n - 1 - (stW c n f0 p).1 < 2 ^ n := by omega
      have hb : (2 ^ n - 1 - (stW c n f0 p).1).testBit K = false := by
        have := bt4' n8 s1 k1
        rw [this, k3]
        rfl
      obtain ⟨e1, e2, e3, e4⟩ := bt5 n (by omega) _ (p2_256 n8 hd) hd K k1 hb
      rw [hw, bt2 _ (p2_256 n8 hd) K (by omega), hI.2 K k1, show (p : Int) + 1 = ((p + 1 : Nat) : Int) by omega]
      have st1 : (stW c n f0 (p + 1)).1 = (stW c n f0 p).1 - 2 ^ K := by
        show (stW c n f0 p).1 - 2 ^ (pk (gT c n (stW c n f0 p).1 (stW c n f0 p).2) (stW c n f0 p).1 n).toNat = _
        rw [k2, Int.toNat_natCast]
      have st2 : (stW c n f0 (p + 1)).2 = c K := by
        show c (pk (gT c n (stW c n f0 p).1 (stW c n f0 p).2) (stW c n f0 p).1 n) = _
        rw [k2]
      have sb := sub_bit k3
      have ed : 2 ^ n - 1 - (stW c n f0 (p + 1)).1 = (2 ^ n - 1 - (stW c n f0 p).1 ||| 2 ^ K) := by
        rw [st1]
        omega
      rw [← ed]
      have hI' : itC (qu B 62 (p : Int) (c K)) n c := ⟨by rw [qu_ne (show (55 : Nat) ≠ 62 by decide)]; exact hI.1, fun i hi => by rw [qu_ne (show (56 : Nat) ≠ 62 by decide)]; exact hI.2 i hi⟩
      have hA' : AW (qu B 62 (p : Int) (c K)) n c f0 n := fun x hx => by
        rw [qu_ne (show (57 : Nat) ≠ 62 by decide), qu_ne (show (58 : Nat) ≠ 62 by decide), qu_ne (show (59 : Nat) ≠ 62 by decide), qu_ne (show (60 : Nat) ≠ 62 by decide)]
        exact hA x hx
      have e61 : (qu B 62 (p : Int) (c K)) 61 = B 61 := qu_ne (by decide)
      have hO' : ON (qu B 62 (p : Int) (c K)) n c 0 := fun D hD hD2 la hla => by
        rw [e61]
        exact hO D hD hD2 la hla
      have hR' : ∀ p' : Nat, p' < p + 1 → (qu B 62 (p : Int) (c K)) 62 (p' : Int) = c (rowK c n f0 p') := by
        intro p' hp'
        by_cases z : p' = p
        · rw [z, qu_at, hrow]
        · rw [qu_nj (by omega)]
          exact hR p' (by omega)
      cases F with
      | zero => exfalso; omega
      | succ F =>
        rw [fC_findRow_L6]
        unfold fC_findRow_c6
        simp only [qlet_e]
        rw [hI'.1]
        by_cases q : p + 1 < n
        · obtain ⟨t1, t2, t3, t4⟩ := stW_ok hc n8 f00 f01 (p + 1) (by omega)
          have t0 : (stW c n f0 (p + 1)).1 ≠ 0 := by
            intro z
            rw [z, pcnt_zero] at t2
            omega
          have es : fC_spentOn ((2 ^ n - 1 - (stW c n f0 (p + 1)).1 : Nat) : Int) (qu B 62 (p : Int) (c K)) = 0 := by
            unfold fC_spentOn
            exact spent_L n8 hI'.1 (fun i hi => (hA' i hi).2.2.2.1) _ 8 100000 0 (by decide) (by omega) (by omega)
          obtain ⟨K2, j1, j2, -⟩ := pk_T hc n8 t1 t0 t3 t4
          rw [if_pos (show ((p + 1 : Nat) : Int) < (n : Int) by omega), if_neg (show ¬ ((2 ^ n - 1 - (stW c n f0 (p + 1)).1 : Nat) : Int) = ((2 ^ n - 1 : Nat) : Int) by omega), es]
          have key := row_L hc n8 f00 f01 (m - 2) F (p + 1) 0 (K : Int) (qu B 62 (p : Int) (c K)) (by omega) (by omega) q hI' hA' hO' (fun k hk => by rw [st2]; exact (hA' k hk).1 K k1) (by
            rw [st2, e61, ed]
            have := hO _ (by omega) e2 K e4
            rw [this, e1, st1]
            congr 1
            omega) hR' (by rw [show rowK c n f0 (p + 1) = (K2 : Int) from j2]; omega)
          exact ⟨key.1, key.2.trans e61⟩
        · rw [if_neg (show ¬ ((p + 1 : Nat) : Int) < (n : Int) by omega)]
          exact ⟨fun p' hp' => hR' p' (by omega), e61⟩
    rw [fC_findRow_L19]
    unfold fC_findRow_c19
    simp only [qlet_e]
    rw [hI.1, show wI ((n : Int) - 1) = (n : Int) - 1 from wI_id ⟨by omega, by omega⟩, hV]
    have hw : wI ((p : Int) + 1) = (p : Int) + 1 := wI_id ⟨by omega, by omega⟩
    by_cases q : k + 1 < n
    · rw [if_pos (show (k : Int) < (n : Int) - 1 by omega), hcv k (by omega)]
      by_cases z : k = K
      · subst z
        rw [if_pos k3, if_pos k4]
        exact next _ hw
      · have hne : ¬ ((if (stW c n f0 p).1.testBit k = true then gT c n (stW c n f0 p).1 (stW c n f0 p).2 k else 1000000000) = TT c n (stW c n f0 p).1 (stW c n f0 p).2) := by
          by_cases hb : (stW c n f0 p).1.testBit k = true
          · have := k5 k (by omega) hb
            rw [if_pos hb]
            omega
          · rw [if_neg hb]
            omega
        rw [if_neg hne, show (k : Int) + 1 = ((k + 1 : Nat) : Int) by omega, show wI ((k + 1 : Nat) : Int) = ((k + 1 : Nat) : Int) from wI_id ⟨by omega, by omega⟩]
        cases m with
        | zero => exfalso; omega
        | succ m => exact row_L hc n8 f00 f01 m F p (k + 1) la B (by omega) (by omega) hp hI hA hO hS hV hR (by rw [hrow]; omega)
    · have z : k = K := by omega
      subst z
      rw [if_neg (show ¬ (k : Int) < (n : Int) - 1 by omega)]
      exact next _ hw
theorem row_is {n : Nat} {c : Int → Int} {f0 : Int} (hc : cel n c) (n8 : n ≤ 8) (n1 : 1 ≤ n) (f00 : 0 ≤ f0) (f01 : f0 < 48) {B : qA} (hI : itC B n c) (hA : AW B n c f0 n) (hO : ON B n c 0) (h8 : B 61 8 = TT c n (2 ^ n - 1) f0) : (∀ p' : Nat, p' < n → (fC_findRow ((2 ^ n - 1 : Nat) : Int) B) 62 (p' : Int) = c (rowK c n f0 p')) ∧ (fC_findRow ((2 ^ n - 1 : Nat) : Int) B) 61 = B 61 := by
  have h2 : 2 ^ 1 ≤ 2 ^ n := Nat.pow_le_pow_right (by decide) n1
  have es : fC_spentOn 0 B = 0 := by
    unfold fC_spentOn
    exact spent_L n8 hI.1 (fun i hi => (hA i hi).2.2.2.1) _ 8 100000 0 (by decide) (by omega) (by omega)
  obtain ⟨K2, j1, j2, -⟩ := pk_T hc n8 (show 2 ^ n - 1 < 2 ^ n by omega) (by omega) f00 f01
  unfold fC_findRow
  rw [fC_findRow_L6]
  unfold fC_findRow_c6
  simp only [qlet_e]
  rw [hI.1, if_pos (show (0 : Int) < (n : Int) by omega), if_neg (show ¬ (0 : Int) = ((2 ^ n - 1 : Nat) : Int) by omega), es]
  have key := row_L hc n8 f00 f01 500 99999 0 0 8 B (by decide) (by omega) (by omega) hI hA hO (fun k hk => (hA k hk).2.1) (by
    show B 61 (((2 ^ n - 1 - (2 ^ n - 1) : Nat) : Int) * 9 + 8) = TT c n (2 ^ n - 1) f0
    rw [Nat.sub_self]
    exact h8) (fun p' hp' => absurd hp' (Nat.not_lt_zero _)) (by rw [show rowK c n f0 0 = (K2 : Int) from j2]; omega)
  rw [show (2 ^ n - 1 - (stW c n f0 0).1 : Nat) = 0 from Nat.sub_self _] at key
  exact key
/-! the reference's table -/
def itM (A : qA) (n : Nat) (c : Int → Int) : Prop := A 0 (fd 63) = (n : Int) ∧ ∀ i : Nat, i < n → A 50 (i : Int) = c (i : Int)
def LH (B : qA) (n : Nat) (c : Int → Int) (l : Nat) : Prop := ∀ L : Nat, L < l → ∀ a : Nat, a < n → B 53 (8 * (L : Int) + (a : Int)) = TT c n L (c a)
theorem lays_L {n : Nat} {c : Int → Int} (hc : cel n c) (n8 : n ≤ 8) (n1 : 1 ≤ n) : ∀ (m F l a b : Nat) (B : qA), m + 4 < F → (2 ^ n - l) * 100 + (n - a) * 11 + (n - b) ≤ m → l < 2 ^ n → a < n → b ≤ n → itM B n c → LH B n c l → (∀ a' : Nat, a' < a → B 53 (8 * (l : Int) + (a' : Int)) = TT c n l (c a')) → itM (fM_laysHours_L F 22 [(l : Int), (a : Int), (if l = 0 then 0 else mn (gT c n l (c a)) l b), (b : Int)] B) n c ∧ LH (fM_laysHours_L F 22 [(l : Int), (a : Int), (if l = 0 then 0 else mn (gT c n l (c a)) l b), (b : Int)] B) n c (2 ^ n)
  | _, 0, _, _, _, _, h, _, _, _, _, _, _, _ => absurd h (Nat.not_lt_zero _)
  | m, F + 1, l, a, b, B, hF, hm, hl, ha, hb, hI, hL, hA => by
    have l256 := p2_256 n8 hl
    rw [fM_laysHours_L22]
    unfold fM_laysHours_c22
    simp only [qlet_e]
    rw [hI.1]
    by_cases q : b < n
    · rw [if_pos (show (b : Int) < (n : Int) by omega), show (b : Int) + 1 = ((b + 1 : Nat) : Int) by omega]
      have b1 := bt1 l l256 b (by omega)
      cases m with
      | zero => exfalso; omega
      | succ m =>
        have key := lays_L hc n8 n1 m F l a (b + 1) B (by omega) (by omega) hl ha (by omega) hI hL hA
        cases ht : l.testBit b with
        | false =>
          rw [ht, if_neg (by decide)] at b1
          rw [if_neg (by rw [b1]; decide)]
          rw [mn_s0 ht] at key
          exact key
        | true =>
          have l0 : l ≠ 0 := by
            intro z
            rw [z, Nat.zero_testBit] at ht
            cases ht
          have sb := sub_bit ht
          rw [ht, if_pos rfl] at b1
          rw [if_pos b1, hI.2 a ha, hI.2 b q, wayM (hc a ha).1 (hc b q).1, (bt3 l l256 b (by omega) ht).1, hL _ sb.1 b q, if_neg l0]
          rw [if_neg l0, mn_s1 ht] at key
          exact key
    · have hbn : b = n := by omega
      subst hbn
      rw [if_neg (show ¬ (b : Int) < (b : Int) by omega), show (a : Int) + 1 = ((a + 1 : Nat) : Int) by omega]
      have hv : (if l = 0 then 0 else mn (gT c b l (c a)) l b) = TT c b l (c a) := by
        by_cases z : l = 0
        · rw [if_pos z, z]; rfl
        · rw [if_neg z, TT_s z]
      rw [hv]
      generalize hB : qu B 53 (8 * (l : Int) + (a : Int)) (TT c b l (c a)) = B'
      have e53 : ∀ j, B' 53 j = if j = 8 * (l : Int) + (a : Int) then TT c b l (c a) else B 53 j := by
        intro j; rw [← hB]; simp [qu_is]
      have hI' : itM B' b c := by
        rw [← hB]
        exact ⟨by rw [qu_ne (show (0 : Nat) ≠ 53 by decide)]; exact hI.1, fun i hi => by rw [qu_ne (show (50 : Nat) ≠ 53 by decide)]; exact hI.2 i hi⟩
      have hL' : LH B' b c l := fun L hLl a' ha' => by
        rw [e53, if_neg (by omega)]
        exact hL L hLl a' ha'
      have hA' : ∀ a' : Nat, a' < a + 1 → B' 53 (8 * (l : Int) + (a' : Int)) = TT c b l (c a') := fun a' ha' => by
        by_cases z : a' = a
        · rw [z, e53, if_pos rfl]
        · rw [e53, if_neg (by omega)]
          exact hA a' (by omega)
      obtain ⟨F, rfl⟩ : ∃ F', F = F' + 3 := ⟨F - 3, by omega⟩
      rw [fM_laysHours_L10]
      unfold fM_laysHours_c10
      simp only [qlet_e]
      rw [hI'.1]
      by_cases q2 : a + 1 < b
      · rw [if_pos (show ((a + 1 : Nat) : Int) < (b : Int) by omega)]
        have key := lays_L hc n8 n1 (m - 2) (F + 2) l (a + 1) 0 B' (by omega) (by omega) hl q2 (by omega) hI' hL' hA'
        by_cases z : l = 0
        · rw [if_pos (show (l : Int) = 0 by omega)]
          rw [if_pos z] at key
          exact key
        · rw [if_neg (show ¬ (l : Int) = 0 by omega)]
          rw [if_neg z] at key
          exact key
      · rw [if_neg (show ¬ ((a + 1 : Nat) : Int) < (b : Int) by omega), show (l : Int) + 1 = ((l + 1 : Nat) : Int) by omega, fM_laysHours_L2]
        have hL2 : LH B' b c (l + 1) := fun L hLl a' ha' => by
          by_cases z : L = l
          · rw [z]; exact hA' a' (by omega)
          · exact hL' L (by omega) a' ha'
        unfold fM_laysHours_c2
        simp only [qlet_e]
        rw [hI'.1, (bt6 b (by omega)).1]
        by_cases q3 : l + 1 < 2 ^ b
        · rw [if_pos (show ((l + 1 : Nat) : Int) < ((2 ^ b : Nat) : Int) by omega), fM_laysHours_L10]
          unfold fM_laysHours_c10
          simp only [qlet_e]
          rw [hI'.1, if_pos (show (0 : Int) < (b : Int) by omega), if_neg (show ¬ ((l + 1 : Nat) : Int) = 0 by omega)]
          have key := lays_L hc n8 n1 (m - 4) F (l + 1) 0 0 B' (by omega) (by omega) q3 (by omega) (by omega) hI' hL2 (fun a' ha' => absurd ha' (Nat.not_lt_zero _))
          rw [if_neg (show ¬ l + 1 = 0 by omega)] at key
          exact key
        · rw [if_neg (show ¬ ((l + 1 : Nat) : Int) < ((2 ^ b : Nat) : Int) by omega)]
          rw [show l + 1 = 2 ^ b by omega] at hL2
          exact ⟨hI', hL2⟩
theorem laysH_is {n : Nat} {c : Int → Int} (hc : cel n c) (n8 : n ≤ 8) (n1 : 1 ≤ n) {B : qA} (hI : itM B n c) : itM (fM_laysHours B) n c ∧ LH (fM_laysHours B) n c (2 ^ n) := by
  have h0 : 0 < 2 ^ n := Nat.two_pow_pos n
  have h8 : 2 ^ n ≤ 2 ^ 8 := Nat.pow_le_pow_right (by decide) n8
  unfold fM_laysHours
  rw [fM_laysHours_L2]
  unfold fM_laysHours_c2
  simp only [qlet_e]
  rw [hI.1, (bt6 n (by omega)).1, if_pos (show (0 : Int) < ((2 ^ n : Nat) : Int) by omega), fM_laysHours_L10]
  unfold fM_laysHours_c10
  simp only [qlet_e]
  rw [hI.1, if_pos (show (0 : Int) < (n : Int) by omega), if_pos trivial]
  exact lays_L hc n8 n1 30000 999998 0 0 0 B (by decide) (by omega) h0 (by omega) (by omega) hI (fun L hL => absurd hL (Nat.not_lt_zero _)) (fun a' ha' => absurd ha' (Nat.not_lt_zero _))
/-! the reference's row -/
theorem walk_L {n : Nat} {c : Int → Int} {f0 v : Int} (hc : cel n c) (n8 : n ≤ 8) (f00 : 0 ≤ f0) (f01 : f0 < 48) {B : qA} (hI : itM B n c) (hL : LH B n c (2 ^ n)) : ∀ (m F p b : Nat) (s : Int), m + 1 < F → (n - p) * 12 + (n - b) ≤ m → p < n → b ≤ n → ((p = 0 ∧ s = -1) ∨ (0 < p ∧ s = TT c n (2 ^ n - 1) f0)) → (v = -1 ∨ ((p : Int) ≤ v ∧ v < (n : Int))) → (fM_work_L F 70 [v, ((stW c n f0 p).1 : Int), (stW c n f0 p).2, s, (p : Int), pk (gT c n (stW c n f0 p).1 (stW c n f0 p).2) (stW c n f0 p).1 b, mn (gT c n (stW c n f0 p).1 (stW c n f0 p).2) (stW c n f0 p).1 b, (b : Int)] B).1 = if v = -1 then TT c n (2 ^ n - 1) f0 else c (rowK c n f0 v.toNat)
  | _, 0, _, _, _, h, _, _, _, _, _ => absurd h (Nat.not_lt_zero _)
  | m, F + 1, p, b, s, hF, hm, hp, hb, hs, hv => by
    obtain ⟨s1, s2, s3, s4⟩ := stW_ok hc n8 f00 f01 p (by omega)
    have l0 : (stW c n f0 p).1 ≠ 0 := by
      intro z
      rw [z, pcnt_zero] at s2
      omega
    have l256 := p2_256 n8 s1
    rw [fM_work_L70]
    unfold fM_work_c70
    simp only [qlet_e]
    rw [hI.1]
    by_cases q : b < n
    · rw [if_pos (show (b : Int) < (n : Int) by omega), show (b : Int) + 1 = ((b + 1 : Nat) : Int) by omega]
      have b1 := bt1 _ l256 b (by omega)
      cases m with
      | zero => exfalso; omega
      | succ m =>
        have key := walk_L hc n8 f00 f01 hI hL m F p (b + 1) s (by omega) (by omega) hp (by omega) hs hv
        cases ht : (stW c n f0 p).1.testBit b with
        | false =>
          rw [ht, if_neg (by decide)] at b1
          rw [if_pos b1]
          rw [mn_s0 ht, show pk (gT c n (stW c n f0 p).1 (stW c n f0 p).2) (stW c n f0 p).1 (b + 1) = pk (gT c n (stW c n f0 p).1 (stW c n f0 p).2) (stW c n f0 p).1 b from if_neg (fun z => by rw [ht] at z; exact absurd z.1 (by decide))] at key
          exact key
        | true =>
          have sb := sub_bit ht
          rw [ht, if_pos rfl] at b1
          rw [if_neg (by rw [b1]; decide), hI.2 b q, wayM s3 (hc b q).1, (bt3 _ l256 b (by omega) ht).1, hL _ (by omega) b q]
          have eg : way (stW c n f0 p).2 (c b) + TT c n ((stW c n f0 p).1 - 2 ^ b) (c b) = gT c n (stW c n f0 p).1 (stW c n f0 p).2 b := rfl
          rw [eg]
          by_cases z : gT c n (stW c n f0 p).1 (stW c n f0 p).2 b < mn (gT c n (stW c n f0 p).1 (stW c n f0 p).2) (stW c n f0 p).1 b
          · rw [if_pos z]
            rw [mn_s1 ht, if_neg (show ¬ mn (gT c n (stW c n f0 p).1 (stW c n f0 p).2) (stW c n f0 p).1 b < gT c n (stW c n f0 p).1 (stW c n f0 p).2 b by omega), show pk (gT c n (stW c n f0 p).1 (stW c n f0 p).2) (stW c n f0 p).1 (b + 1) = (b : Int) from if_pos ⟨ht, z⟩] at key
            exact key
          · rw [if_neg z]
            have em : mn (gT c n (stW c n f0 p).1 (stW c n f0 p).2) (stW c n f0 p).1 (b + 1) = mn (gT c n (stW c n f0 p).1 (stW c n f0 p).2) (stW c n f0 p).1 b := by
              rw [mn_s1 ht]
              split <;> omega
            rw [em, show pk (gT c n (stW c n f0 p).1 (stW c n f0 p).2) (stW c n f0 p).1 (b + 1) = pk (gT c n (stW c n f0 p).1 (stW c n f0 p).2) (stW c n f0 p).1 b from if_neg (fun w => z w.2)] at key
            exact key
    · have hbn : b = n := by omega
      subst hbn
      obtain ⟨K, k1, k2, k3, k4, k5⟩ := pk_T hc n8 s1 l0 s3 s4
      have hrow : rowK c b f0 p = (K : Int) := k2
      have st1 : (stW c b f0 (p + 1)).1 = (stW c b f0 p).1 - 2 ^ K := by
        show (stW c b f0 p).1 - 2 ^ (pk (gT c b (stW c b f0 p).1 (stW c b f0 p).2) (stW c b f0 p).1 b).toNat = _
        rw [k2, Int.toNat_natCast]
      have st2 : (stW c b f0 (p + 1)).2 = c K := by
        show c (pk (gT c b (stW c b f0 p).1 (stW c b f0 p).2) (stW c b f0 p).1 b) = _
        rw [k2]
      rw [if_neg (show ¬ (b : Int) < (b : Int) by omega), k2, hI.2 K k1, (bt3 _ l256 K (by omega) k3).1, ← st1, ← st2, show (p : Int) + 1 = ((p + 1 : Nat) : Int) by omega, ← TT_s l0]
      have hend : ∀ s' : Int, s' = TT c b (2 ^ b - 1) f0 → ¬ (p : Int) = v → (fM_work_L F 60 [v, ((stW c b f0 (p + 1)).1 : Int), (stW c b f0 (p + 1)).2, s', ((p + 1 : Nat) : Int)] B).1 = if v = -1 then TT c b (2 ^ b - 1) f0 else c (rowK c b f0 v.toNat) := by
        intro s' hs' hpv
        cases F with
        | zero => exfalso; omega
        | succ F =>
          rw [fM_work_L60]
          unfold fM_work_c60
          simp only [qlet_e]
          rw [hI.1]
          by_cases q2 : p + 1 < b
          · rw [if_pos (show ((p + 1 : Nat) : Int) < (b : Int) by omega)]
            exact walk_L hc n8 f00 f01 hI hL (m - 2) F (p + 1) 0 s' (by omega) (by omega) q2 (by omega) (Or.inr ⟨by omega, hs'⟩) (by omega)
          · rw [if_neg (show ¬ ((p + 1 : Nat) : Int) < (b : Int) by omega), if_pos (show v = -1 by omega)]
            exact hs'
      have hfin : (p : Int) = v → (stW c b f0 (p + 1)).2 = if v = -1 then TT c b (2 ^ b - 1) f0 else c (rowK c b f0 v.toNat) := by
        intro hpv
        rw [if_neg (by omega), ← hpv, Int.toNat_natCast, hrow, st2]
      have bd := TT_bd hc (2 ^ b - 1) (by have : 0 < 2 ^ b := Nat.two_pow_pos b; omega) f0 f00 f01
      rcases hs with ⟨p0, hs⟩ | ⟨p0, hs⟩
      · rw [if_pos hs]
        by_cases hpv : (p : Int) = v
        · rw [if_pos hpv]
          exact hfin hpv
        · rw [if_neg hpv]
          exact hend _ (by rw [p0]; rfl) hpv
      · rw [if_neg (show ¬ s = -1 by omega)]
        by_cases hpv : (p : Int) = v
        · rw [if_pos hpv]
          exact hfin hpv
        · rw [if_neg hpv]
          exact hend _ hs hpv
