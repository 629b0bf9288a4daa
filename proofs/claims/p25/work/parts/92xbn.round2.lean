/-! THE SHORTEST ROUND: the class's table of what is left -/
/-- from done d on (d itself left out) the table holds what is left -/
def ON (B : qA) (n : Nat) (c : Int → Int) (d : Nat) : Prop := ∀ D : Nat, d < D → D < 2 ^ n → ∀ la : Nat, D.testBit la = true → B 61 ((D : Int) * 9 + (la : Int)) = TT c n (2 ^ n - 1 - D) (c la)
theorem p2_256 {n d : Nat} (n8 : n ≤ 8) (hd : d < 2 ^ n) : d < 256 := Nat.lt_of_lt_of_le hd (show 2 ^ n ≤ 2 ^ 8 from Nat.pow_le_pow_right (by decide) n8)
theorem bt4' {n d b : Nat} (n8 : n ≤ 8) (hd : d < 2 ^ n) (hb : b < n) : (2 ^ n - 1 - d).testBit b = !d.testBit b := bt4 n (by omega) d (p2_256 n8 hd) hd b hb
theorem via_is {B : qA} {n : Nat} {c : Int → Int} {f0 : Int} (hc : cel n c) (n8 : n ≤ 8) (hA : AW B n c f0 n) {d : Nat} (hd : d < 2 ^ n) (hO : ON B n c d) {la f : Int} (f0' : 0 ≤ f) (f1 : f < 48) (hla : ∀ k : Nat, k < n → B 57 (la * 8 + (k : Int)) = way f (c k)) : ∀ k : Nat, k < n → fC_costVia (d : Int) la (k : Int) 0 B = if (2 ^ n - 1 - d).testBit k = true then gT c n (2 ^ n - 1 - d) f k else 1000000000 := by
  intro k hk
  rw [costVia_is n8 hA (p2_256 n8 hd) hk, bt4' n8 hd hk]
  cases hb : d.testBit k with
  | true => rw [if_pos rfl, if_neg (by decide)]
  | false =>
    obtain ⟨e1, e2, e3, e4⟩ := bt5 n (by omega) d (p2_256 n8 hd) hd k hk hb
    have w := way_bd f0' f1 (hc k hk).1 (hc k hk).2
    have b := TT_bd hc (2 ^ n - 1 - (d ||| 2 ^ k)) (by omega) (c k) (hc k hk).1 (hc k hk).2
    have l256 := p2_256 n8 (show 2 ^ n - 1 - (d ||| 2 ^ k) < 2 ^ n by omega)
    rw [if_neg (show ¬ (false = true) by decide), if_pos (show (!false) = true from rfl), hla k hk, hO _ e3 e2 k e4, wI_id ⟨by omega, by omega⟩, e1]
    rfl
theorem least_is {B : qA} {n : Nat} {c : Int → Int} {f0 : Int} (hc : cel n c) (n8 : n ≤ 8) (hI : itC B n c) (hA : AW B n c f0 n) {d : Nat} (hd : d < 2 ^ n - 1) (hO : ON B n c d) {la f : Int} (f0' : 0 ≤ f) (f1 : f < 48) (hla : ∀ k : Nat, k < n → B 57 (la * 8 + (k : Int)) = way f (c k)) : fC_leastOnward (d : Int) la 0 B = TT c n (2 ^ n - 1 - d) f := by
  unfold fC_leastOnward
  rw [show qn 1000000000 = mn (gT c n (2 ^ n - 1 - d) f) (2 ^ n - 1 - d) 0 from rfl, TT_s (by omega)]
  exact least_L (l := 2 ^ n - 1 - d) n8 hI.1 (via_is hc n8 hA (by omega) hO f0' f1 hla) 8 100000 0 (by decide) (by omega) (by omega)
/-- the loop over the last of what is done; then the next d below -/
theorem solve_L {n : Nat} {c : Int → Int} {f0 : Int} (hc : cel n c) (n8 : n ≤ 8) (n1 : 1 ≤ n) (f00 : 0 ≤ f0) (f01 : f0 < 48) : ∀ (m F d l : Nat) (B : qA), m + 1 < F → d * 12 + (9 - l) ≤ m → d < 2 ^ n → l ≤ 9 → itC B n c → AW B n c f0 n → ON B n c d → (∀ la : Nat, la < l → d.testBit la = true → B 61 ((d : Int) * 9 + (la : Int)) = TT c n (2 ^ n - 1 - d) (c la)) → (d = 0 → l = 9 → B 61 8 = TT c n (2 ^ n - 1) f0) → ∃ B', fC_solve_L F 17 [((2 ^ n - 1 : Nat) : Int), (d : Int), 0, (l : Int)] B = fC_findRow ((2 ^ n - 1 : Nat) : Int) B' ∧ itC B' n c ∧ AW B' n c f0 n ∧ ON B' n c 0 ∧ B' 61 8 = TT c n (2 ^ n - 1) f0
  | _, 0, _, _, _, h, _, _, _, _, _, _, _, _ => absurd h (Nat.not_lt_zero _)
  | m, F + 1, d, l, B, hF, hm, hd, hl, hI, hA, hO, hR, hZ => by
    have d256 := p2_256 n8 hd
    have a256 := p2_256 n8 (show 2 ^ n - 1 < 2 ^ n by omega)
    -- one store and on
    have store : ∀ v : Int, l < 9 → (d.testBit l = true → v = TT c n (2 ^ n - 1 - d) (c l)) → (d = 0 → l = 8 → v = TT c n (2 ^ n - 1) f0) → (d ≠ 0 ∨ l = 8) → ∃ B', fC_solve_L F 17 [((2 ^ n - 1 : Nat) : Int), (d : Int), 0, ((l + 1 : Nat) : Int)] (qu B 61 ((d : Int) * 9 + (l : Int)) v) = fC_findRow ((2 ^ n - 1 : Nat) : Int) B' ∧ itC B' n c ∧ AW B' n c f0 n ∧ ON B' n c 0 ∧ B' 61 8 = TT c n (2 ^ n - 1) f0 := by
      intro v hl9 hv hv0 _
      cases m with
      | zero => exfalso; omega
      | succ m =>
        refine solve_L hc n8 n1 f00 f01 m F d (l + 1) _ (by omega) (by omega) hd (by omega) ⟨?_, fun i hi => ?_⟩ (fun x hx => ?_) (fun D hD hD2 la hla => ?_) (fun la hla ht => ?_) (fun z1 z2 => ?_)
        · rw [qu_ne (show (55 : Nat) ≠ 61 by decide)]; exact hI.1
        · rw [qu_ne (show (56 : Nat) ≠ 61 by decide)]; exact hI.2 i hi
        · rw [qu_ne (show (57 : Nat) ≠ 61 by decide), qu_ne (show (58 : Nat) ≠ 61 by decide), qu_ne (show (59 : Nat) ≠ 61 by decide), qu_ne (show (60 : Nat) ≠ 61 by decide)]
          exact hA x hx
        · have := bit_lt hD2 hla
          rw [qu_nj (by omega)]
          exact hO D hD hD2 la hla
        · by_cases q : la = l
          · subst q
            rw [qu_at]
            exact hv ht
          · rw [qu_nj (by omega)]
            exact hR la (by omega) ht
        · have : l = 8 := by omega
          subst this
          subst z1
          rw [show ((0 : Nat) : Int) * 9 + ((8 : Nat) : Int) = 8 from rfl, qu_at]
          exact hv0 rfl rfl
    have skip : l < 9 → d.testBit l = false → (d = 0 → l ≠ 8) → ∃ B', fC_solve_L F 17 [((2 ^ n - 1 : Nat) : Int), (d : Int), 0, ((l + 1 : Nat) : Int)] B = fC_findRow ((2 ^ n - 1 : Nat) : Int) B' ∧ itC B' n c ∧ AW B' n c f0 n ∧ ON B' n c 0 ∧ B' 61 8 = TT c n (2 ^ n - 1) f0 := by
      intro hl9 hb h8
      cases m with
      | zero => exfalso; omega
      | succ m =>
        refine solve_L hc n8 n1 f00 f01 m F d (l + 1) B (by omega) (by omega) hd (by omega) hI hA hO (fun la hla ht => ?_) (fun z1 z2 => absurd (show l = 8 by omega) (h8 z1))
        by_cases q : la = l
        · rw [q, hb] at ht; cases ht
        · exact hR la (by omega) ht
    rw [fC_solve_L17]
    unfold fC_solve_c17
    simp only [qlet_e]
    by_cases q : l < 9
    · rw [if_pos (show (l : Int) < 9 by omega), show (l : Int) + 1 = ((l + 1 : Nat) : Int) by omega, show wI ((l + 1 : Nat) : Int) = ((l + 1 : Nat) : Int) from wI_id ⟨by omega, by omega⟩]
      by_cases d0 : d = 0
      · subst d0
        rw [if_pos (show ((0 : Nat) : Int) = 0 from rfl)]
        by_cases l8 : l = 8
        · subst l8
          have ha : ¬ (((0 : Nat) : Int) = ((2 ^ n - 1 : Nat) : Int)) := by
            have : 2 ^ 1 ≤ 2 ^ n := Nat.pow_le_pow_right (by decide) n1
            omega
          rw [if_pos (show ((8 : Nat) : Int) = 8 from rfl), if_neg ha]
          exact store _ (by decide) (fun z => absurd z (by decide)) (fun _ _ => by
            have h2 : 2 ^ 1 ≤ 2 ^ n := Nat.pow_le_pow_right (by decide) n1
            have e := least_is (la := ((8 : Nat) : Int)) hc n8 hI hA (d := 0) (by omega) hO f00 f01 (fun k hk => (hA k hk).2.1)
            exact e) (Or.inr rfl)
        · rw [if_neg (show ¬ (l : Int) = 8 by omega)]
          exact skip q (Nat.zero_testBit l) (fun _ => l8)
      · rw [if_neg (show ¬ (d : Int) = 0 by omega)]
        have b1 := bt1 d d256 l q
        cases hb : d.testBit l with
        | false =>
          rw [hb, if_neg (by decide)] at b1
          rw [if_pos b1]
          exact skip q hb (fun z => absurd z d0)
        | true =>
          rw [hb, if_pos rfl] at b1
          rw [if_neg (by rw [b1]; decide)]
          have hln := bit_lt hd hb
          by_cases da : d = 2 ^ n - 1
          · rw [if_pos (show (d : Int) = ((2 ^ n - 1 : Nat) : Int) by omega)]
            exact store 0 q (fun _ => by rw [da, Nat.sub_self]; rfl) (fun z => absurd z d0) (Or.inl d0)
          · rw [if_neg (show ¬ (d : Int) = ((2 ^ n - 1 : Nat) : Int) by omega)]
            exact store _ q (fun _ => least_is hc n8 hI hA (by omega) hO (hc l hln).1 (hc l hln).2 (fun k hk => (hA k hk).1 l hln)) (fun z => absurd z d0) (Or.inl d0)
    · rw [if_neg (show ¬ (l : Int) < 9 by omega)]
      cases F with
      | zero => exfalso; omega
      | succ F =>
        by_cases d0 : d = 0
        · subst d0
          rw [show ((0 : Nat) : Int) + -1 = -1 from rfl, show wI (-1) = -1 from wI_id ⟨by decide, by decide⟩, fC_solve_L9]
          unfold fC_solve_c9
          simp only [qlet_e]
          rw [if_pos (by decide)]
          exact ⟨B, rfl, hI, hA, hO, hZ rfl (by omega)⟩
        · rw [show (d : Int) + -1 = ((d - 1 : Nat) : Int) by omega, show wI ((d - 1 : Nat) : Int) = ((d - 1 : Nat) : Int) from wI_id ⟨by omega, by omega⟩, fC_solve_L9]
          unfold fC_solve_c9
          simp only [qlet_e]
          have es : fC_spentOn ((d - 1 : Nat) : Int) B = 0 := by
            unfold fC_spentOn
            exact spent_L n8 hI.1 (fun i hi => (hA i hi).2.2.2.1) _ 8 100000 0 (by decide) (by omega) (by omega)
          rw [if_neg (show ¬ ((d - 1 : Nat) : Int) < 0 by omega), es]
          have key := solve_L hc n8 n1 f00 f01 (m - 2) F (d - 1) 0 B (by omega) (by omega) (by omega) (by omega) hI hA (fun D hD hD2 la hla => by
            by_cases z : D = d
            · subst z
              have := bit_lt hD2 hla
              exact hR la (by omega) hla
            · exact hO D (by omega) hD2 la hla) (fun la hla => absurd hla (Nat.not_lt_zero _)) (fun _ z => absurd z (by decide))
          exact key
theorem solve_is {n : Nat} {c : Int → Int} {f0 : Int} (hc : cel n c) (n8 : n ≤ 8) (n1 : 1 ≤ n) (f00 : 0 ≤ f0) (f01 : f0 < 48) {B : qA} (hI : itC B n c) (hA : AW B n c f0 n) : ∃ B', fC_solve B = fC_findRow ((2 ^ n - 1 : Nat) : Int) B' ∧ itC B' n c ∧ AW B' n c f0 n ∧ ON B' n c 0 ∧ B' 61 8 = TT c n (2 ^ n - 1) f0 := by
  have h2 : 2 ^ 1 ≤ 2 ^ n := Nat.pow_le_pow_right (by decide) n1
  have a256 := p2_256 n8 (show 2 ^ n - 1 < 2 ^ n by omega)
  unfold fC_solve
  simp only [qlet_e]
  rw [hI.1, (bt6 n (by omega)).1, show ((2 ^ n : Nat) : Int) - 1 = ((2 ^ n - 1 : Nat) : Int) by omega, show wI ((2 ^ n - 1 : Nat) : Int) = ((2 ^ n - 1 : Nat) : Int) from wI_id ⟨by omega, by omega⟩, fC_solve_L9]
  unfold fC_solve_c9
  simp only [qlet_e]
  have es : fC_spentOn ((2 ^ n - 1 : Nat) : Int) B = 0 := by
    unfold fC_spentOn
    exact spent_L n8 hI.1 (fun i hi => (hA i hi).2.2.2.1) _ 8 100000 0 (by decide) (by omega) (by omega)
  rw [if_neg (show ¬ ((2 ^ n - 1 : Nat) : Int) < 0 by omega), es]
  exact solve_L hc n8 n1 f00 f01 4000 99999 (2 ^ n - 1) 0 B (by decide) (by omega) (by omega) (by omega) hI hA (fun D hD hD2 => absurd hD2 (by omega)) (fun la hla => absurd hla (Nat.not_lt_zero _)) (fun _ z => absurd z (by decide))
/-! the row -/
/-- where the row stands after p cells: what is left, where one is -/
def stW (c : Int → Int) (n : Nat) (f0 : Int) : Nat → Nat × Int
  | 0 => (2 ^ n - 1, f0)
  | p + 1 => ((stW c n f0 p).1 - 2 ^ (pk (gT c n (stW c n f0 p).1 (stW c n f0 p).2) (stW c n f0 p).1 n).toNat, c (pk (gT c n (stW c n f0 p).1 (stW c n f0 p).2) (stW c n f0 p).1 n))
def rowK (c : Int → Int) (n : Nat) (f0 : Int) (p : Nat) : Int := pk (gT c n (stW c n f0 p).1 (stW c n f0 p).2) (stW c n f0 p).1 n
theorem stW_ok {c : Int → Int} {n : Nat} {f0 : Int} (hc : cel n c) (n8 : n ≤ 8) (f00 : 0 ≤ f0) (f01 : f0 < 48) : ∀ p, p ≤ n → (stW c n f0 p).1 < 2 ^ n ∧ pcnt (stW c n f0 p).1 8 + p = n ∧ 0 ≤ (stW c n f0 p).2 ∧ (stW c n f0 p).2 < 48 := by
  intro p
  induction p with
  | zero =>
    intro _
    have h2 : 0 < 2 ^ n := Nat.two_pow_pos n
    have b6 := (bt6 n (by omega)).2
    exact ⟨by show 2 ^ n - 1 < 2 ^ n; omega, by show pcnt (2 ^ n - 1) 8 + 0 = n; omega, f00, f01⟩
  | succ p ih =>
    intro hp
    obtain ⟨a1, a2, a3, a4⟩ := ih (by omega)
    have h0 : (stW c n f0 p).1 ≠ 0 := by
      intro z
      rw [z, pcnt_zero] at a2
      omega
    obtain ⟨k, k1, k2, k3, k4, k5⟩ := pk_T hc n8 a1 h0 a3 a4
    have s := sub_bit k3
    have b3 := (bt3 _ (p2_256 n8 a1) k (by omega) k3).2
    show (stW c n f0 p).1 - 2 ^ (pk (gT c n (stW c n f0 p).1 (stW c n f0 p).2) (stW c n f0 p).1 n).toNat < 2 ^ n ∧ pcnt ((stW c n f0 p).1 - 2 ^ (pk (gT c n (stW c n f0 p).1 (stW c n f0 p).2) (stW c n f0 p).1 n).toNat) 8 + (p + 1) = n ∧ 0 ≤ c (pk (gT c n (stW c n f0 p).1 (stW c n f0 p).2) (stW c n f0 p).1 n) ∧ c (pk (gT c n (stW c n f0 p).1 (stW c n f0 p).2) (stW c n f0 p).1 n) < 48
    rw [k2, Int.toNat_natCast]
    exact ⟨by omega, by omega, (hc k k1).1, (hc k k1).2⟩
