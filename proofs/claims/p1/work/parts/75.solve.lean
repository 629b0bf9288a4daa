/-! THE CLASS: solving, and the row -/
def vld (e l : Nat) : Prop := (e = 0 ∧ l = 8) ∨ (e ≠ 0 ∧ e.testBit l = true)
def onw (cs : Nat → Nat) (n : Nat) (A : Nat → Int → Int) (m l : Nat) : Prop := ∀ e l' : Nat, e < 2 ^ n → l' < 9 → vld e l' → (m < e ∨ (m = e ∧ l' < l)) → A 61 ((e : Int) * 9 + (l' : Nat)) = (kK cs n e : Nat)
theorem stC_u {cs : Nat → Nat} {n : Nat} {A : Nat → Int → Int} {a : Nat} {z v : Int} (S : stC cs n A) (ha : a = 61 ∨ a = 62) : stC cs n (u2 A a z v) := by
  obtain ⟨s1, s2, s3, s4, s5⟩ := S
  refine ⟨fun j hj => ?_, fun j => ?_, fun j hj => ?_, fun j hj => ?_, fun j hj => ?_⟩
  · rw [u2_ne (by omega)]; exact s1 j hj
  · rw [u2_ne (by omega)]; exact s2 j
  · rw [u2_ne (by omega)]; exact s3 j hj
  · rw [u2_ne (by omega)]; exact s4 j hj
  · rw [u2_ne (by omega)]; exact s5 j hj
theorem or_bit (d q : Nat) : (d ||| 2 ^ q) ≠ 0 ∧ (d ||| 2 ^ q).testBit q = true := by
  have h1 : (d ||| 2 ^ q).testBit q = true := by rw [Nat.testBit_or, Nat.testBit_two_pow_self, Bool.or_true]
  refine ⟨fun e => ?_, h1⟩
  rw [e, Nat.zero_testBit] at h1
  cases h1
theorem pkP_iff {cs : Nat → Nat} {n d q : Nat} (hn : n < 9) (hd : d < 2 ^ n) : via cs n (kK cs n) d q = kK cs n d ↔ pkP cs n d q = true := by
  have h2 := kK_lt (cs := cs) hn _ d (Nat.le_refl _) hd
  have hp := pow8 hn
  unfold pkP
  cases hc : can cs d q with
  | true => simp
  | false =>
    have e : via cs n (kK cs n) d q = mF := by unfold via; rw [hc]; rfl
    rw [e]
    unfold mF
    simp only [Bool.false_and]
    constructor
    · intro q; omega
    · intro q; cases q
/-- what is reckoned, found -/
def rowC (cs : Nat → Nat) (n : Nat) (A : Nat → Int → Int) (p : Nat) : Prop := ∀ i : Nat, i < p → A 62 i = (cs (pk cs n (dD cs n i)) : Nat)
def endC (cs : Nat → Nat) (n : Nat) (h : pv_H) : Prop := ∃ A, hp (oC n) lC 79 h A ∧ A 61 8 = (kK cs n 0 : Nat) ∧ rowC cs n A n
section CD
variable {D : Nat} {cs : Nat → Nat} {n : Nat}
theorem findRow_C (hn : n < 9) {h : pv_H} {A : Nat → Int → Int} (H : hp (oC n) lC 79 h A) (S : stC cs n A) (hO : ∀ e l' : Nat, e < 2 ^ n → l' < 9 → vld e l' → A 61 ((e : Int) * 9 + (l' : Nat)) = (kK cs n e : Nat)) : wR (D + 2) 71 [.ref 55, .int (Int32.ofInt ((2 ^ n - 1 : Nat) : Int))] h (vd (endC cs n)) := by
  have hp8 := pow8 hn
  refine wR_in (M := mX6_findRow) rfl (Nat.le_of_ble_eq_true rfl) ?_
  refine wG_step rfl rfl rfl rfl ?_
  refine wG_step rfl rfl rfl rfl ?_
  refine wG_bip rfl rfl ?_
  refine wG_step rfl rfl rfl rfl ?_
  refine wG_step rfl rfl rfl rfl ?_
  refine wG_step rfl rfl rfl rfl ?_
  have lp : ∀ (m p l : Nat) (h : pv_H) (A : Nat → Int → Int), p + m = n → l < 9 → vld (dD cs n p) l → hp (oC n) lC 79 h A → stC cs n A → (∀ e l' : Nat, e < 2 ^ n → l' < 9 → vld e l' → A 61 ((e : Int) * 9 + (l' : Nat)) = (kK cs n e : Nat)) → rowC cs n A p → wG (D + 1) rX6_findRow 6 [(0, .ref 55), (1, .int (Int32.ofInt ((2 ^ n - 1 : Nat) : Int))), (2, .int (Int32.ofInt (dD cs n p : Nat))), (3, .int (Int32.ofInt (l : Nat))), (4, .int (Int32.ofInt (p : Nat)))] [] h (vd (endC cs n)) := by
    intro m
    induction m with
    | zero =>
      intro p l h A hp hl hv H S hO hR
      have : p = n := by omega
      subst this
      refine wG_step rfl rfl rfl rfl ?_
      refine wG_step rfl rfl rfl rfl ?_
      refine wG_fld H 3 rfl rfl rfl ?_
      refine wG_c2t rfl (rng_n (by omega)) (rng_n (by omega)) (Int.le_refl _) ?_
      refine wG_ret rfl rfl ?_
      refine ⟨rfl, A, H, ?_, hR⟩
      exact hO 0 8 (by omega) (by omega) (Or.inl ⟨rfl, rfl⟩)
    | succ m ih =>
      intro p l h A hp hl hv H S hO hR
      obtain ⟨hd, hpop⟩ := dD_is (cs := cs) hn p (by omega)
      have hd2 := dD_lt (cs := cs) hn (p := p) (by omega)
      obtain ⟨k1, k2, k3⟩ := pk_is (cs := cs) hn hd2
      refine wG_step rfl rfl rfl rfl ?_
      refine wG_step rfl rfl rfl rfl ?_
      refine wG_fld H 3 rfl rfl rfl ?_
      refine wG_c2f rfl (rng_n (by omega)) (rng_n (by omega)) (by show ¬ (n : Int) ≤ p; omega) ?_
      refine wG_step rfl rfl rfl rfl ?_
      refine wG_step rfl rfl rfl rfl ?_
      refine wG_c2f rfl (rng_n (by omega)) (rng_n (by omega)) (by show ¬ (_ : Int) = _; omega) ?_
      refine wG_step rfl rfl rfl rfl ?_
      refine wG_step rfl rfl rfl rfl ?_
      refine wG_cvV H 3 rfl rfl rfl (Nat.le_of_ble_eq_true rfl) (spentOn_C H S hn hd) ?_
      refine wG_step rfl rfl rfl rfl ?_
      refine wG_step rfl rfl rfl rfl ?_
      refine wG_step rfl rfl rfl rfl ?_
      have aft : wG (D + 1) rX6_findRow 42 [(0, .ref 55), (1, .int (Int32.ofInt ((2 ^ n - 1 : Nat) : Int))), (2, .int (Int32.ofInt (dD cs n p : Nat))), (3, .int (Int32.ofInt (l : Nat))), (4, .int (Int32.ofInt (p : Nat))), (5, .int (Int32.ofInt (hrs cs (dD cs n p) n : Nat))), (6, .int (Int32.ofInt (pk cs n (dD cs n p) : Nat)))] [] h (vd (endC cs n)) := by
        refine wG_step rfl rfl rfl rfl ?_
        refine wG_fld H 3 rfl rfl rfl ?_
        refine wG_step rfl rfl rfl rfl ?_
        refine wG_step rfl rfl rfl rfl ?_
        refine wG_fld H 3 rfl rfl rfl ?_
        refine wG_step rfl rfl rfl rfl ?_
        refine wG_ldv H 0 _ rfl rfl ⟨by omega, by omega, by decide⟩ (S.1 _ k1) ?_
        refine wG_sta H 6 rfl rfl ⟨by omega, by omega, by decide⟩ rfl (fun h1 H1 => ?_)
        refine wG_step rfl rfl rfl rfl ?_
        refine wG_step rfl rfl rfl rfl ?_
        refine wG_step rfl rfl rfl rfl ?_
        refine wG_shl rfl (by omega) ?_
        refine wG_or rfl (by omega) (by omega) ?_
        refine wG_step rfl rfl rfl rfl ?_
        refine wG_step rfl rfl rfl rfl ?_
        refine wG_step rfl rfl rfl rfl ?_
        refine wG_iinc rfl rfl rfl ?_
        refine wG_step rfl rfl rfl rfl ?_
        have hb := or_bit (dD cs n p) (pk cs n (dD cs n p))
        refine wG_pick [0, 1, 2, 3, 4] (by decide) (ih (p + 1) (pk cs n (dD cs n p)) h1 _ (by omega) (by omega) (Or.inr hb) H1 (stC_u S (Or.inr rfl)) (fun e l' h1 h2 h3 => ?_) (fun i hi => ?_))
        · rw [u2_ne (by omega)]
          exact hO e l' h1 h2 h3
        · by_cases hip : i = p
          · subst hip
            rw [u2_at]
          · rw [u2_ne (by omega)]
            exact hR i (by omega)
      have lq : ∀ (w q : Nat), q + w = pk cs n (dD cs n p) → wG (D + 1) rX6_findRow 19 [(0, .ref 55), (1, .int (Int32.ofInt ((2 ^ n - 1 : Nat) : Int))), (2, .int (Int32.ofInt (dD cs n p : Nat))), (3, .int (Int32.ofInt (l : Nat))), (4, .int (Int32.ofInt (p : Nat))), (5, .int (Int32.ofInt (hrs cs (dD cs n p) n : Nat))), (6, .int (Int32.ofInt (q : Nat)))] [] h (vd (endC cs n)) := by
        intro w
        induction w with
        | zero =>
          intro q hq
          have hq' : q = pk cs n (dD cs n p) := by omega
          subst hq'
          refine wG_step rfl rfl rfl rfl ?_
          refine wG_step rfl rfl rfl rfl ?_
          refine wG_fld H 3 rfl rfl rfl ?_
          refine wG_step rfl rfl rfl rfl ?_
          refine wG_isub rfl ?_
          refine wG_c2 rfl (rng_n (by omega)) (⟨by omega, by omega⟩) (fun _ => aft) (fun _ => ?_)
          refine wG_step rfl rfl rfl rfl ?_
          refine wG_step rfl rfl rfl rfl ?_
          refine wG_step rfl rfl rfl rfl ?_
          refine wG_step rfl rfl rfl rfl ?_
          refine wG_step rfl rfl rfl rfl ?_
          refine wG_cvV H 3 rfl rfl rfl (Nat.le_of_ble_eq_true rfl) (costVia_C H S hn hd k1 hl (fun _ => hO _ _ (or_lt hd k1) (by omega) (Or.inr (or_bit _ _)))) ?_
          refine wG_step rfl rfl rfl rfl ?_
          refine wG_fld H 3 rfl rfl rfl ?_
          refine wG_step rfl rfl rfl rfl ?_
          refine wG_bip rfl rfl ?_
          refine wG_imul rfl ?_
          refine wG_step rfl rfl rfl rfl ?_
          refine wG_iadd rfl ?_
          refine wG_ldv H 5 _ rfl rfl ⟨by omega, by omega, by decide⟩ (hO _ _ hd hl hv) ?_
          rw [(pkP_iff hn hd).mpr k2]
          have hk := kK_le (cs := cs) hn hd
          unfold mF at hk
          exact wG_c2t rfl (rng_n (by omega)) (rng_n (by omega)) rfl aft
        | succ w ihw =>
          intro q hq
          have hk := kK_le (cs := cs) hn hd
          have hv1 : via cs n (kK cs n) (dD cs n p) q ≤ 2 * mF := by
            unfold via
            split
            · have := kK_le (cs := cs) hn (or_lt hd (show q < n by omega))
              have hh := hrs_le (cs := cs) (dD cs n p) n
              have h6 : cs q % 6 < 6 := Nat.mod_lt _ (by decide)
              unfold mF at *
              omega
            · unfold mF; decide
          unfold mF at hk hv1
          have hne : via cs n (kK cs n) (dD cs n p) q ≠ kK cs n (dD cs n p) := fun e => by
            have := (pkP_iff hn hd).mp e
            rw [k3 q (by omega)] at this
            cases this
          refine wG_step rfl rfl rfl rfl ?_
          refine wG_step rfl rfl rfl rfl ?_
          refine wG_fld H 3 rfl rfl rfl ?_
          refine wG_step rfl rfl rfl rfl ?_
          refine wG_isub rfl ?_
          refine wG_c2f rfl (rng_n (by omega)) (⟨by omega, by omega⟩) (by show ¬ (_ : Int) ≤ _; omega) ?_
          refine wG_step rfl rfl rfl rfl ?_
          refine wG_step rfl rfl rfl rfl ?_
          refine wG_step rfl rfl rfl rfl ?_
          refine wG_step rfl rfl rfl rfl ?_
          refine wG_step rfl rfl rfl rfl ?_
          refine wG_cvV H 3 rfl rfl rfl (Nat.le_of_ble_eq_true rfl) (costVia_C H S hn hd (q := q) (by omega) hl (fun _ => hO _ _ (or_lt hd (show q < n by omega)) (by omega) (Or.inr (or_bit _ _)))) ?_
          refine wG_step rfl rfl rfl rfl ?_
          refine wG_fld H 3 rfl rfl rfl ?_
          refine wG_step rfl rfl rfl rfl ?_
          refine wG_bip rfl rfl ?_
          refine wG_imul rfl ?_
          refine wG_step rfl rfl rfl rfl ?_
          refine wG_iadd rfl ?_
          refine wG_ldv H 5 _ rfl rfl ⟨by omega, by omega, by decide⟩ (hO _ _ hd hl hv) ?_
          refine wG_c2f rfl (rng_n (by omega)) (rng_n (by omega)) (by show ¬ (_ : Int) = _; omega) ?_
          refine wG_iinc rfl rfl rfl ?_
          refine wG_step rfl rfl rfl rfl ?_
          exact wG_pick [0, 1, 2, 3, 4, 5, 6] (by decide) (ihw (q + 1) (by omega))
      exact wG_pick [0, 1, 2, 3, 4, 5, 6] (by decide) (lq (pk cs n (dD cs n p)) 0 (by omega))
  exact wG_pick [0, 1, 2, 3, 4] (by decide) (lp n 0 8 h A (by omega) (by decide) (Or.inl ⟨rfl, rfl⟩) H S hO (fun i hi => absurd hi (Nat.not_lt_zero _)))
theorem solve_C (hn : n < 9) {h : pv_H} {A : Nat → Int → Int} (H : hp (oC n) lC 79 h A) (S : stC cs n A) : wR (D + 3) 67 [.ref 55] h (vd (endC cs n)) := by
  have hp8 := pow8 hn
  refine wR_in (M := mX6_solve) rfl (Nat.le_of_ble_eq_true rfl) ?_
  refine wG_step rfl rfl rfl rfl ?_
  refine wG_step rfl rfl rfl rfl ?_
  refine wG_fld H 3 rfl rfl rfl ?_
  refine wG_shl rfl (by omega) ?_
  refine wG_step rfl rfl rfl rfl ?_
  refine wG_isub rfl ?_
  have e0 : ((2 ^ n : Nat) : Int) - 1 = ((2 ^ n - 1 : Nat) : Int) := by omega
  rw [e0]
  refine wG_step rfl rfl rfl rfl ?_
  refine wG_step rfl rfl rfl rfl ?_
  refine wG_step rfl rfl rfl rfl ?_
  have lp : ∀ (m : Nat) (z : Int) (h : pv_H) (A : Nat → Int → Int), z = (m : Int) - 1 → m ≤ 2 ^ n → hp (oC n) lC 79 h A → stC cs n A → (∀ e l' : Nat, e < 2 ^ n → l' < 9 → vld e l' → m ≤ e → A 61 ((e : Int) * 9 + (l' : Nat)) = (kK cs n e : Nat)) → wG (D + 2) rX6_solve 9 [(0, .ref 55), (1, .int (Int32.ofInt ((2 ^ n - 1 : Nat) : Int))), (2, .int (Int32.ofInt z))] [] h (vd (endC cs n)) := by
    intro m
    induction m with
    | zero =>
      intro z h A hz hm H S hO
      have : z = -1 := by omega
      subst this
      refine wG_step rfl rfl rfl rfl ?_
      refine wG_c1t rfl ⟨by decide, by decide⟩ (by show (-1 : Int) < 0; decide) ?_
      refine wG_step rfl rfl rfl rfl ?_
      refine wG_step rfl rfl rfl rfl ?_
      refine wG_cvN H 3 rfl rfl rfl (Nat.le_of_ble_eq_true rfl) (findRow_C hn H S (fun e l' h1 h2 h3 => hO e l' h1 h2 h3 (Nat.zero_le _))) (fun h1 q => ?_)
      refine wG_ret rfl rfl ?_
      exact ⟨rfl, q⟩
    | succ d ih =>
      intro z h A hz hm H S hO
      have : z = (d : Nat) := by omega
      subst this
      have hd : d < 2 ^ n := by omega
      refine wG_step rfl rfl rfl rfl ?_
      refine wG_c1f rfl (rng_n (by omega)) (by show ¬ (d : Int) < 0; omega) ?_
      refine wG_step rfl rfl rfl rfl ?_
      refine wG_step rfl rfl rfl rfl ?_
      refine wG_cvV H 3 rfl rfl rfl (Nat.le_of_ble_eq_true rfl) (spentOn_C H S hn hd) ?_
      refine wG_step rfl rfl rfl rfl ?_
      refine wG_step rfl rfl rfl rfl ?_
      refine wG_step rfl rfl rfl rfl ?_
      have lq : ∀ (w l : Nat) (h : pv_H) (A : Nat → Int → Int), l + w = 9 → hp (oC n) lC 79 h A → stC cs n A → onw cs n A d l → wG (D + 2) rX6_solve 17 [(0, .ref 55), (1, .int (Int32.ofInt ((2 ^ n - 1 : Nat) : Int))), (2, .int (Int32.ofInt (d : Nat))), (3, .int (Int32.ofInt (hrs cs d n : Nat))), (4, .int (Int32.ofInt (l : Nat)))] [] h (vd (endC cs n)) := by
        intro w
        induction w with
        | zero =>
          intro l h A hl H S hO
          have : l = 9 := by omega
          subst this
          refine wG_step rfl rfl rfl rfl ?_
          refine wG_bip rfl rfl ?_
          refine wG_c2t rfl ⟨by decide, by decide⟩ ⟨by decide, by decide⟩ (Int.le_refl _) ?_
          refine wG_iinc rfl rfl rfl ?_
          refine wG_step rfl rfl rfl rfl ?_
          refine wG_pick [0, 1, 2] (by decide) (ih _ h A ?_ (by omega) H S (fun e l' h1 h2 h3 h4 => hO e l' h1 h2 h3 (by omega)))
          omega
        | succ w ihw =>
          intro l h A hl H S hO
          have nxt : ∀ (h : pv_H) (A : Nat → Int → Int) (b : Value), hp (oC n) lC 79 h A → stC cs n A → onw cs n A d (l + 1) → wG (D + 2) rX6_solve 59 [(0, .ref 55), (1, .int (Int32.ofInt ((2 ^ n - 1 : Nat) : Int))), (2, .int (Int32.ofInt (d : Nat))), (3, .int (Int32.ofInt (hrs cs d n : Nat))), (4, .int (Int32.ofInt (l : Nat)))] [] h (vd (endC cs n)) := by
            intro h A b H S hO
            refine wG_iinc rfl rfl rfl ?_
            refine wG_step rfl rfl rfl rfl ?_
            exact wG_pick [0, 1, 2, 3, 4] (by decide) (ihw (l + 1) h A (by omega) H S hO)
          have mid : ∀ b : Int, (b = 1 ∧ vld d l ∨ b = 0 ∧ ¬ vld d l) → wG (D + 2) rX6_solve 38 [(0, .ref 55), (1, .int (Int32.ofInt ((2 ^ n - 1 : Nat) : Int))), (2, .int (Int32.ofInt (d : Nat))), (3, .int (Int32.ofInt (hrs cs d n : Nat))), (4, .int (Int32.ofInt (l : Nat)))] [.int (Int32.ofInt b)] h (vd (endC cs n)) := by
            intro b hb
            refine wG_step rfl rfl rfl rfl ?_
            refine wG_step rfl rfl rfl rfl ?_
            rcases hb with ⟨rfl, hv⟩ | ⟨rfl, hv⟩
            · have put : ∀ v : Int, v = (kK cs n d : Nat) → wG (D + 2) rX6_solve 58 [(0, .ref 55), (1, .int (Int32.ofInt ((2 ^ n - 1 : Nat) : Int))), (2, .int (Int32.ofInt (d : Nat))), (3, .int (Int32.ofInt (hrs cs d n : Nat))), (4, .int (Int32.ofInt (l : Nat)))] [.int (Int32.ofInt v), .int (Int32.ofInt ((d : Int) * 9 + (l : Nat))), .ref 61] h (vd (endC cs n)) := by
                intro v hvv
                refine wG_sta H 5 rfl rfl ⟨by omega, by omega, by decide⟩ rfl (fun h1 H1 => ?_)
                refine nxt h1 _ (.int 0) H1 (stC_u S (Or.inl rfl)) (fun e l' h1 h2 h3 h4 => ?_)
                by_cases hel : e = d ∧ l' = l
                · obtain ⟨rfl, rfl⟩ := hel
                  rw [u2_at]
                  exact hvv
                · rw [u2_ne (by omega)]
                  exact hO e l' h1 h2 h3 (by omega)
              refine wG_c1f rfl ⟨by decide, by decide⟩ (by show ¬ (1 : Int) = 0; decide) ?_
              refine wG_step rfl rfl rfl rfl ?_
              refine wG_fld H 3 rfl rfl rfl ?_
              refine wG_step rfl rfl rfl rfl ?_
              refine wG_bip rfl rfl ?_
              refine wG_imul rfl ?_
              refine wG_step rfl rfl rfl rfl ?_
              refine wG_iadd rfl ?_
              refine wG_step rfl rfl rfl rfl ?_
              refine wG_step rfl rfl rfl rfl ?_
              refine wG_pick [0, 1, 2, 3, 4] (by decide) ?_
              refine wG_c2 rfl (rng_n (by omega)) (rng_n (by omega)) (fun c => ?_) (fun c => ?_)
              · have c1 : ¬ (d : Int) = ((2 ^ n - 1 : Nat) : Int) := c
                refine wG_step rfl rfl rfl rfl ?_
                refine wG_step rfl rfl rfl rfl ?_
                refine wG_step rfl rfl rfl rfl ?_
                refine wG_step rfl rfl rfl rfl ?_
                refine wG_cvV H 3 rfl rfl rfl (Nat.le_of_ble_eq_true rfl) (leastOnward_C (K := kK cs n) H S hn hd (by omega) (fun q hq hc => hO _ _ (or_lt hd hq) (by omega) (Or.inr (or_bit _ _)) (Or.inl (bt_or d (by omega) q (by omega) (can_bit hc)))) (fun q hq _ => kK_le hn (or_lt hd hq))) (put _ ?_)
                rw [kK_eq hn hd, if_neg (by omega)]
              · have c1 : (d : Int) = ((2 ^ n - 1 : Nat) : Int) := Classical.not_not.mp c
                refine wG_step rfl rfl rfl rfl ?_
                refine wG_step rfl rfl rfl rfl ?_
                refine put 0 ?_
                rw [kK_eq hn hd, if_pos (by omega)]
                rfl
            · refine wG_c1t rfl ⟨by decide, by decide⟩ rfl ?_
              refine wG_pick [0, 1, 2, 3, 4] (by decide) (nxt h A (.int 0) H S (fun e l' h1 h2 h3 h4 => hO e l' h1 h2 h3 ?_))
              have hne : ¬ (d = e ∧ l' = l) := fun q => by
                obtain ⟨rfl, rfl⟩ := q
                exact hv h3
              omega
          refine wG_step rfl rfl rfl rfl ?_
          refine wG_bip rfl rfl ?_
          refine wG_c2f rfl (rng_n (by omega)) ⟨by decide, by decide⟩ (by show ¬ (9 : Int) ≤ l; omega) ?_
          refine wG_step rfl rfl rfl rfl ?_
          refine wG_c1 rfl (rng_n (by omega)) (fun c => ?_) (fun c => ?_)
          · have c1 : ¬ (d : Int) = 0 := c
            refine wG_step rfl rfl rfl rfl ?_
            refine wG_step rfl rfl rfl rfl ?_
            refine wG_bt rfl rfl rfl (by omega) (by omega) ?_
            refine wG_c1 rfl (bt_rng d l) (fun c => ?_) (fun c => ?_)
            · have c2 : bt d l = 0 := c
              rw [bt_0] at c2
              refine wG_step rfl rfl rfl rfl ?_
              refine mid 0 (Or.inr ⟨rfl, fun q => ?_⟩)
              rcases q with ⟨q1, q2⟩ | ⟨q1, q2⟩
              · omega
              · rw [c2] at q2; cases q2
            · have c2 : ¬ bt d l = 0 := c
              rw [bt_0, Bool.not_eq_false] at c2
              refine wG_step rfl rfl rfl rfl ?_
              refine wG_step rfl rfl rfl rfl ?_
              exact mid 1 (Or.inl ⟨rfl, Or.inr ⟨by omega, c2⟩⟩)
          · have c1 : (d : Int) = 0 := Classical.not_not.mp c
            refine wG_step rfl rfl rfl rfl ?_
            refine wG_bip rfl rfl ?_
            refine wG_c2 rfl (rng_n (by omega)) ⟨by decide, by decide⟩ (fun c => ?_) (fun c => ?_)
            · have c2 : ¬ (l : Int) = 8 := c
              refine wG_step rfl rfl rfl rfl ?_
              refine wG_step rfl rfl rfl rfl ?_
              refine mid 0 (Or.inr ⟨rfl, fun q => ?_⟩)
              rcases q with ⟨q1, q2⟩ | ⟨q1, q2⟩
              · omega
              · omega
            · have c2 : (l : Int) = 8 := Classical.not_not.mp c
              refine wG_step rfl rfl rfl rfl ?_
              refine wG_step rfl rfl rfl rfl ?_
              exact mid 1 (Or.inl ⟨rfl, Or.inl ⟨by omega, by omega⟩⟩)
      exact wG_pick [0, 1, 2, 3, 4] (by decide) (lq 9 0 h A (by omega) H S (fun e l' h1 h2 h3 h4 => hO e l' h1 h2 h3 (by omega)))
  exact wG_pick [0, 1, 2] (by decide) (lp (2 ^ n) _ h A (by omega) (Nat.le_refl _) H S (fun e l' h1 h2 h3 h4 => absurd h4 (by omega)))
end CD
