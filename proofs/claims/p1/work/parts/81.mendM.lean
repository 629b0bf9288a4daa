/-! THE MODEL MENDS: its answer is the class's -/
theorem cnt_pos {N : Nat} (h0 : 0 < N) (h48 : N < 281474976710656) : 0 < cnt (nb N) 48 := by
  refine Nat.pos_of_ne_zero (fun q => ?_)
  have hz : N = 0 := by
    apply Nat.eq_of_testBit_eq
    intro i
    rw [Nat.zero_testBit]
    by_cases hi : i < 48
    · cases hb : N.testBit i with
      | false => rfl
      | true =>
        have := cnt_lt (b := nb N) hb hi
        omega
    · refine Nat.testBit_lt_two_pow (Nat.lt_of_lt_of_le (show N < 2 ^ 48 from h48) (Nat.pow_le_pow_right (by decide) (by omega)))
  omega
theorem lyd_nT {N : Nat} (h : lyd 8 N) : 1 ≤ nT N ∧ cnt (nb N) 48 = nT N := by
  have h1 := cnt_pos h.1 h.2.1
  unfold nT
  rw [if_pos ⟨h.2.1, h.2.2⟩]
  exact ⟨h1, rfl⟩
theorem nlyd_nT {N : Nat} (h : ¬ lyd 8 N) : nT N = 0 := by
  unfold nT
  by_cases hc : N < 281474976710656 ∧ cnt (fun k => N.testBit k) 48 ≤ 8
  · rw [if_pos hc]
    have hN : N = 0 := Nat.eq_zero_of_not_pos (fun q => h ⟨q, hc.1, hc.2⟩)
    subst hN
    have e : ∀ m, cnt (fun k => (0 : Nat).testBit k) m = 0 := by
      intro m
      induction m with
      | zero => rfl
      | succ m ih => show cnt _ m + (if (0 : Nat).testBit m = true then 1 else 0) = 0; rw [ih, Nat.zero_testBit]; rfl
    exact e 48
  · rw [if_neg hc]
def cur (cs : Nat → Nat) (n d q : Nat) : Nat := if d = 2 ^ n - 1 then 0 else mn (via cs n (kK cs n) d) q
theorem via_le {cs : Nat → Nat} {n d q : Nat} (hn : n < 9) (hd : d < 2 ^ n) (hq : q < n) : via cs n (kK cs n) d q ≤ 2 * mF := by
  unfold via
  split
  · have := kK_le (cs := cs) hn (or_lt hd hq)
    have hh := hrs_le (cs := cs) d n
    have h6 : cs q % 6 < 6 := Nat.mod_lt _ (by decide)
    unfold mF at *
    omega
  · unfold mF; decide
theorem cur_le (cs : Nat → Nat) (n d q : Nat) : cur cs n d q ≤ mF := by
  unfold cur
  split
  · exact Nat.zero_le _
  · exact mn_le _ _
section MG
variable {cs : Nat → Nat} {n : Nat}
/-- the costs are reckoned -/
theorem costs_M {z : Int} {Q : Option Value → pv_H → Prop} (hn : n < 9) (hcs : ∀ j, j < n → cs j < 48) (hmo : ∀ i j, j < n → i < j → cs i < cs j) (fin : ∀ (h : pv_H) (A : Nat → Int → Int), hp (oM n) lM 64 h A → stM cs n A → (∀ e : Nat, e < 2 ^ n → A 63 e = (kK cs n e : Nat)) → wG 11 rX12_mended 82 [(0, .ref 0), (3, .int (Int32.ofInt z))] [] h Q) : ∀ (m : Nat) (y : Int) (h : pv_H) (A : Nat → Int → Int), y = (m : Int) - 1 → m ≤ 2 ^ n → hp (oM n) lM 64 h A → stM cs n A → (∀ e : Nat, m ≤ e → e < 2 ^ n → A 63 e = (kK cs n e : Nat)) → wG 11 rX12_mended 42 [(0, .ref 0), (3, .int (Int32.ofInt z)), (4, .int (Int32.ofInt ((2 ^ n - 1 : Nat) : Int))), (5, .int (Int32.ofInt y))] [] h Q := by
  have hp8 := pow8 hn
  intro m
  induction m with
  | zero =>
    intro y h A hy hm H S hO
    have : y = -1 := by omega
    subst this
    refine wG_step rfl rfl rfl rfl ?_
    refine wG_c1t rfl ⟨by decide, by decide⟩ (by show (-1 : Int) < 0; decide) ?_
    exact wG_pick [0, 3] (by decide) (fin h A H S (fun e he => hO e (Nat.zero_le _) he))
  | succ d ih =>
    intro y h A hy hm H S hO
    have : y = (d : Nat) := by omega
    subst this
    have hd : d < 2 ^ n := by omega
    refine wG_step rfl rfl rfl rfl ?_
    refine wG_c1f rfl (rng_n (by omega)) (by show ¬ (d : Int) < 0; omega) ?_
    have lq : ∀ (w q : Nat) (h : pv_H) (A : Nat → Int → Int), q + w = n → hp (oM n) lM 64 h A → stM cs n A → A 63 d = (cur cs n d q : Nat) → (∀ e : Nat, d + 1 ≤ e → e < 2 ^ n → A 63 e = (kK cs n e : Nat)) → wG 11 rX12_mended 56 [(0, .ref 0), (3, .int (Int32.ofInt z)), (4, .int (Int32.ofInt ((2 ^ n - 1 : Nat) : Int))), (5, .int (Int32.ofInt (d : Nat))), (6, .int (Int32.ofInt (q : Nat)))] [] h Q := by
      intro w
      induction w with
      | zero =>
        intro q h A hq H S hc hO
        have : q = n := by omega
        subst this
        refine wG_step rfl rfl rfl rfl ?_
        refine wG_step rfl rfl rfl rfl ?_
        refine wG_fld H 0 rfl rfl rfl ?_
        refine wG_c2t rfl (rng_n (by omega)) (rng_n (by omega)) (Int.le_refl _) ?_
        refine wG_iinc rfl rfl rfl ?_
        refine wG_step rfl rfl rfl rfl ?_
        refine wG_pick [0, 3, 4, 5] (by decide) (ih _ h A ?_ (by omega) H S (fun e h1 h2 => ?_))
        · omega
        · by_cases hed : e = d
          · subst hed
            rw [hc, kK_eq hn hd]
            rfl
          · exact hO e (by omega) h2
      | succ w ihw =>
        intro q h A hq H S hc hO
        have hqn : q < n := by omega
        refine wG_step rfl rfl rfl rfl ?_
        refine wG_step rfl rfl rfl rfl ?_
        refine wG_fld H 0 rfl rfl rfl ?_
        refine wG_c2f rfl (rng_n (by omega)) (rng_n (by omega)) (by show ¬ (n : Int) ≤ q; omega) ?_
        refine wG_step rfl rfl rfl rfl ?_
        refine wG_step rfl rfl rfl rfl ?_
        refine wG_step rfl rfl rfl rfl ?_
        refine wG_cvV H 0 rfl rfl rfl (Nat.le_of_ble_eq_true rfl) (canBeNext_M hn hcs hmo H S hd hqn) ?_
        cases hcan : can cs d q with
        | false =>
          refine wG_c1t rfl ⟨by decide, by decide⟩ rfl ?_
          refine wG_iinc rfl rfl rfl ?_
          refine wG_step rfl rfl rfl rfl ?_
          refine wG_pick [0, 3, 4, 5, 6] (by decide) (ihw (q + 1) h A (by omega) H S ?_ hO)
          rw [hc]
          unfold cur
          by_cases hall : d = 2 ^ n - 1
          · rw [if_pos hall, if_pos hall]
          · rw [if_neg hall, if_neg hall]
            show _ = ((min (mn (via cs n (kK cs n) d) q) (via cs n (kK cs n) d q) : Nat) : Int)
            have e : via cs n (kK cs n) d q = mF := by unfold via; rw [hcan]; rfl
            rw [e, Nat.min_eq_left (mn_le _ _)]
        | true =>
          have hall : ¬ d = 2 ^ n - 1 := fun z => by
            have := can_bit hcan
            rw [z, bt_all n hn q hqn] at this
            cases this
          have hlt := bt_or d (by omega) q (by omega) (can_bit hcan)
          have h9 := or_lt hd hqn
          have b1 := cur_le cs n d q
          have b2 := via_le (cs := cs) hn hd hqn
          unfold mF at b1 b2
          refine wG_c1f rfl ⟨by decide, by decide⟩ (by show ¬ (1 : Int) = 0; decide) ?_
          refine wG_step rfl rfl rfl rfl ?_
          refine wG_fld H 0 rfl rfl rfl ?_
          refine wG_step rfl rfl rfl rfl ?_
          refine wG_step rfl rfl rfl rfl ?_
          refine wG_fld H 0 rfl rfl rfl ?_
          refine wG_step rfl rfl rfl rfl ?_
          refine wG_ldv H 1 _ rfl rfl ⟨by omega, by omega, by decide⟩ hc ?_
          refine wG_step rfl rfl rfl rfl ?_
          refine wG_step rfl rfl rfl rfl ?_
          refine wG_step rfl rfl rfl rfl ?_
          refine wG_cvV H 0 rfl rfl rfl (Nat.le_of_ble_eq_true rfl) (costBy_M (K := kK cs n) hn hcs H S hd hqn hcan (hO _ hlt h9)) ?_
          refine wG_csV rfl (Nat.le_of_ble_eq_true rfl) rfl (Nat.le_of_ble_eq_true rfl) (less_M (rng_n (by omega)) (rng_n (by omega))) ?_
          refine wG_sta H 1 rfl rfl ⟨by omega, by omega, by decide⟩ rfl (fun h' H' => ?_)
          refine wG_iinc rfl rfl rfl ?_
          refine wG_step rfl rfl rfl rfl ?_
          refine wG_pick [0, 3, 4, 5, 6] (by decide) (ihw (q + 1) h' _ (by omega) H' (stM_u S) ?_ (fun e h1 h2 => ?_))
          · rw [u2_at]
            unfold cur
            rw [if_neg hall, if_neg hall]
            show _ = ((min (mn (via cs n (kK cs n) d) q) (via cs n (kK cs n) d q) : Nat) : Int)
            omega
          · rw [u2_ne (by omega)]
            exact hO e h1 h2
    have put : ∀ v : Int, v = (cur cs n d 0 : Nat) → wG 11 rX12_mended 53 [(0, .ref 0), (3, .int (Int32.ofInt z)), (4, .int (Int32.ofInt ((2 ^ n - 1 : Nat) : Int))), (5, .int (Int32.ofInt (d : Nat)))] [.int (Int32.ofInt v), .int (Int32.ofInt (d : Nat)), .ref 63] h Q := by
      intro v hv
      refine wG_sta H 1 rfl rfl ⟨by omega, by omega, by decide⟩ rfl (fun h' H' => ?_)
      refine wG_step rfl rfl rfl rfl ?_
      refine wG_step rfl rfl rfl rfl ?_
      refine wG_pick [0, 3, 4, 5, 6] (by decide) (lq n 0 h' _ (by omega) H' (stM_u S) ?_ (fun e h1 h2 => ?_))
      · rw [u2_at]; exact hv
      · rw [u2_ne (by omega)]; exact hO e h1 h2
    refine wG_step rfl rfl rfl rfl ?_
    refine wG_fld H 0 rfl rfl rfl ?_
    refine wG_step rfl rfl rfl rfl ?_
    refine wG_step rfl rfl rfl rfl ?_
    refine wG_step rfl rfl rfl rfl ?_
    refine wG_c2 rfl (rng_n (by omega)) (rng_n (by omega)) (fun c => ?_) (fun c => ?_)
    · have c1 : ¬ (d : Int) = ((2 ^ n - 1 : Nat) : Int) := c
      refine wG_ld1 rfl ?_
      refine wG_pick [0, 3, 4, 5] (by decide) (put _ ?_)
      unfold cur
      rw [if_neg (by omega)]
      rfl
    · have c1 : (d : Int) = ((2 ^ n - 1 : Nat) : Int) := Classical.not_not.mp c
      refine wG_step rfl rfl rfl rfl ?_
      refine wG_step rfl rfl rfl rfl ?_
      refine wG_pick [0, 3, 4, 5] (by decide) (put _ ?_)
      unfold cur
      rw [if_pos (by omega)]
      rfl
/-- the row is walked up to what is asked -/
theorem row_M {p : Nat} (hn : n < 9) (hcs : ∀ j, j < n → cs j < 48) (hmo : ∀ i j, j < n → i < j → cs i < cs j) (hpn : p < n) {h : pv_H} {A : Nat → Int → Int} (H : hp (oM n) lM 64 h A) (S : stM cs n A) (hO : ∀ e : Nat, e < 2 ^ n → A 63 e = (kK cs n e : Nat)) : ∀ (m i : Nat), i + m = p → wG 11 rX12_mended 94 [(0, .ref 0), (3, .int (Int32.ofInt (p : Nat))), (5, .int (Int32.ofInt (dD cs n i : Nat))), (6, .int (Int32.ofInt (i : Nat)))] [] h (is0 h (cs (pk cs n (dD cs n p)) : Nat)) := by
  have hp8 := pow8 hn
  intro m
  induction m with
  | zero =>
    intro i hi
    have : i = p := by omega
    subst this
    obtain ⟨hd, _⟩ := dD_is (cs := cs) hn i (by omega)
    have hd2 := dD_lt (cs := cs) hn (p := i) (by omega)
    obtain ⟨k1, k2, k3⟩ := pk_is (cs := cs) hn hd2
    refine wG_step rfl rfl rfl rfl ?_
    refine wG_step rfl rfl rfl rfl ?_
    refine wG_c2f rfl (rng_n (by omega)) (rng_n (by omega)) (by show ¬ (i : Int) < i; omega) ?_
    refine wG_step rfl rfl rfl rfl ?_
    refine wG_step rfl rfl rfl rfl ?_
    have aft : wG 11 rX12_mended 118 [(0, .ref 0), (3, .int (Int32.ofInt (i : Nat))), (5, .int (Int32.ofInt (dD cs n i : Nat))), (6, .int (Int32.ofInt (i : Nat))), (7, .int (Int32.ofInt (pk cs n (dD cs n i) : Nat)))] [] h (is0 h (cs (pk cs n (dD cs n i)) : Nat)) := by
      refine wG_step rfl rfl rfl rfl ?_
      refine wG_step rfl rfl rfl rfl ?_
      refine wG_c2f rfl (rng_n (by omega)) (rng_n (by omega)) (by show ¬ (i : Int) ≠ i; omega) ?_
      refine wG_step rfl rfl rfl rfl ?_
      refine wG_fld H 0 rfl rfl rfl ?_
      refine wG_step rfl rfl rfl rfl ?_
      refine wG_ldv H 0 _ rfl rfl ⟨by omega, by omega, by decide⟩ (S.1 _ k1) ?_
      refine wG_ret rfl rfl ?_
      exact ⟨rfl, rfl⟩
    have lq : ∀ (w q : Nat), q + w = pk cs n (dD cs n i) → wG 11 rX12_mended 99 [(0, .ref 0), (3, .int (Int32.ofInt (i : Nat))), (5, .int (Int32.ofInt (dD cs n i : Nat))), (6, .int (Int32.ofInt (i : Nat))), (7, .int (Int32.ofInt (q : Nat)))] [] h (is0 h (cs (pk cs n (dD cs n i)) : Nat)) := by
      intro w
      induction w with
      | zero =>
        intro q hq
        have hq' : q = pk cs n (dD cs n i) := by omega
        subst hq'
        have hcan : can cs (dD cs n i) (pk cs n (dD cs n i)) = true := by
          unfold pkP at k2
          simp only [Bool.and_eq_true] at k2
          exact k2.1
        refine wG_step rfl rfl rfl rfl ?_
        refine wG_step rfl rfl rfl rfl ?_
        refine wG_step rfl rfl rfl rfl ?_
        refine wG_cvV H 0 rfl rfl rfl (Nat.le_of_ble_eq_true rfl) (canBeNext_M hn hcs hmo H S hd k1) ?_
        rw [if_pos hcan]
        refine wG_c1f rfl ⟨by decide, by decide⟩ (by show ¬ (1 : Int) = 0; decide) ?_
        refine wG_step rfl rfl rfl rfl ?_
        refine wG_step rfl rfl rfl rfl ?_
        refine wG_step rfl rfl rfl rfl ?_
        refine wG_cvV H 0 rfl rfl rfl (Nat.le_of_ble_eq_true rfl) (costBy_M (K := kK cs n) hn hcs H S hd k1 hcan (hO _ (or_lt hd k1))) ?_
        refine wG_step rfl rfl rfl rfl ?_
        refine wG_fld H 0 rfl rfl rfl ?_
        refine wG_step rfl rfl rfl rfl ?_
        refine wG_ldv H 1 _ rfl rfl ⟨by omega, by omega, by decide⟩ (hO _ hd) ?_
        rw [(pkP_iff hn hd).mpr k2]
        have hk := kK_le (cs := cs) hn hd
        unfold mF at hk
        exact wG_c2t rfl (rng_n (by omega)) (rng_n (by omega)) rfl aft
      | succ w ihw =>
        intro q hq
        have hqn : q < n := by omega
        have nxt : wG 11 rX12_mended 113 [(0, .ref 0), (3, .int (Int32.ofInt (i : Nat))), (5, .int (Int32.ofInt (dD cs n i : Nat))), (6, .int (Int32.ofInt (i : Nat))), (7, .int (Int32.ofInt (q : Nat)))] [] h (is0 h (cs (pk cs n (dD cs n i)) : Nat)) := by
          refine wG_step rfl rfl rfl rfl ?_
          refine wG_step rfl rfl rfl rfl ?_
          refine wG_iadd rfl ?_
          refine wG_step rfl rfl rfl rfl ?_
          refine wG_step rfl rfl rfl rfl ?_
          exact wG_pick [0, 3, 5, 6, 7] (by decide) (ihw (q + 1) (by omega))
        refine wG_step rfl rfl rfl rfl ?_
        refine wG_step rfl rfl rfl rfl ?_
        refine wG_step rfl rfl rfl rfl ?_
        refine wG_cvV H 0 rfl rfl rfl (Nat.le_of_ble_eq_true rfl) (canBeNext_M hn hcs hmo H S hd hqn) ?_
        cases hcan : can cs (dD cs n i) q with
        | false => exact wG_c1t rfl ⟨by decide, by decide⟩ rfl nxt
        | true =>
          refine wG_c1f rfl ⟨by decide, by decide⟩ (by show ¬ (1 : Int) = 0; decide) ?_
          refine wG_step rfl rfl rfl rfl ?_
          refine wG_step rfl rfl rfl rfl ?_
          refine wG_step rfl rfl rfl rfl ?_
          refine wG_cvV H 0 rfl rfl rfl (Nat.le_of_ble_eq_true rfl) (costBy_M (K := kK cs n) hn hcs H S hd hqn hcan (hO _ (or_lt hd hqn))) ?_
          refine wG_step rfl rfl rfl rfl ?_
          refine wG_fld H 0 rfl rfl rfl ?_
          refine wG_step rfl rfl rfl rfl ?_
          refine wG_ldv H 1 _ rfl rfl ⟨by omega, by omega, by decide⟩ (hO _ hd) ?_
          have hk := kK_le (cs := cs) hn hd
          have hv := via_le (cs := cs) hn hd hqn
          unfold mF at hk hv
          have hne : via cs n (kK cs n) (dD cs n i) q ≠ kK cs n (dD cs n i) := fun e => by
            have := (pkP_iff hn hd).mp e
            rw [k3 q (by omega)] at this
            cases this
          exact wG_c2f rfl (rng_n (by omega)) (rng_n (by omega)) (by show ¬ (_ : Int) = _; omega) nxt
    exact wG_pick [0, 3, 5, 6, 7] (by decide) (lq (pk cs n (dD cs n i)) 0 (by omega))
  | succ m ih =>
    intro i hi
    obtain ⟨hd, _⟩ := dD_is (cs := cs) hn i (by omega)
    have hd2 := dD_lt (cs := cs) hn (p := i) (by omega)
    obtain ⟨k1, k2, k3⟩ := pk_is (cs := cs) hn hd2
    refine wG_step rfl rfl rfl rfl ?_
    refine wG_step rfl rfl rfl rfl ?_
    refine wG_c2f rfl (rng_n (by omega)) (rng_n (by omega)) (by show ¬ (p : Int) < i; omega) ?_
    refine wG_step rfl rfl rfl rfl ?_
    refine wG_step rfl rfl rfl rfl ?_
    have aft : wG 11 rX12_mended 118 [(0, .ref 0), (3, .int (Int32.ofInt (p : Nat))), (5, .int (Int32.ofInt (dD cs n i : Nat))), (6, .int (Int32.ofInt (i : Nat))), (7, .int (Int32.ofInt (pk cs n (dD cs n i) : Nat)))] [] h (is0 h (cs (pk cs n (dD cs n p)) : Nat)) := by
      refine wG_step rfl rfl rfl rfl ?_
      refine wG_step rfl rfl rfl rfl ?_
      refine wG_c2t rfl (rng_n (by omega)) (rng_n (by omega)) (by show (i : Int) ≠ p; omega) ?_
      refine wG_step rfl rfl rfl rfl ?_
      refine wG_step rfl rfl rfl rfl ?_
      refine wG_step rfl rfl rfl rfl ?_
      refine wG_shl rfl (by omega) ?_
      refine wG_or rfl (by omega) (by omega) ?_
      refine wG_step rfl rfl rfl rfl ?_
      refine wG_iinc rfl rfl rfl ?_
      refine wG_step rfl rfl rfl rfl ?_
      exact wG_pick [0, 3, 5, 6] (by decide) (ih (i + 1) (by omega))
    have lq : ∀ (w q : Nat), q + w = pk cs n (dD cs n i) → wG 11 rX12_mended 99 [(0, .ref 0), (3, .int (Int32.ofInt (p : Nat))), (5, .int (Int32.ofInt (dD cs n i : Nat))), (6, .int (Int32.ofInt (i : Nat))), (7, .int (Int32.ofInt (q : Nat)))] [] h (is0 h (cs (pk cs n (dD cs n p)) : Nat)) := by
      intro w
      induction w with
      | zero =>
        intro q hq
        have hq' : q = pk cs n (dD cs n i) := by omega
        subst hq'
        have hcan : can cs (dD cs n i) (pk cs n (dD cs n i)) = true := by
          unfold pkP at k2
          simp only [Bool.and_eq_true] at k2
          exact k2.1
        refine wG_step rfl rfl rfl rfl ?_
        refine wG_step rfl rfl rfl rfl ?_
        refine wG_step rfl rfl rfl rfl ?_
        refine wG_cvV H 0 rfl rfl rfl (Nat.le_of_ble_eq_true rfl) (canBeNext_M hn hcs hmo H S hd k1) ?_
        rw [if_pos hcan]
        refine wG_c1f rfl ⟨by decide, by decide⟩ (by show ¬ (1 : Int) = 0; decide) ?_
        refine wG_step rfl rfl rfl rfl ?_
        refine wG_step rfl rfl rfl rfl ?_
        refine wG_step rfl rfl rfl rfl ?_
        refine wG_cvV H 0 rfl rfl rfl (Nat.le_of_ble_eq_true rfl) (costBy_M (K := kK cs n) hn hcs H S hd k1 hcan (hO _ (or_lt hd k1))) ?_
        refine wG_step rfl rfl rfl rfl ?_
        refine wG_fld H 0 rfl rfl rfl ?_
        refine wG_step rfl rfl rfl rfl ?_
        refine wG_ldv H 1 _ rfl rfl ⟨by omega, by omega, by decide⟩ (hO _ hd) ?_
        rw [(pkP_iff hn hd).mpr k2]
        have hk := kK_le (cs := cs) hn hd
        unfold mF at hk
        exact wG_c2t rfl (rng_n (by omega)) (rng_n (by omega)) rfl aft
      | succ w ihw =>
        intro q hq
        have hqn : q < n := by omega
        have nxt : wG 11 rX12_mended 113 [(0, .ref 0), (3, .int (Int32.ofInt (p : Nat))), (5, .int (Int32.ofInt (dD cs n i : Nat))), (6, .int (Int32.ofInt (i : Nat))), (7, .int (Int32.ofInt (q : Nat)))] [] h (is0 h (cs (pk cs n (dD cs n p)) : Nat)) := by
          refine wG_step rfl rfl rfl rfl ?_
          refine wG_step rfl rfl rfl rfl ?_
          refine wG_iadd rfl ?_
          refine wG_step rfl rfl rfl rfl ?_
          refine wG_step rfl rfl rfl rfl ?_
          exact wG_pick [0, 3, 5, 6, 7] (by decide) (ihw (q + 1) (by omega))
        refine wG_step rfl rfl rfl rfl ?_
        refine wG_step rfl rfl rfl rfl ?_
        refine wG_step rfl rfl rfl rfl ?_
        refine wG_cvV H 0 rfl rfl rfl (Nat.le_of_ble_eq_true rfl) (canBeNext_M hn hcs hmo H S hd hqn) ?_
        cases hcan : can cs (dD cs n i) q with
        | false => exact wG_c1t rfl ⟨by decide, by decide⟩ rfl nxt
        | true =>
          refine wG_c1f rfl ⟨by decide, by decide⟩ (by show ¬ (1 : Int) = 0; decide) ?_
          refine wG_step rfl rfl rfl rfl ?_
          refine wG_step rfl rfl rfl rfl ?_
          refine wG_step rfl rfl rfl rfl ?_
          refine wG_cvV H 0 rfl rfl rfl (Nat.le_of_ble_eq_true rfl) (costBy_M (K := kK cs n) hn hcs H S hd hqn hcan (hO _ (or_lt hd hqn))) ?_
          refine wG_step rfl rfl rfl rfl ?_
          refine wG_fld H 0 rfl rfl rfl ?_
          refine wG_step rfl rfl rfl rfl ?_
          refine wG_ldv H 1 _ rfl rfl ⟨by omega, by omega, by decide⟩ (hO _ hd) ?_
          have hk := kK_le (cs := cs) hn hd
          have hv := via_le (cs := cs) hn hd hqn
          unfold mF at hk hv
          have hne : via cs n (kK cs n) (dD cs n i) q ≠ kK cs n (dD cs n i) := fun e => by
            have := (pkP_iff hn hd).mp e
            rw [k3 q (by omega)] at this
            cases this
          exact wG_c2f rfl (rng_n (by omega)) (rng_n (by omega)) (by show ¬ (_ : Int) = _; omega) nxt
    exact wG_pick [0, 3, 5, 6, 7] (by decide) (lq (pk cs n (dD cs n i)) 0 (by omega))
end MG
theorem mended_M {N : Nat} (hN : N < 18446744073709551616) {z : Int} (hz : rng z) {f : Nat → Nat → Int32} {g : Nat → Nat → Int64} (hF : fr_ok vlM f) : wR 12 241 [.ref 0, .long (Int64.ofNat N), .int (Int32.ofInt z)] (gM f g) (fun v h => v = some (.int (Int32.ofInt (mdA N z))) ∧ h.length = 64) := by
  have H := hp_gM (g := g) hF
  have h8 := nT_le N
  refine wR_in (M := mX12_mended) rfl (Nat.le_of_ble_eq_true rfl) ?_
  refine wG_step rfl rfl rfl rfl ?_
  refine wG_step rfl rfl rfl rfl ?_
  refine wG_bip rfl rfl ?_
  refine wG_cv H 0 rfl rfl rfl (Nat.le_of_ble_eq_true rfl) (wR_mono (fun v h1 q => ?_) (lays_M (M := 8) hN (by decide) H))
  obtain ⟨A', t, H, e50, hlay⟩ := q
  have bad : (nT N < 1 ∨ z < -1 ∨ (nT N : Int) ≤ z) → wG 11 rX12_mended 13 [] [] h1 (fun v h => v = some (.int (Int32.ofInt (mdA N z))) ∧ h.length = 64) := by
    intro hb
    refine wG_bip rfl rfl ?_
    refine wG_ret rfl rfl ?_
    refine ⟨?_, H.1⟩
    unfold mdA
    rw [if_pos hb]
  rcases hlay with ⟨hl, rfl, rfl, hcs⟩ | ⟨hl, rfl⟩
  rotate_left
  · refine wG_c1t rfl ⟨by decide, by decide⟩ rfl ?_
    exact wG_pick [] (by decide) (bad (Or.inl (by rw [nlyd_nT hl]; decide)))
  obtain ⟨hl1, hl2⟩ := lyd_nT hl
  have hnx : ∀ j, j < nT N → nx (nb N) j < 48 := fun j hj => (nx_lt (by omega)).1
  have hmo : ∀ i j, j < nT N → i < j → nx (nb N) i < nx (nb N) j := fun i j hj hij => nx_mono (by omega) hij
  rw [hl2] at H hcs
  have S : stM (nx (nb N)) (nT N) A' := ⟨hcs, fun j hj => by rw [e50 21 j (by decide)]; rfl, fun j hj => by rw [e50 1 j (by decide)]; rfl⟩
  have hp8 := pow8 (show nT N < 9 by omega)
  refine wG_c1f rfl ⟨by decide, by decide⟩ (by show ¬ (1 : Int) = 0; decide) ?_
  refine wG_step rfl rfl rfl rfl ?_
  refine wG_step rfl rfl rfl rfl ?_
  refine wG_step rfl rfl rfl rfl ?_
  refine wG_fld H 0 rfl rfl rfl ?_
  refine wG_step rfl rfl rfl rfl ?_
  refine wG_isub rfl ?_
  refine wG_csV rfl (Nat.le_of_ble_eq_true rfl) rfl (Nat.le_of_ble_eq_true rfl) (in_M hz ⟨by decide, by decide⟩ ⟨by omega, by omega⟩) ?_
  by_cases hin : -1 ≤ z ∧ z ≤ (nT N : Int) - 1
  rotate_left
  · rw [if_neg hin]
    refine wG_c1f rfl ⟨by decide, by decide⟩ (by show ¬ (0 : Int) ≠ 0; decide) ?_
    exact wG_pick [] (by decide) (bad (by omega))
  rw [if_pos hin]
  refine wG_c1t rfl ⟨by decide, by decide⟩ (by show (1 : Int) ≠ 0; decide) ?_
  refine wG_step rfl rfl rfl rfl ?_
  refine wG_step rfl rfl rfl rfl ?_
  have fin : ∀ (h : pv_H) (A : Nat → Int → Int), hp (oM (nT N : Nat)) lM 64 h A → stM (nx (nb N)) (nT N) A → (∀ e : Nat, e < 2 ^ nT N → A 63 e = (kK (nx (nb N)) (nT N) e : Nat)) → wG 11 rX12_mended 82 [(0, .ref 0), (3, .int (Int32.ofInt z))] [] h (fun v h => v = some (.int (Int32.ofInt (mdA N z))) ∧ h.length = 64) := by
    intro h A H S hO
    refine wG_step rfl rfl rfl rfl ?_
    refine wG_step rfl rfl rfl rfl ?_
    refine wG_c2 rfl hz ⟨by decide, by decide⟩ (fun c => ?_) (fun c => ?_)
    · have c1 : ¬ z = -1 := c
      have ez : z = (z.toNat : Nat) := by omega
      refine wG_step rfl rfl rfl rfl ?_
      refine wG_step rfl rfl rfl rfl ?_
      refine wG_step rfl rfl rfl rfl ?_
      refine wG_step rfl rfl rfl rfl ?_
      have := row_M (p := z.toNat) (show nT N < 9 by omega) hnx hmo (by omega) H S hO z.toNat 0 (by omega)
      rw [← ez] at this
      refine wG_pick [0, 3, 5, 6] (by decide) (wG_mono (fun v h q => ?_) this)
      obtain ⟨rfl, rfl⟩ := q
      refine ⟨?_, H.1⟩
      unfold mdA
      rw [if_neg (by omega), if_neg c1]
    · have c1 : z = -1 := Classical.not_not.mp c
      refine wG_step rfl rfl rfl rfl ?_
      refine wG_fld H 0 rfl rfl rfl ?_
      refine wG_step rfl rfl rfl rfl ?_
      refine wG_ldv H 1 _ rfl rfl ⟨by decide, by decide, by decide⟩ (hO 0 (by omega)) ?_
      refine wG_ret rfl rfl ?_
      refine ⟨?_, H.1⟩
      unfold mdA
      rw [if_neg (by omega), if_pos c1]
  have lp : ∀ m i, i + m = nT N → wG 11 rX12_mended 17 [(0, .ref 0), (3, .int (Int32.ofInt z)), (4, .int (Int32.ofInt (i : Nat)))] [] h1 (fun v h => v = some (.int (Int32.ofInt (mdA N z))) ∧ h.length = 64) := by
    intro m
    induction m with
    | zero =>
      intro i hi
      have : i = nT N := by omega
      subst this
      refine wG_step rfl rfl rfl rfl ?_
      refine wG_step rfl rfl rfl rfl ?_
      refine wG_fld H 0 rfl rfl rfl ?_
      refine wG_c2t rfl (rng_n (by omega)) (rng_n (by omega)) (Int.le_refl _) ?_
      refine wG_step rfl rfl rfl rfl ?_
      refine wG_step rfl rfl rfl rfl ?_
      refine wG_fld H 0 rfl rfl rfl ?_
      refine wG_shl rfl (by omega) ?_
      refine wG_step rfl rfl rfl rfl ?_
      refine wG_isub rfl ?_
      rw [show ((2 ^ nT N : Nat) : Int) - 1 = ((2 ^ nT N - 1 : Nat) : Int) by omega]
      refine wG_step rfl rfl rfl rfl ?_
      refine wG_step rfl rfl rfl rfl ?_
      refine wG_step rfl rfl rfl rfl ?_
      exact wG_pick [0, 3, 4, 5] (by decide) (costs_M (show nT N < 9 by omega) hnx hmo fin (2 ^ nT N) _ h1 A' (by omega) (Nat.le_refl _) H S (fun e q1 q2 => absurd q1 (by omega)))
    | succ m ih =>
      intro i hi
      have hx := hnx i (by omega)
      refine wG_step rfl rfl rfl rfl ?_
      refine wG_step rfl rfl rfl rfl ?_
      refine wG_fld H 0 rfl rfl rfl ?_
      refine wG_c2f rfl (rng_n (by omega)) (rng_n (by omega)) (by show ¬ ((nT N : Nat) : Int) ≤ i; omega) ?_
      refine wG_step rfl rfl rfl rfl ?_
      refine wG_fld H 0 rfl rfl rfl ?_
      refine wG_step rfl rfl rfl rfl ?_
      refine wG_fld H 0 rfl rfl rfl ?_
      refine wG_step rfl rfl rfl rfl ?_
      refine wG_ldv H 0 _ rfl rfl ⟨by omega, by omega, by decide⟩ (S.1 i (by omega)) ?_
      refine wG_ldb H 4 rfl rfl (Or.inl rfl) ⟨by omega, by omega, by decide⟩ ?_
      rw [S.2.2 _ hx]
      refine wG_c1t rfl ⟨by decide, by decide⟩ rfl ?_
      refine wG_iinc rfl rfl rfl ?_
      refine wG_step rfl rfl rfl rfl ?_
      exact wG_pick [0, 3, 4] (by decide) (ih (i + 1) (by omega))
  exact wG_pick [0, 3, 4] (by decide) (lp (nT N) 0 (by omega))
theorem eq_mended (c : Int64) (x : Int32) : eqv 123 241 [.ref 0, .long c, .int x] := by
  obtain ⟨N, hN, rfl⟩ := lw_of c
  rw [iI_of x]
  exact ⟨Int32.ofInt (mdA N x.toInt), fun f g hF => mended_C hN (iI_rng x) hF, fun f g hF => mended_M hN (iI_rng x) hF⟩
