/-! THE CLASS MENDS -/
section LC2
variable {d : Nat} {rows : List pv_R} {k : Nat} {lo : pv_L} {h : pv_H} {Q : Option Value → pv_H → Prop} {O : List (Nat × Nat × List Value)} {L : List (Nat × Nat × Nat)} {N : Nat} {A : Nat → Int → Int}
theorem wG_len (H : hp O L N h A) (i : Nat) {a n pc len : Nat} {xs ps : List Nat} {r : List Value} (hi : L[i]? = some (a, 0, n)) (hr : rows[k]? = some (pc, .arraylength, len, xs, ps)) (kk : wG d rows (k + 1) lo (.int (Int32.ofInt (n : Nat)) :: r) h Q) : wG d rows k lo (.ref a :: r) h Q := by
  obtain ⟨F, e1, e2⟩ := H.2.2 _ (List.mem_of_getElem? hi)
  refine wG_step hr rfl rfl (k' := k + 1) (lo' := lo) (st' := .int (Int32.ofInt (n : Nat)) :: r) (h1 := h) ?_ kk
  simp only [pv_x, e1]
  rw [Int32.ofInt_eq_ofNat]
  rfl
theorem fill_W {D : Nat} (H : hp O L N h A) (i : Nat) {a n : Nat} (z : Int) (hi : L[i]? = some (a, 0, n)) (hn : n < 2147483647) (hx : (O.all (fun o => o.1 != a) && L.all (fun p => p.1 != a || p.2 == (0, n))) = true) : wR (D + 1) 250 [.ref a, .int (Int32.ofInt z)] h (vd (fun h1 => hp O L N h1 (fun b j => if b = a then z else A b j))) := by
  refine wR_in (M := mJ7_fill_53178) rfl (Nat.le_of_ble_eq_true rfl) ?_
  refine wG_step rfl rfl rfl rfl ?_
  refine wG_step rfl rfl rfl rfl ?_
  refine wG_step rfl rfl rfl rfl ?_
  refine wG_len H i hi rfl ?_
  refine wG_step rfl rfl rfl rfl ?_
  have lp : ∀ (m q : Nat) (h : pv_H) (A' : Nat → Int → Int), q + m = n → hp O L N h A' → (∀ b j, b ≠ a → A' b j = A b j) → (∀ j : Nat, j < q → A' a j = z) → wG D rJ7_fill_53178 5 [(0, .ref a), (1, .int (Int32.ofInt z)), (2, .int (Int32.ofInt (q : Nat))), (3, .int (Int32.ofInt (n : Nat)))] [] h (vd (fun h1 => hp O L N h1 (fun b j => if b = a then z else A b j))) := by
    intro m
    induction m with
    | zero =>
      intro q h A' hq H h1 h2
      have : q = n := by omega
      subst this
      refine wG_step rfl rfl rfl rfl ?_
      refine wG_step rfl rfl rfl rfl ?_
      refine wG_c2t rfl (rng_n (by omega)) (rng_n (by omega)) (Int.le_refl _) ?_
      refine wG_ret rfl rfl ?_
      refine ⟨rfl, hp_ext H (fun p hp j hj => ?_)⟩
      by_cases hpa : p.1 = a
      · rw [if_pos hpa, hpa]
        refine h2 j ?_
        simp only [Bool.and_eq_true, List.all_eq_true, bne_iff_ne, Bool.or_eq_true, beq_iff_eq] at hx
        rcases hx.2 p hp with q | q
        · exact absurd hpa q
        · rw [q] at hj; exact hj
      · rw [if_neg hpa]
        exact h1 _ _ hpa
    | succ m ih =>
      intro q h A' hq H h1 h2
      refine wG_step rfl rfl rfl rfl ?_
      refine wG_step rfl rfl rfl rfl ?_
      refine wG_c2f rfl (rng_n (by omega)) (rng_n (by omega)) (by show ¬ (n : Int) ≤ q; omega) ?_
      refine wG_step rfl rfl rfl rfl ?_
      refine wG_step rfl rfl rfl rfl ?_
      refine wG_step rfl rfl rfl rfl ?_
      refine wG_sta H i hi rfl ⟨by omega, by omega, by omega⟩ hx (fun h' H' => ?_)
      refine wG_iinc rfl rfl rfl ?_
      refine wG_step rfl rfl rfl rfl ?_
      refine wG_pick [0, 1, 2, 3] (by decide) (ih (q + 1) h' _ (by omega) H' (fun b j hb => ?_) (fun j hj => ?_))
      · rw [u2_ne (fun q => hb q.1)]; exact h1 b j hb
      · by_cases hjq : j = q
        · subst hjq; rw [u2_at]
        · rw [u2_ne (by omega)]; exact h2 j (by omega)
  exact wG_pick [0, 1, 2, 3] (by decide) (lp n 0 h A (by omega) H (fun _ _ _ => rfl) (fun j hj => absurd hj (Nat.not_lt_zero _)))
end LC2
section CE
variable {D : Nat} {h : pv_H}
theorem hp_gC {f : Nat → Nat → Int32} {g : Nat → Nat → Int64} (hF : fr_ok vlC f) : hp (oC 0) lC 79 (gC f g) (fun a _ => (fr_val vlC a).toInt) := by
  refine ⟨rfl, fun o ho => ?_, fun p hp => ?_⟩
  · simp only [oC, List.mem_cons, List.not_mem_nil, or_false] at ho
    rcases ho with rfl | rfl | rfl | rfl <;> rfl
  · have e : ∀ (a n : Nat), fr_len vlC a = n → (∃ t, (gC f g)[a]? = some (.inl (t, n, .inl (f a)))) → ∀ j : Nat, j < n → f a j = Int32.ofInt (fr_val vlC a).toInt := by
      intro a n h1 _ j hj
      rw [Int32.ofInt_toInt]
      exact hF a j (by omega)
    simp only [lC, List.mem_cons, List.not_mem_nil, or_false] at hp
    rcases hp with rfl | rfl | rfl | rfl | rfl | rfl | rfl | rfl <;> exact ⟨_, rfl, e _ _ rfl ⟨_, rfl⟩⟩
theorem tell_C {N : Nat} (hN : N < 18446744073709551616) {A : Nat → Int → Int} {t : Int} (H : hp (oC t) lC 79 h A) (hn : cnt (fun k => N.testBit k) 48 ≤ 8) : wR (D + 2) 63 [.ref 55, .long (Int64.ofNat N)] h (vd (fun h1 => ∃ A', hp (oC (cnt (fun k => N.testBit k) 48 : Nat)) lC 79 h1 A' ∧ (∀ j : Nat, j < cnt (fun k => N.testBit k) 48 → A' 56 j = (nx (fun k => N.testBit k) j : Nat)) ∧ ∀ a j, a ≠ 56 → A' a j = A a j)) := by
  refine wR_in (M := mX6_tell) rfl (Nat.le_of_ble_eq_true rfl) ?_
  refine wG_step rfl rfl rfl rfl ?_
  refine wG_step rfl rfl rfl rfl ?_
  refine wG_stf H 3 rfl rfl (Nat.le_of_ble_eq_true rfl) rfl rfl (fun h0 H0 => ?_)
  refine wG_step rfl rfl rfl rfl ?_
  refine wG_step rfl rfl rfl rfl ?_
  have lp : ∀ (m c : Nat) (h : pv_H) (A' : Nat → Int → Int), c + m = 48 → hp (oC (cnt (fun k => N.testBit k) c : Nat)) lC 79 h A' → (∀ j : Nat, j < cnt (fun k => N.testBit k) c → A' 56 j = (nx (fun k => N.testBit k) j : Nat)) → (∀ a j, a ≠ 56 → A' a j = A a j) → wG (D + 1) rX6_tell 5 [(0, .ref 55), (1, .long (Int64.ofNat N)), (3, .int (Int32.ofInt (c : Nat)))] [] h (vd (fun h1 => ∃ A', hp (oC (cnt (fun k => N.testBit k) 48 : Nat)) lC 79 h1 A' ∧ (∀ j : Nat, j < cnt (fun k => N.testBit k) 48 → A' 56 j = (nx (fun k => N.testBit k) j : Nat)) ∧ ∀ a j, a ≠ 56 → A' a j = A a j)) := by
    intro m
    induction m with
    | zero =>
      intro c h A' hc H h1 h2
      have : c = 48 := by omega
      subst this
      refine wG_step rfl rfl rfl rfl ?_
      refine wG_bip rfl rfl ?_
      refine wG_c2t rfl ⟨by decide, by decide⟩ ⟨by decide, by decide⟩ (Int.le_refl _) ?_
      refine wG_ret rfl rfl ?_
      exact ⟨rfl, A', H, h1, h2⟩
    | succ m ih =>
      intro c h A' hc H h1 h2
      refine wG_step rfl rfl rfl rfl ?_
      refine wG_bip rfl rfl ?_
      refine wG_c2f rfl (rng_n (by omega)) ⟨by decide, by decide⟩ (by show ¬ (48 : Int) ≤ c; omega) ?_
      refine wG_step rfl rfl rfl rfl ?_
      refine wG_step rfl rfl rfl rfl ?_
      refine wG_csV rfl (Nat.le_of_ble_eq_true rfl) rfl (Nat.le_of_ble_eq_true rfl) (isTold_W hN (by omega)) ?_
      have ec : cnt (fun k => N.testBit k) (c + 1) = cnt (fun k => N.testBit k) c + (if N.testBit c = true then 1 else 0) := rfl
      have hm := cnt_mono (fun k => N.testBit k) (c + 1) 48 (by omega)
      cases hb : N.testBit c with
      | false =>
        rw [hb, if_neg (by decide)] at ec
        refine wG_c1t rfl ⟨by decide, by decide⟩ rfl ?_
        refine wG_iinc rfl rfl rfl ?_
        refine wG_step rfl rfl rfl rfl ?_
        refine wG_pick [0, 1, 3] (by decide) (ih (c + 1) h A' (by omega) ?_ ?_ h2)
        · rw [ec]; exact H
        · rw [ec]; exact h1
      | true =>
        rw [hb, if_pos rfl] at ec
        have hx := nx_at (b := fun k => N.testBit k) hb (by omega)
        refine wG_c1f rfl ⟨by decide, by decide⟩ (by show ¬ (1 : Int) = 0; decide) ?_
        refine wG_step rfl rfl rfl rfl ?_
        refine wG_fld H 3 rfl rfl rfl ?_
        refine wG_bip rfl rfl ?_
        refine wG_c2f rfl (rng_n (by omega)) ⟨by decide, by decide⟩ (by show ¬ (8 : Int) ≤ _; omega) ?_
        refine wG_step rfl rfl rfl rfl ?_
        refine wG_fld H 3 rfl rfl rfl ?_
        refine wG_step rfl rfl rfl rfl ?_
        refine wG_fld H 3 rfl rfl rfl ?_
        refine wG_step rfl rfl rfl rfl ?_
        refine wG_sta H 0 rfl rfl ⟨by omega, by omega, by decide⟩ rfl (fun h' H => ?_)
        refine wG_step rfl rfl rfl rfl ?_
        refine wG_step rfl rfl rfl rfl ?_
        refine wG_fld H 3 rfl rfl rfl ?_
        refine wG_step rfl rfl rfl rfl ?_
        refine wG_iadd rfl ?_
        refine wG_stf H 3 rfl rfl (Nat.le_of_ble_eq_true rfl) rfl rfl (fun h' H' => ?_)
        refine wG_iinc rfl rfl rfl ?_
        refine wG_step rfl rfl rfl rfl ?_
        refine wG_pick [0, 1, 3] (by decide) (ih (c + 1) h' (u2 A' 56 (cnt (fun k => N.testBit k) c : Nat) (c : Nat)) (by omega) ?_ (fun j hj => ?_) (fun a j ha => ?_))
        · rw [ec]; exact H'
        · rw [ec] at hj
          by_cases hj2 : j = cnt (fun k => N.testBit k) c
          · subst hj2
            rw [u2_at, hx]
          · rw [u2_ne (by omega)]
            exact h1 j (by omega)
        · rw [u2_ne (fun q => ha q.1)]
          exact h2 a j ha
  exact wG_pick [0, 1, 3] (by decide) (lp 48 0 h0 A (by omega) H0 (fun j hj => absurd hj (Nat.not_lt_zero _)) (fun _ _ _ => rfl))
def invM (cs : Nat → Nat) (n : Nat) (A : Nat → Int → Int) (i : Nat) : Prop := (∀ j : Nat, j < n → A 56 j = (cs j : Nat)) ∧ (∀ j : Int, A 57 j = 0) ∧ (∀ j : Nat, j < 8 → A 22 j = 1) ∧ (∀ j : Nat, j < i → A 58 j = 1) ∧ (∀ j : Nat, j < i → A 59 j = ((1 + cs j % 6 : Nat) : Int)) ∧ (∀ j : Nat, j < i → A 60 j = if blw cs j = true then ((2 ^ (j - 1) : Nat) : Int) else 0)
theorem asMending_C {cs : Nat → Nat} {n : Nat} (hn : n < 9) (hcs : ∀ j, j < n → cs j < 48) {A : Nat → Int → Int} (H : hp (oC n) lC 79 h A) (h56 : ∀ j : Nat, j < n → A 56 j = (cs j : Nat)) (h22 : ∀ j : Nat, j < 8 → A 22 j = 1) : wR (D + 2) 66 [.ref 55, .ref 22] h (vd (fun h1 => ∃ A', hp (oC n) lC 79 h1 A' ∧ stC cs n A')) := by
  refine wR_in (M := mX6_asMending) rfl (Nat.le_of_ble_eq_true rfl) ?_
  refine wG_step rfl rfl rfl rfl ?_
  refine wG_fld H 3 rfl rfl rfl ?_
  refine wG_step rfl rfl rfl rfl ?_
  refine wG_csN rfl (Nat.le_of_ble_eq_true rfl) rfl (Nat.le_of_ble_eq_true rfl) (fill_W H 1 0 rfl (by decide) rfl) (fun h1 H1 => ?_)
  refine wG_step rfl rfl rfl rfl ?_
  refine wG_step rfl rfl rfl rfl ?_
  have lp : ∀ (m i : Nat) (h : pv_H) (A : Nat → Int → Int), i + m = n → hp (oC n) lC 79 h A → invM cs n A i → wG (D + 1) rX6_asMending 6 [(0, .ref 55), (1, .ref 22), (2, .int (Int32.ofInt (i : Nat)))] [] h (vd (fun h1 => ∃ A', hp (oC n) lC 79 h1 A' ∧ stC cs n A')) := by
    intro m
    induction m with
    | zero =>
      intro i h A hi H I
      have : i = n := by omega
      subst this
      refine wG_step rfl rfl rfl rfl ?_
      refine wG_step rfl rfl rfl rfl ?_
      refine wG_fld H 3 rfl rfl rfl ?_
      refine wG_c2t rfl (rng_n (by omega)) (rng_n (by omega)) (Int.le_refl _) ?_
      refine wG_ret rfl rfl ?_
      exact ⟨rfl, A, H, I.1, I.2.1, I.2.2.2.1, I.2.2.2.2.1, I.2.2.2.2.2⟩
    | succ m ih =>
      intro i h A hi H I
      have hin : i < n := by omega
      have hc := hcs i hin
      refine wG_step rfl rfl rfl rfl ?_
      refine wG_step rfl rfl rfl rfl ?_
      refine wG_fld H 3 rfl rfl rfl ?_
      refine wG_c2f rfl (rng_n (by omega)) (rng_n (by omega)) (by show ¬ (n : Int) ≤ i; omega) ?_
      refine wG_step rfl rfl rfl rfl ?_
      refine wG_fld H 3 rfl rfl rfl ?_
      refine wG_step rfl rfl rfl rfl ?_
      refine wG_ldv H 0 _ rfl rfl ⟨by omega, by omega, by decide⟩ (I.1 i hin) ?_
      refine wG_r6 rfl rfl hc ?_
      refine wG_step rfl rfl rfl rfl ?_
      refine wG_step rfl rfl rfl rfl ?_
      refine wG_fld H 3 rfl rfl rfl ?_
      refine wG_step rfl rfl rfl rfl ?_
      refine wG_step rfl rfl rfl rfl ?_
      refine wG_step rfl rfl rfl rfl ?_
      refine wG_fld H 3 rfl rfl rfl ?_
      refine wG_step rfl rfl rfl rfl ?_
      refine wG_ldv H 0 _ rfl rfl ⟨by omega, by omega, by decide⟩ (I.1 i hin) ?_
      refine wG_d6 rfl rfl hc ?_
      refine wG_ldv H 7 _ rfl rfl ⟨by omega, by omega, by decide⟩ (I.2.2.1 _ (by omega)) ?_
      refine wG_sta H 2 rfl rfl ⟨by omega, by omega, by decide⟩ rfl (fun h' H => ?_)
      refine wG_step rfl rfl rfl rfl ?_
      refine wG_fld H 3 rfl rfl rfl ?_
      refine wG_step rfl rfl rfl rfl ?_
      refine wG_step rfl rfl rfl rfl ?_
      refine wG_step rfl rfl rfl rfl ?_
      refine wG_iadd rfl ?_
      refine wG_sta H 3 rfl rfl ⟨by omega, by omega, by decide⟩ rfl (fun h' H => ?_)
      have e56 : ∀ j : Nat, j < n → u2 (u2 A 58 (i : Nat) 1) 59 (i : Nat) (1 + ((cs i % 6 : Nat) : Int)) 56 j = (cs j : Nat) := fun j hj => by
        rw [u2_ne (by omega), u2_ne (by omega)]; exact I.1 j hj
      have mid : ∀ b : Int, (b = 1 ∧ blw cs i = true ∨ b = 0 ∧ blw cs i = false) → wG (D + 1) rX6_asMending 56 [(0, .ref 55), (1, .ref 22), (2, .int (Int32.ofInt (i : Nat))), (3, .int (Int32.ofInt ((cs i % 6 : Nat) : Int)))] [.int (Int32.ofInt b)] h' (vd (fun h1 => ∃ A', hp (oC n) lC 79 h1 A' ∧ stC cs n A')) := by
        intro b hb
        have fin : ∀ v : Int, (v = if blw cs i = true then ((2 ^ (i - 1) : Nat) : Int) else 0) → wG (D + 1) rX6_asMending 69 [(0, .ref 55), (1, .ref 22), (2, .int (Int32.ofInt (i : Nat)))] [.int (Int32.ofInt v), .int (Int32.ofInt (i : Nat)), .ref 60] h' (vd (fun h1 => ∃ A', hp (oC n) lC 79 h1 A' ∧ stC cs n A')) := by
          intro v hv
          refine wG_sta H 4 rfl rfl ⟨by omega, by omega, by decide⟩ rfl (fun h2 H2 => ?_)
          refine wG_iinc rfl rfl rfl ?_
          refine wG_step rfl rfl rfl rfl ?_
          refine wG_pick [0, 1, 2] (by decide) (ih (i + 1) h2 _ (by omega) H2 ⟨fun j hj => ?_, fun j => ?_, fun j hj => ?_, fun j hj => ?_, fun j hj => ?_, fun j hj => ?_⟩)
          · rw [u2_ne (by omega)]; exact e56 j hj
          · rw [u2_ne (by omega), u2_ne (by omega), u2_ne (by omega)]; exact I.2.1 j
          · rw [u2_ne (by omega), u2_ne (by omega), u2_ne (by omega)]; exact I.2.2.1 j hj
          · rw [u2_ne (by omega), u2_ne (by omega)]
            by_cases hji : j = i
            · subst hji; rw [u2_at]
            · rw [u2_ne (by omega)]; exact I.2.2.2.1 j (by omega)
          · rw [u2_ne (by omega)]
            by_cases hji : j = i
            · subst hji; rw [u2_at]; omega
            · rw [u2_ne (by omega), u2_ne (by omega)]; exact I.2.2.2.2.1 j (by omega)
          · by_cases hji : j = i
            · subst hji; rw [u2_at]; exact hv
            · rw [u2_ne (by omega), u2_ne (by omega), u2_ne (by omega)]; exact I.2.2.2.2.2 j (by omega)
        refine wG_step rfl rfl rfl rfl ?_
        refine wG_step rfl rfl rfl rfl ?_
        refine wG_fld H 3 rfl rfl rfl ?_
        refine wG_step rfl rfl rfl rfl ?_
        refine wG_step rfl rfl rfl rfl ?_
        rcases hb with ⟨rfl, hb⟩ | ⟨rfl, hb⟩
        · refine wG_c1f rfl ⟨by decide, by decide⟩ (by show ¬ (1 : Int) = 0; decide) ?_
          have hi0 : 0 < i := by
            unfold blw at hb
            simp only [Bool.and_eq_true, decide_eq_true_eq] at hb
            exact hb.1
          refine wG_step rfl rfl rfl rfl ?_
          refine wG_step rfl rfl rfl rfl ?_
          refine wG_step rfl rfl rfl rfl ?_
          refine wG_isub rfl ?_
          rw [show (i : Int) - 1 = ((i - 1 : Nat) : Int) by omega]
          refine wG_shl rfl (by omega) ?_
          refine wG_step rfl rfl rfl rfl ?_
          refine wG_pick [0, 1, 2] (by decide) (fin _ ?_)
          rw [if_pos hb]
        · refine wG_c1t rfl ⟨by decide, by decide⟩ rfl ?_
          refine wG_step rfl rfl rfl rfl ?_
          refine wG_pick [0, 1, 2] (by decide) (fin _ ?_)
          rw [if_neg (by rw [hb]; decide)]
      refine wG_step rfl rfl rfl rfl ?_
      refine wG_c1 rfl (rng_n (by omega)) (fun c => ?_) (fun c => ?_)
      · have c1 : (i : Int) ≤ 0 := c
        refine wG_step rfl rfl rfl rfl ?_
        refine wG_pick [0, 1, 2, 3] (by decide) (mid 0 (Or.inr ⟨rfl, ?_⟩))
        unfold blw
        rw [decide_eq_false (by omega : ¬ 0 < i)]
        rfl
      have c1 : ¬ (i : Int) ≤ 0 := c
      refine wG_step rfl rfl rfl rfl ?_
      refine wG_c1 rfl (rng_n (by omega)) (fun c => ?_) (fun c => ?_)
      · have c2 : ((cs i % 6 : Nat) : Int) ≤ 0 := c
        refine wG_step rfl rfl rfl rfl ?_
        refine wG_pick [0, 1, 2, 3] (by decide) (mid 0 (Or.inr ⟨rfl, ?_⟩))
        unfold blw
        rw [decide_eq_false (by omega : ¬ 0 < cs i % 6)]
        simp
      have c2 : ¬ ((cs i % 6 : Nat) : Int) ≤ 0 := c
      refine wG_step rfl rfl rfl rfl ?_
      refine wG_fld H 3 rfl rfl rfl ?_
      refine wG_step rfl rfl rfl rfl ?_
      refine wG_step rfl rfl rfl rfl ?_
      refine wG_isub rfl ?_
      rw [show (i : Int) - 1 = ((i - 1 : Nat) : Int) by omega]
      refine wG_ldv H 0 _ rfl rfl ⟨by omega, by omega, by decide⟩ (e56 (i - 1) (by omega)) ?_
      refine wG_step rfl rfl rfl rfl ?_
      refine wG_fld H 3 rfl rfl rfl ?_
      refine wG_step rfl rfl rfl rfl ?_
      refine wG_ldv H 0 _ rfl rfl ⟨by omega, by omega, by decide⟩ (e56 i hin) ?_
      refine wG_step rfl rfl rfl rfl ?_
      refine wG_isub rfl ?_
      have hc2 := hcs (i - 1) (by omega)
      refine wG_c2 rfl (rng_n (by omega)) ⟨by omega, by omega⟩ (fun c => ?_) (fun c => ?_)
      · have c3 : ¬ ((cs (i - 1) : Nat) : Int) = (cs i : Nat) - 1 := c
        refine wG_step rfl rfl rfl rfl ?_
        refine wG_pick [0, 1, 2, 3] (by decide) (mid 0 (Or.inr ⟨rfl, ?_⟩))
        unfold blw
        rw [decide_eq_false (by omega : ¬ cs (i - 1) + 1 = cs i)]
        simp
      · have c3 : ((cs (i - 1) : Nat) : Int) = (cs i : Nat) - 1 := Classical.not_not.mp c
        refine wG_step rfl rfl rfl rfl ?_
        refine wG_step rfl rfl rfl rfl ?_
        refine wG_pick [0, 1, 2, 3] (by decide) (mid 1 (Or.inl ⟨rfl, ?_⟩))
        unfold blw
        rw [decide_eq_true (by omega : cs (i - 1) + 1 = cs i), decide_eq_true (by omega : 0 < cs i % 6), decide_eq_true (by omega : 0 < i)]
        rfl
  exact wG_pick [0, 1, 2] (by decide) (lp n 0 h1 _ (by omega) H1 ⟨fun j hj => (if_neg (by decide)).trans (h56 j hj), fun j => if_pos rfl, fun j hj => (if_neg (by decide)).trans (h22 j hj), fun j hj => absurd hj (Nat.not_lt_zero _), fun j hj => absurd hj (Nat.not_lt_zero _), fun j hj => absurd hj (Nat.not_lt_zero _)⟩)
/-- what is answered -/
def nb (N : Nat) : Nat → Bool := fun k => N.testBit k
def mdA (N : Nat) (z : Int) : Int := if nT N < 1 ∨ z < -1 ∨ (nT N : Int) ≤ z then -3 else if z = -1 then (kK (nx (nb N)) (nT N) 0 : Nat) else (nx (nb N) (pk (nx (nb N)) (nT N) (dD (nx (nb N)) (nT N) z.toNat)) : Nat)
theorem nT_le (N : Nat) : nT N ≤ 8 := by unfold nT; split <;> omega
theorem nT_pos {N : Nat} (h : 1 ≤ nT N) : N < 281474976710656 ∧ cnt (fun k => N.testBit k) 48 = nT N := by
  unfold nT at h ⊢
  split at h
  · next q => rw [if_pos q]; exact ⟨q.1, rfl⟩
  · omega
theorem least_C {cs : Nat → Nat} {n : Nat} {A : Nat → Int → Int} {t v : Int} (H : hp (oC t) lC 79 h A) (hv : A 61 8 = v) : wR (D + 1) 72 [.ref 55] h (is0 h v) := by
  refine wR_in (M := mX6_least) rfl (Nat.le_of_ble_eq_true rfl) ?_
  refine wG_step rfl rfl rfl rfl ?_
  refine wG_fld H 3 rfl rfl rfl ?_
  refine wG_bip rfl rfl ?_
  refine wG_ldv H 5 _ rfl rfl ⟨by decide, by decide, by decide⟩ hv ?_
  refine wG_ret rfl rfl ?_
  exact ⟨rfl, rfl⟩
theorem within_C {a b : Int} (ha : rng a) (hb : rng b) : wR (D + 1) 138 [.int (Int32.ofInt a), .int (Int32.ofInt b)] h (is0 h (if 0 ≤ a ∧ a ≤ b then 1 else 0)) := by
  refine wR_in (M := mX11_within) rfl (Nat.le_of_ble_eq_true rfl) ?_
  refine wG_step rfl rfl rfl rfl ?_
  refine wG_c1 rfl ha (fun c => ?_) (fun c => ?_)
  · have c1 : a < 0 := c
    refine wG_step rfl rfl rfl rfl ?_
    refine wG_ret rfl rfl ?_
    rw [if_neg (by omega)]
    exact ⟨rfl, rfl⟩
  have c1 : ¬ a < 0 := c
  refine wG_step rfl rfl rfl rfl ?_
  refine wG_step rfl rfl rfl rfl ?_
  refine wG_c2 rfl ha hb (fun c => ?_) (fun c => ?_)
  · have c2 : b < a := c
    refine wG_step rfl rfl rfl rfl ?_
    refine wG_ret rfl rfl ?_
    rw [if_neg (by omega)]
    exact ⟨rfl, rfl⟩
  · have c2 : ¬ b < a := c
    refine wG_step rfl rfl rfl rfl ?_
    refine wG_step rfl rfl rfl rfl ?_
    refine wG_ret rfl rfl ?_
    rw [if_pos (by omega)]
    exact ⟨rfl, rfl⟩
theorem cellAt_C {A : Nat → Int → Int} {t v : Int} {p : Nat} (hp8 : p < 8) (H : hp (oC t) lC 79 h A) (hv : A 62 p = v) : wR (D + 2) 73 [.ref 55, .int (Int32.ofInt (p : Nat))] h (is0 h v) := by
  refine wR_in (M := mX6_cellAt) rfl (Nat.le_of_ble_eq_true rfl) ?_
  refine wG_step rfl rfl rfl rfl ?_
  refine wG_bip rfl rfl ?_
  refine wG_csV rfl (Nat.le_of_ble_eq_true rfl) rfl (Nat.le_of_ble_eq_true rfl) (within_C (rng_n (by omega)) ⟨by decide, by decide⟩) ?_
  rw [if_pos (by omega)]
  refine wG_c1f rfl ⟨by decide, by decide⟩ (by show ¬ (1 : Int) = 0; decide) ?_
  refine wG_step rfl rfl rfl rfl ?_
  refine wG_fld H 3 rfl rfl rfl ?_
  refine wG_step rfl rfl rfl rfl ?_
  refine wG_ldv H 6 _ rfl rfl ⟨by omega, by omega, by decide⟩ hv ?_
  refine wG_step rfl rfl rfl rfl ?_
  refine wG_ret rfl rfl ?_
  exact ⟨rfl, rfl⟩
theorem lg_0 (x : Int64) : lg_cmp (x &&& 0) (Int64.ofNat 0) = Int32.ofInt 0 := by
  have h1 : x &&& 0 = (0 : Int64) := by
    apply lw_inj
    rw [Int64.toBitVec_and]
    exact BitVec.and_zero
  rw [h1]
  decide
theorem mended_C {N : Nat} (hN : N < 18446744073709551616) {z : Int} (hz : rng z) {f : Nat → Nat → Int32} {g : Nat → Nat → Int64} (hF : fr_ok vlC f) : wR 12 123 [.ref 0, .long (Int64.ofNat N), .int (Int32.ofInt z)] (gC f g) (fun v h => v = some (.int (Int32.ofInt (mdA N z))) ∧ h.length = 79) := by
  have H := hp_gC (g := g) hF
  have h8 := nT_le N
  refine wR_in (M := mX11_mended) rfl (Nat.le_of_ble_eq_true rfl) ?_
  refine wG_step rfl rfl rfl rfl ?_
  refine wG_bip rfl rfl ?_
  refine wG_csV rfl (Nat.le_of_ble_eq_true rfl) rfl (Nat.le_of_ble_eq_true rfl) (toldCells_W hN) ?_
  refine wG_step rfl rfl rfl rfl ?_
  refine wG_step rfl rfl rfl rfl ?_
  refine wG_step rfl rfl rfl rfl ?_
  have bad : (nT N < 1 ∨ z < -1 ∨ (nT N : Int) ≤ z) → wG 11 rX11_mended 21 [(0, .ref 0), (1, .long (Int64.ofNat N)), (3, .int (Int32.ofInt z)), (4, .int (Int32.ofInt (nT N : Nat)))] [] (gC f g) (fun v h => v = some (.int (Int32.ofInt (mdA N z))) ∧ h.length = 79) := by
    intro hb
    refine wG_bip rfl rfl ?_
    refine wG_ret rfl rfl ?_
    refine ⟨?_, rfl⟩
    unfold mdA
    rw [if_pos hb]
  refine wG_c2 rfl (rng_n (by omega)) ⟨by decide, by decide⟩ (fun c => ?_) (fun c => ?_)
  · have c1 : (nT N : Int) < 1 := c
    exact wG_pick [0, 1, 3, 4] (by decide) (bad (Or.inl (by omega)))
  have c1 : ¬ (nT N : Int) < 1 := c
  refine wG_step rfl rfl rfl rfl ?_
  refine wG_step rfl rfl rfl rfl ?_
  refine wG_fld H 0 rfl rfl rfl ?_
  refine wG_fld H 1 rfl rfl rfl ?_
  refine wG_step rfl rfl rfl rfl ?_
  refine wG_step rfl rfl rfl rfl ?_
  refine wG_step rfl rfl rfl rfl ?_
  refine wG_as rfl (lg_0 _) ?_
  refine wG_c1f rfl ⟨by decide, by decide⟩ (by show ¬ (0 : Int) ≠ 0; decide) ?_
  refine wG_step rfl rfl rfl rfl ?_
  refine wG_step rfl rfl rfl rfl ?_
  refine wG_c2 rfl hz ⟨by decide, by decide⟩ (fun c => ?_) (fun c => ?_)
  · have c2 : z < -1 := c
    exact wG_pick [0, 1, 3, 4] (by decide) (bad (Or.inr (Or.inl c2)))
  have c2 : ¬ z < -1 := c
  refine wG_step rfl rfl rfl rfl ?_
  refine wG_step rfl rfl rfl rfl ?_
  refine wG_c2 rfl hz (rng_n (by omega)) (fun c => ?_) (fun c => ?_)
  · have c3 : z < (nT N : Int) := c
    obtain ⟨h48, hcn⟩ := nT_pos (N := N) (by omega)
    refine wG_step rfl rfl rfl rfl ?_
    refine wG_fld H 0 rfl rfl rfl ?_
    refine wG_step rfl rfl rfl rfl ?_
    refine wG_cvN H 3 rfl rfl rfl (Nat.le_of_ble_eq_true rfl) (tell_C hN H (by omega)) (fun h1 q => ?_)
    obtain ⟨A1, H, t1, t2⟩ := q
    rw [hcn] at H t1
    refine wG_step rfl rfl rfl rfl ?_
    refine wG_fld H 0 rfl rfl rfl ?_
    refine wG_step rfl rfl rfl rfl ?_
    refine wG_fld H 0 rfl rfl rfl ?_
    refine wG_fld H 2 rfl rfl rfl ?_
    refine wG_cvN H 3 rfl rfl rfl (Nat.le_of_ble_eq_true rfl) (asMending_C (cs := nx (nb N)) (by omega) (fun j hj => (nx_lt (b := nb N) (by show j < cnt (fun k => N.testBit k) 48; omega)).1) H t1 (fun j hj => by rw [t2 22 j (by decide)]; rfl)) (fun h2 q => ?_)
    obtain ⟨A2, H, S⟩ := q
    refine wG_step rfl rfl rfl rfl ?_
    refine wG_fld H 0 rfl rfl rfl ?_
    refine wG_cvN H 3 rfl rfl rfl (Nat.le_of_ble_eq_true rfl) (solve_C (by omega) H S) (fun h3 q => ?_)
    obtain ⟨A3, H, k1, k2⟩ := q
    refine wG_step rfl rfl rfl rfl ?_
    refine wG_step rfl rfl rfl rfl ?_
    refine wG_c2 rfl hz ⟨by decide, by decide⟩ (fun c => ?_) (fun c => ?_)
    · have c4 : ¬ z = -1 := c
      refine wG_step rfl rfl rfl rfl ?_
      refine wG_fld H 0 rfl rfl rfl ?_
      refine wG_step rfl rfl rfl rfl ?_
      have ez : z = (z.toNat : Nat) := by omega
      refine wG_cvV H 3 rfl rfl rfl (Nat.le_of_ble_eq_true rfl) (z := (nx (nb N) (pk (nx (nb N)) (nT N) (dD (nx (nb N)) (nT N) z.toNat)) : Nat)) ?_ ?_
      · have := cellAt_C (D := 9) (p := z.toNat) (by omega) H (k2 z.toNat (by omega))
        rw [← ez] at this
        exact this
      refine wG_ret rfl rfl ?_
      refine ⟨?_, H.1⟩
      unfold mdA
      rw [if_neg (by omega), if_neg c4]
    · have c4 : z = -1 := Classical.not_not.mp c
      refine wG_step rfl rfl rfl rfl ?_
      refine wG_fld H 0 rfl rfl rfl ?_
      refine wG_cvV H 3 rfl rfl rfl (Nat.le_of_ble_eq_true rfl) (least_C (cs := nx (nb N)) (n := nT N) H k1) ?_
      refine wG_step rfl rfl rfl rfl ?_
      refine wG_ret rfl rfl ?_
      refine ⟨?_, H.1⟩
      unfold mdA
      rw [if_neg (by omega), if_pos c4]
  · have c3 : ¬ z < (nT N : Int) := c
    exact wG_pick [0, 1, 3, 4] (by decide) (bad (Or.inr (Or.inr (by omega))))
end CE
