/-! THE TWO GARDENS ALIKE: cells -/
/-- of one cell: net, farmer, what lies in it -/
def RN (A1 A2 : qA) (c : Int) : Prop := (HG A1 c ↔ A2 1 c ≠ 0) ∧ (A2 1 c ≠ 0 → (A1 2 c = A2 3 c ∧ A1 3 c = A2 4 c ∧ A1 4 c = A2 5 c ∧ A1 5 c = A2 6 c) ∧ (A1 8 c = A2 9 c ∧ A1 9 c = A2 10 c))
/-- of one cell: its crop -/
def RK (A1 A2 : qA) (c : Int) : Prop := A2 1 c ≠ 0 → (A1 6 c = A2 7 c ∧ A1 7 c = A2 8 c ∧ A1 10 c = A2 2 c) ∧ (A2 7 c = -1 → A2 8 c = 0 ∧ A2 2 c = 0) ∧ (-1 ≤ A2 7 c ∧ A2 7 c ≤ 5) ∧ (A2 2 c = 0 ∨ A2 2 c = 1) ∧ (0 ≤ A2 8 c ∧ A2 8 c ≤ 200)
def RC1 (A1 A2 : qA) (c : Int) : Prop := RN A1 A2 c ∧ RK A1 A2 c
def RC (A1 A2 : qA) : Prop := (∀ c, 0 ≤ c → c < 48 → RC1 A1 A2 c) ∧ ∀ c, 0 ≤ c → c < 48 → c % 6 ≠ 0 → A2 1 c ≠ 0 → A2 1 (c - 1) ≠ 0
/-- kinds, brow, kitchens, ropes, the day, the seed -/
def RB (A1 A2 : qA) : Prop := (∀ k, 0 ≤ k → k < 6 → (A1 11 k = A2 11 k ∧ A1 12 k = A2 12 k ∧ A1 13 k = A2 13 k) ∧ (0 ≤ A2 11 k ∧ A2 11 k ≤ 20) ∧ (1 ≤ A2 12 k ∧ A2 12 k ≤ 200) ∧ (0 ≤ A2 13 k ∧ A2 13 k ≤ 99)) ∧ (∀ x, 0 ≤ x → x < 8 → (A1 16 x = A2 14 x ∧ A1 17 x = A2 15 x ∧ A1 18 x = A2 16 x) ∧ (A1 19 x = A2 17 x ∧ A1 20 x = A2 18 x) ∧ (A1 21 x = A2 20 x ∧ A1 22 x = A2 21 x) ∧ (0 ≤ A2 14 x ∧ A2 14 x ≤ 99)) ∧ A1 15 (fd 8) = A2 0 (fd 0) ∧ A1 0 (fd 11) = A2 0 (fd 1) ∧ (0 ≤ A2 0 (fd 1) ∧ A2 0 (fd 1) ≤ 65535)
/-- falls -/
def RF (A1 A2 : qA) : Prop := A1 24 (fd 9) = A2 0 (fd 2) ∧ (0 ≤ A2 0 (fd 2) ∧ A2 0 (fd 2) ≤ 60) ∧ ∀ i, 0 ≤ i → i < A2 0 (fd 2) → (A1 25 i = A2 38 i ∧ A1 26 i = A2 39 i ∧ A1 27 i = A2 40 i ∧ A1 30 i = A2 41 i ∧ A1 33 i = A2 43 i) ∧ A1 28 i = A2 45 i ∧ A1 29 i = A2 46 i
/-- the law -/
def RL36 (A1 A2 : qA) : Prop := ∃ (n : Int) (lk : Int → Int) (T : List pX), n ≤ 200 ∧ lkok n lk ∧ goodT n lk 0 T ∧ txLen 0 T ≤ 200 ∧ T.length ≤ 14 ∧ txC36 A1 T ∧ txM A2 T
/-- the law -/
def RL71 (A1 A2 : qA) : Prop := ∃ (n : Int) (lk : Int → Int) (T : List pX), n ≤ 200 ∧ lkok n lk ∧ goodT n lk 0 T ∧ txLen 0 T ≤ 200 ∧ T.length ≤ 14 ∧ txC71 A1 T ∧ txM A2 T
def aRN : List Nat := [2, 3, 4, 5, 8, 9]
def aRNm : List Nat := [3, 4, 5, 6, 9, 10]
def aRK : List Nat := [6, 7, 10]
def aRKm : List Nat := [7, 8, 2]
/-- the places of number d of some rows stay -/
def at_ (L : List Nat) (d : Int) (A B : qA) : Prop := ∀ r ∈ L, B r d = A r d
theorem at_0 (L : List Nat) (d : Int) (A : qA) : at_ L d A A := fun _ _ => rfl
theorem at_c {L : List Nat} {d : Int} {A B C : qA} (h : at_ L d A B) (g : at_ L d B C) : at_ L d A C := fun r hr => (g r hr).trans (h r hr)
theorem at_j {L : List Nat} {d : Int} {A B : qA} (h : at_ L d A B) {r : Nat} {j v : Int} (e : d ≠ j) : at_ L d A (qu B r j v) := fun b hb => (if_neg (fun q => e q.2)).trans (h b hb)
theorem at_n {L : List Nat} {d : Int} {A B : qA} (h : at_ L d A B) {r : Nat} {j v : Int} (e : L.contains r = false) : at_ L d A (qu B r j v) := fun b hb => by
  rw [qu_ne (show b ≠ r from fun q => by
    rw [q] at hb
    have := List.contains_iff_mem.mpr hb
    rw [this] at e
    cases e)]
  exact h b hb
theorem at_f {L : List Nat} {d : Int} {W : List Nat} {V : List (Nat × Nat)} {A B : qA} (f : frm W V A B) (c : (L.all (fun r => noW r W && noV r V)) = true) : at_ L d A B := fun r hr => by rw [frm_a f (List.all_eq_true.mp c r hr)]
theorem RN_e {A1 A2 B1 B2 : qA} {c : Int} (h : RN A1 A2 c) (e1 : B1 1 (fd 0) = A1 1 (fd 0)) (e2 : B2 1 c = A2 1 c) (f : at_ aRN c A1 B1) (g : at_ aRNm c A2 B2) : RN B1 B2 c := by
  unfold RN
  rw [HG_k e1 c, e2, f 2 (by decide), f 3 (by decide), f 4 (by decide), f 5 (by decide), f 8 (by decide), f 9 (by decide), g 3 (by decide), g 4 (by decide), g 5 (by decide), g 6 (by decide), g 9 (by decide), g 10 (by decide)]
  exact h
theorem RK_e {A1 A2 B1 B2 : qA} {c : Int} (h : RK A1 A2 c) (e2 : B2 1 c = A2 1 c) (f : at_ aRK c A1 B1) (g : at_ aRKm c A2 B2) : RK B1 B2 c := by
  unfold RK
  rw [e2, f 6 (by decide), f 7 (by decide), f 10 (by decide), g 7 (by decide), g 8 (by decide), g 2 (by decide)]
  exact h
/-- cells are alike where those that hang are -/
theorem RC_pt {A1 A2 B1 B2 : qA} (h : RC A1 A2) (e1 : B1 1 (fd 0) = A1 1 (fd 0)) (e2 : B2 1 = A2 1) (hp : ∀ d, 0 ≤ d → d < 48 → A2 1 d ≠ 0 → RC1 B1 B2 d) : RC B1 B2 := by
  refine ⟨fun c h0 h1 => ?_, fun c h0 h1 h2 h3 => ?_⟩
  · by_cases q : A2 1 c = 0
    · have q2 : B2 1 c = 0 := by rw [e2]; exact q
      refine ⟨⟨?_, fun z => absurd q2 z⟩, fun z => absurd q2 z⟩
      rw [HG_k e1 c, e2]
      exact (h.1 c h0 h1).1.1
    · exact hp c h0 h1 q
  · rw [e2] at h3 ⊢
    exact h.2 c h0 h1 h2 h3
theorem RC_fr {A1 A2 B1 B2 : qA} (h : RC A1 A2) (e1 : B1 1 (fd 0) = A1 1 (fd 0)) (e2 : B1 2 = A1 2 ∧ B1 3 = A1 3 ∧ B1 4 = A1 4 ∧ B1 5 = A1 5 ∧ B1 6 = A1 6 ∧ B1 7 = A1 7 ∧ B1 8 = A1 8 ∧ B1 9 = A1 9 ∧ B1 10 = A1 10) (f2 : B2 1 = A2 1 ∧ B2 2 = A2 2 ∧ B2 3 = A2 3 ∧ B2 4 = A2 4 ∧ B2 5 = A2 5 ∧ B2 6 = A2 6 ∧ B2 7 = A2 7 ∧ B2 8 = A2 8 ∧ B2 9 = A2 9 ∧ B2 10 = A2 10) : RC B1 B2 := by
  obtain ⟨a2, a3, a4, a5, a6, a7, a8, a9, a10⟩ := e2
  obtain ⟨b1, b2, b3, b4, b5, b6, b7, b8, b9, b10⟩ := f2
  refine ⟨fun c h0 h1 => ?_, fun c h0 h1 h2 h3 => ?_⟩
  · have := h.1 c h0 h1
    unfold RC1 RN RK at this ⊢
    rw [HG_k e1 c, a2, a3, a4, a5, a6, a7, a8, a9, a10, b1, b2, b3, b4, b5, b6, b7, b8, b9, b10]
    exact this
  · rw [b1] at h3 ⊢
    exact h.2 c h0 h1 h2 h3
/-- a cell with a crop: both say so -/
theorem crop_is {A1 A2 : qA} {c : Int} (h : RC1 A1 A2 c) (h0 : 0 ≤ c) (h1 : c < 48) : (0 ≤ c ∧ c ≤ 47 ∧ HG A1 c ∧ 0 ≤ A1 6 c ∧ A1 6 c ≤ 5) ↔ (A2 1 c ≠ 0 ∧ A2 7 c ≠ -1) := by
  obtain ⟨⟨a, _⟩, b⟩ := h
  constructor
  · rintro ⟨_, _, h2, h3, h4⟩
    have h5 := a.mp h2
    have := (b h5).1.1
    exact ⟨h5, by omega⟩
  · rintro ⟨h5, h6⟩
    obtain ⟨⟨g1, _⟩, _, ⟨g2, g3⟩, _⟩ := b h5
    exact ⟨h0, by omega, a.mpr h5, by omega, by omega⟩
theorem hang_is {A1 A2 : qA} {c : Int} (h : RC1 A1 A2 c) (h0 : 0 ≤ c) (h1 : c < 48) : (0 ≤ c ∧ c ≤ 47 ∧ HG A1 c) ↔ A2 1 c ≠ 0 :=
  ⟨fun q => h.1.1.mp q.2.2, fun q => ⟨h0, by omega, h.1.1.mpr q⟩⟩
/-- loads -/
theorem wI_add (a b : Int) : wI (a + wI b) = wI (a + b) := by
  unfold wI
  rw [Int32.toInt_ofInt, Int32.toInt_ofInt, Int32.toInt_ofInt]
  exact Int.add_bmod_bmod
theorem wI_wI (a : Int) : wI (wI a) = wI a := by
  have := wI_add 0 a
  rw [Int.zero_add, Int.zero_add] at this
  exact this
/-- below a cell that does not hang none hangs -/
theorem RC_below {A1 A2 : qA} (h : RC A1 A2) {c : Int} : ∀ (m : Nat) (d : Int), d = c + m → 0 ≤ c → d < 48 → d / 6 = c / 6 → A2 1 c = 0 → A2 1 d = 0
  | 0, d, hd, h0, h1, h2, h3 => by
    rw [show d = c by omega]; exact h3
  | m + 1, d, hd, h0, h1, h2, h3 => by
    have ih := RC_below h m (d - 1) (by omega) h0 (by omega) (by omega) h3
    by_cases q : A2 1 d = 0
    · exact q
    · exact absurd ih (h.2 d (by omega) h1 (by omega) q)
theorem loadM_0 {A1 A2 : qA} (h : RC A1 A2) {c : Int} (h0 : 0 ≤ c) (h1 : c < 48) : ∀ (m F : Nat) (s k : Int), m < F → 6 * (c / 6 + 1) - k ≤ m → c ≤ k → (k < 6 * (c / 6 + 1) → A2 1 k = 0) → rng s → fM_loadOf_L F 4 [c, s, k] A2 = s
  | _, 0, _, _, h, _, _, _, _ => absurd h (Nat.not_lt_zero _)
  | m, F + 1, s, k, hF, hm, hk, hz, hs => by
    rw [fM_loadOf_L4]
    unfold fM_loadOf_c4
    simp only [qlet]
    rw [qd_nn h0, show wI (6 * (c / 6 + 1)) = 6 * (c / 6 + 1) from wI_id ⟨by omega, by omega⟩]
    by_cases hk2 : k < 6 * (c / 6 + 1)
    · rw [if_pos hk2, if_pos (hz hk2), Int.add_zero, wI_id hs, show wI (k + 1) = k + 1 from wI_id ⟨by omega, by omega⟩]
      cases m with
      | zero => exfalso; omega
      | succ m => exact loadM_0 h h0 h1 m F s (k + 1) (by omega) (by omega) (by omega) (fun q => RC_below h (c := k) 1 (k + 1) rfl (by omega) (by omega) (by omega) (hz hk2)) hs
    · rw [if_neg hk2]
theorem load_L {A1 A2 : qA} (h : RC A1 A2) {c : Int} (h0 : 0 ≤ c) (h1 : c < 48) : ∀ (m F1 F2 : Nat) (s k : Int), m < F1 → m < F2 → 6 * (c / 6 + 1) - k ≤ m → c ≤ k → rng s → fC_loadOf_L F1 7 [s, 6 * (c / 6 + 1), k] A1 = fM_loadOf_L F2 4 [c, s, k] A2
  | _, 0, _, _, _, h, _, _, _, _ => absurd h (Nat.not_lt_zero _)
  | _, _, 0, _, _, _, h, _, _, _ => absurd h (Nat.not_lt_zero _)
  | m, F1 + 1, F2 + 1, s, k, hF1, hF2, hm, hk, hs => by
    by_cases hk2 : k < 6 * (c / 6 + 1)
    · have hg := hang_is (h.1 k (by omega) (by omega)) (by omega) (by omega)
      by_cases hh : A2 1 k = 0
      · rw [loadM_0 h h0 h1 m (F2 + 1) s k (by omega) hm hk (fun _ => hh) hs, fC_loadOf_L7]
        unfold fC_loadOf_c7
        simp only [qlet]
        rw [if_pos hk2, if_neg (fun q => hg.mp q hh)]
      · obtain ⟨⟨_, g2, _, _⟩, ⟨g8, g9⟩⟩ := (h.1 k (by omega) (by omega)).1.2 hh
        have g6 := ((h.1 k (by omega) (by omega)).2 hh).1.2.1
        rw [fC_loadOf_L7, fM_loadOf_L4]
        unfold fC_loadOf_c7 fM_loadOf_c4 fM_ownLoad
        simp only [qlet]
        rw [if_pos hk2, if_pos (hg.mpr hh), qd_nn h0, show wI (6 * (c / 6 + 1)) = 6 * (c / 6 + 1) from wI_id ⟨by omega, by omega⟩, if_pos hk2, if_neg hh, g2, g6, g8, g9, wI_add, show wI (k + 1) = k + 1 from wI_id ⟨by omega, by omega⟩]
        cases m with
        | zero => exfalso; omega
        | succ m => exact load_L h h0 h1 m F1 F2 _ (k + 1) (by omega) (by omega) (by omega) (by omega) (wI_rng _)
    · rw [fC_loadOf_L7, fM_loadOf_L4]
      unfold fC_loadOf_c7 fM_loadOf_c4
      simp only [qlet]
      rw [if_neg hk2, qd_nn h0, show wI (6 * (c / 6 + 1)) = 6 * (c / 6 + 1) from wI_id ⟨by omega, by omega⟩, if_neg hk2]
theorem load_is {A1 A2 : qA} (h : RC A1 A2) {c : Int} (h0 : 0 ≤ c) (h1 : c < 48) : fC_loadOf c A1 = fM_loadOf c A2 := by
  have e1 : fC_loadOf c A1 = fC_loadOf_L 100000 7 [0, 6 * (c / 6 + 1), c] A1 := by
    unfold fC_loadOf
    rw [show c - c % 6 + 6 = 6 * (c / 6 + 1) by omega]
  rw [e1]
  exact load_L h h0 h1 10 100000 100000 0 c (by decide) (by decide) (by omega) (Int.le_refl _) ⟨by decide, by decide⟩
/-- which goes first -/
theorem first_L {A1 A2 : qA} (h : RC A1 A2) : ∀ (m F1 F2 : Nat) (k : Int), m < F1 → m < F2 → 48 - k ≤ m → 0 ≤ k → fC_firstOverloaded_L F1 2 [k] A1 = fM_firstGoing_L F2 2 [k] A2
  | _, 0, _, _, h, _, _, _ => absurd h (Nat.not_lt_zero _)
  | _, _, 0, _, _, h, _, _ => absurd h (Nat.not_lt_zero _)
  | m, F1 + 1, F2 + 1, k, hF1, hF2, hm, hk => by
    rw [fC_firstOverloaded_L2, fM_firstGoing_L2]
    unfold fC_firstOverloaded_c2 fM_firstGoing_c2
    simp only [qlet]
    by_cases hk2 : k < 48
    · have hg := hang_is (h.1 k hk hk2) hk hk2
      have hw : wI (k + 1) = k + 1 := wI_id ⟨by omega, by omega⟩
      have hnx : fC_firstOverloaded_L F1 2 [k + 1] A1 = fM_firstGoing_L F2 2 [k + 1] A2 := by
        cases m with
        | zero => exfalso; omega
        | succ m => exact first_L h m F1 F2 (k + 1) (by omega) (by omega) (by omega) (by omega)
      rw [if_pos hk2, if_pos hk2, hw]
      by_cases hh : A2 1 k = 0
      · rw [if_neg (fun q => hg.mp q hh), if_pos hh]
        exact hnx
      · have hkn := ((h.1 k hk hk2).1.2 hh).1.1
        rw [if_pos (hg.mpr hh), if_neg hh, load_is h hk hk2, hkn]
        by_cases hl : A2 3 k < fM_loadOf k A2
        · rw [if_pos hl, if_pos hl]
        · rw [if_neg hl, if_neg hl]
          exact hnx
    · rw [if_neg hk2, if_neg hk2]
theorem first_is {A1 A2 : qA} (h : RC A1 A2) : fC_firstOverloaded A1 = fM_firstGoing A2 := first_L h 48 100000 100000 0 (by decide) (by decide) (by decide) (by decide)
