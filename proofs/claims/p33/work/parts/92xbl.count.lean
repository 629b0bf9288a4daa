/-! HOW MANY: no bit hangs above the cells -/
def HZo (A : qA) : Prop := ∀ d, 48 ≤ d → d < 64 → ¬ HG A d
theorem HZo_k {A B : qA} (h : HZo A) (e : B 1 (fd 0) = A 1 (fd 0)) : HZo B := fun d d0 d1 z => h d d0 d1 ((HG_k e d).mp z)
theorem HZo_e {A B : qA} (h : HZo A) (e : ∀ d, 0 ≤ d → d < 64 → HG B d → HG A d) : HZo B := fun d d0 d1 z => h d d0 d1 (e d (by omega) d1 z)
theorem qlp_e3 {β : Type} (p : Int × qA) (f : Int → qA → β) : qlp p f = f p.1 p.2 := (qlp.eq_1 p f).trans (Eq.refl (f p.1 p.2))
theorem tear_Z {c t : Int} (c0 : 0 ≤ c) (c1 : c < 48) : ∀ (F : Nat) (s k : Int) (B1 B2 : qA), c - 1 ≤ k → k < 6 * (c / 6 + 1) → GA (out c k) B1 B2 → HZo B1 → HZo (fC_tearDown_L F 12 [c, t, s, k] B1).2
  | 0, _, _, _, _, _, _, _, hz => hz
  | F + 1, s, k, B1, B2, k0, k1, h, hz => by
    rw [fC_tearDown_L12]
    unfold fC_tearDown_c12
    simp only [qlet_e, qlp_e3]
    by_cases hk : k < c
    · rw [if_pos hk]
      obtain ⟨_, _, _, _, _, r6⟩ := off_is (t := t) (s := s) c0 c1 (show k = c - 1 by omega) 10 (by decide) h
      exact HZo_e hz (fun d d0 d1 z => ((r6 d d0 d1).mp z).1)
    · rw [if_neg hk, show wI (k + -1) = k + -1 from wI_id ⟨by omega, by omega⟩]
      have hg := h.1.1.1 k (by omega) (by omega)
      by_cases q : B2 1 k = 0
      · rw [if_neg (fun z => hg.mp z.2.2 q)]
        exact tear_Z c0 c1 F s (k + -1) B1 B2 (by omega) (by omega) (GA_w h (fun d w z => w ⟨by omega, z.2⟩)) hz
      · rw [if_pos ⟨by omega, by omega, hg.mpr q⟩]
        have hc := crop_is (h.1.2 k (by omega) (by omega) (fun z => by omega)) (by omega) (by omega)
        by_cases p : B2 7 k = -1
        · rw [if_neg (fun z => (hc.mp z).2 p)]
          have h2 := lose_is h k1
          rw [show k - 1 = k + -1 by omega] at h2
          exact tear_Z c0 c1 F (wI (s + 1)) (k + -1) (qu (qu B1 3 k 0) 8 k 0) B2 (by omega) (by omega) h2 (HZo_k hz (by rw [qu_ne (by decide), qu_ne (by decide)]))
        · rw [if_pos (hc.mpr ⟨q, p⟩)]
          obtain ⟨_, d2, d3, _⟩ := drop0 h (show 0 ≤ k by omega) (show k < 48 by omega) (fun z => by omega) q p
          generalize fC_dropCrop k 0 B1 = y1 at d2 d3 ⊢
          generalize fM_falls k 0 B2 = y2 at d2
          have h2 := lose_is d2 k1
          rw [show k - 1 = k + -1 by omega] at h2
          exact tear_Z c0 c1 F (wI (s + 1)) (k + -1) (qu (qu y1.2 3 k 0) 8 k 0) y2.2 (by omega) (by omega) h2 (HZo_k hz (by rw [qu_ne (by decide), qu_ne (by decide), frm_f d3 (r := 1) (j := 0) rfl]))
theorem tear_HZ {A1 A2 : qA} {c : Int} (h : GR A1 A2) (c0 : 0 ≤ c) (c1 : c < 48) (hz : HZo A1) : HZo (fC_tearDown c A1).2 := by
  have e : fC_tearDown c A1 = fC_tearDown_L 100000 12 [c, fC_loadOf c A1, 0, 6 * (c / 6 + 1) - 1] A1 := by
    rw [fC_tearDown.eq_1]
    repeat rw [qlet.eq_1]
    rw [show c - c % 6 + 6 - 1 = 6 * (c / 6 + 1) - 1 by omega, show wI (6 * (c / 6 + 1) - 1) = 6 * (c / 6 + 1) - 1 from wI_id ⟨by omega, by omega⟩]
  rw [e]
  exact tear_Z (t := fC_loadOf c A1) c0 c1 100000 0 (6 * (c / 6 + 1) - 1) A1 A2 (by omega) (by omega) (GA_w h (fun _ _ => trivial)) hz
theorem go_Z : ∀ (F : Nat) (s k : Int) (B1 B2 : qA), GR B1 B2 → HZo B1 → HZo (fC_letKnotsGo_L F 4 [s, k] B1).2
  | 0, _, _, _, _, _, hz => hz
  | F + 1, s, k, B1, B2, h, hz => by
    rw [fC_letKnotsGo_L4]
    unfold fC_letKnotsGo_c4
    simp only [qlet_e, qlp_e3]
    rw [first_is (GR_C h)]
    by_cases hk : k < 48
    · rw [if_pos hk]
      rcases firstM B2 with q | ⟨q0, q1, q2⟩
      · rw [if_pos q]
        exact hz
      · rw [if_neg (show ¬ fM_firstGoing B2 = -1 by omega)]
        obtain ⟨⟨_, t2, _⟩, _⟩ := tear_is h q0 q1
        exact go_Z F _ _ _ _ t2 (tear_HZ h q0 q1 hz)
    · rw [if_neg hk]
      exact hz
theorem go_HZ {A1 A2 : qA} (h : GR A1 A2) (hz : HZo A1) : HZo (fC_letKnotsGo A1).2 := go_Z 100000 0 0 A1 A2 h hz
theorem goC_HZ {A1 A2 : qA} (h : GR A1 A2) (hz : HZo A1) : HZo (fC_go A1).2 := by
  have e : (fC_go A1).2 = (fC_letKnotsGo A1).2 := by
    unfold fC_go
    simp only [qlp]
  rw [e]
  exact go_HZ h hz
theorem day_HZ {A1 A2 : qA} (h : GR A1 A2) (hy : WY A1) (hz : HZo A1) : HZo (fC_day A1).2 := by
  unfold fC_day
  simp only [qlet_e, qlp_e3]
  have f3 : frm [] [(0, 3)] A2 (qu A2 0 (fd 3) 0) := frm_qf (frm_0 _ _ _) rfl
  have h3 : GR A1 (qu A2 0 (fd 3) 0) := GR_f h (frm_0 [] [] A1) f3 rfl rfl
  have n3 : CN (A1 24 (fd 10)) A1 (qu A2 0 (fd 3) 0) := by
    unfold CN
    rw [qu_at, Int.sub_self]
    exact wI_id ⟨by decide, by decide⟩
  generalize qu A2 0 (fd 3) 0 = D2 at f3 h3 n3
  obtain ⟨_, w2, w3, w4⟩ := flow_is h3 hy
  generalize fC_letWaterFlow A1 = y1 at w2 w3 ⊢
  generalize fM_water D2 = y2 at w2 w4
  have n4 : CN (A1 24 (fd 10)) y1.2 y2.2 := CN_k n3 (frm_f w3 rfl) (frm_f w4 rfl)
  obtain ⟨C2, r1, r2, r3, r4⟩ := grow_L 48 99951 99951 0 y1.2 y2.2 (by decide) (by decide) w2
  rw [show 99951 + 48 + 1 = 100000 from rfl] at r2 r3
  have eg : fC_letCropsGrow y1.2 = fC_letCropsGrow_L 100000 2 [0] y1.2 := rfl
  rw [eg]
  generalize fC_letCropsGrow_L 100000 2 [0] y1.2 = C1 at r2 r3 ⊢
  have n5 : CN (A1 24 (fd 10)) C1 C2 := CN_k n4 (frm_f r3 rfl) (frm_f r4 rfl)
  obtain ⟨E2, s1, s2, s3, s4, s5, s6⟩ := falls_L (A1 24 (fd 10)) 48 99951 99902 0 C1 C2 (by decide) (by decide) r2 n5
  rw [show 99951 + 48 + 1 = 100000 from rfl] at s2 s3 s4
  have ef : fC_letCropsFall C1 = fC_letCropsFall_L 100000 2 [0] C1 := rfl
  rw [ef]
  generalize fC_letCropsFall_L 100000 2 [0] C1 = E1 at s2 s3 s4 ⊢
  obtain ⟨G2, t1, t2, t3, t4, t5⟩ := age_L 48 99951 99853 0 E1 E2 (by decide) (by decide) (GA_w s2 (fun _ _ => trivial)) (fun d d0 d1 => by omega)
  rw [show 99951 + 48 + 1 = 100000 from rfl] at t2 t3 t4
  have ea : fC_letKnotsAge E1 = fC_letKnotsAge_L 100000 2 [0] E1 := rfl
  rw [ea]
  generalize fC_letKnotsAge_L 100000 2 [0] E1 = G1 at t2 t3 t4 ⊢
  obtain ⟨H2, u1, u2, u3⟩ := ageM_L 48 99804 0 G2 (by decide) (by decide)
  have hH := aged t2 t3 u1 u2
  have hzG : HZo G1 := HZo_k (HZo_k (HZo_k (HZo_k hz (frm_f w3 (r := 1) (j := 0) rfl)) (frm_f r3 (r := 1) (j := 0) rfl)) (frm_f s4 (r := 1) (j := 0) rfl)) (frm_f t4 (r := 1) (j := 0) rfl)
  have g := go_HZ hH hzG
  generalize fC_letKnotsGo G1 = z1 at g ⊢
  exact HZo_k g (by show (qu z1.2 15 (fd 8) _) 1 (fd 0) = _; rw [qu_ne (by decide)])
theorem hang_HZ (c l s n f w : Int) {A1 : qA} (hz : HZo A1) : HZo (fC_hang c l s n f w A1).2 := by
  have key : ∀ k u : Int, 0 ≤ k → k < 48 → ∀ B : qA, B 1 (fd 0) = jo (A1 1 (fd 0)) (jsl 1 k) → HZo B := fun k u k0 k1 B e => fun d d0 d1 z => by
    rcases (HG_or (A := A1) (c := k) (d := d) e k0 (by omega) (by omega) d1).mp z with y | y
    · omega
    · exact hz d d0 d1 y
  have e1 : ∀ (k s n f w v : Int), (fC_clearCrop k (qu (qu (qu (qu (qu (qu (qu A1 1 (fd 0) v) 3 k s) 2 k n) 4 k f) 5 k w) 8 k 0) 9 k 0)) 1 (fd 0) = v := fun k s n f w v => by
    unfold fC_clearCrop fC_setCrop
    simp only [qlet_e]
    simp [qu_is]
  unfold fC_hang
  simp only [qlet_e]
  by_cases h1 : (0 ≤ c ∧ c ≤ 7) ∧ (0 ≤ l ∧ l ≤ 5)
  · rw [if_pos h1]
    repeat' split
    all_goals first | exact hz | exact key (c * 6 + l) 0 (by omega) (by omega) _ (e1 (c * 6 + l) s n f w _)
  · rw [if_neg h1]
    exact hz
theorem wg_1 {x9 : Int} : ∀ (m F : Nat) (x k : Int) (B : qA), 49 - k ≤ m → m < F → k ≤ 49 → 0 ≤ k → (fC_wouldGo_L F 15 [x9, x, k] B).2 1 (fd 0) = x9
  | _, 0, _, _, _, _, h, _, _ => absurd h (Nat.not_lt_zero _)
  | m, F + 1, x, k, B, hm, hF, hk, k0 => by
    have fin : (qcpy (qu B 1 (fd 0) x9) 14 0 2 0 48) 1 (fd 0) = x9 := by
      rw [cp_a (r' := 1) (A := qu B 1 (fd 0) x9) (r0 := 14) (sp := 0) (r := 2) (dp := 0) (n := 48) rfl rfl]
      exact qu_at _ _ _ _
    rw [fC_wouldGo_L15]
    unfold fC_wouldGo_c15
    simp only [qlet_e]
    by_cases h1 : 48 < k
    · rw [if_pos h1]
      exact fin
    · rw [if_neg h1]
      by_cases h2 : x = -1
      · rw [if_pos h2]
        exact fin
      · rw [if_neg h2, show wI (k + 1) = k + 1 from wI_id ⟨by omega, by omega⟩]
        cases m with
        | zero => exfalso; omega
        | succ m => exact wg_1 m F _ (k + 1) _ (by omega) (by omega) (by omega) (by omega)
theorem torn_HZ (c l : Int) {A1 : qA} (hz : HZo A1) : HZo (fC_torn c l A1).2 := by
  unfold fC_torn
  simp only [qlet_e, qlp_e3]
  split
  · exact hz
  · have e : ∀ x : Int, (fC_wouldGo x A1).2 1 (fd 0) = A1 1 (fd 0) := fun x => by
      have e0 : fC_wouldGo x A1 = fC_wouldGo_L 100000 15 [A1 1 (fd 0), x, 0] (qcpy A1 2 0 14 0 48) := by
        rw [fC_wouldGo.eq_1]
        repeat rw [qlet.eq_1]
      rw [e0]
      exact wg_1 49 100000 x 0 _ (by decide) (by decide) (by decide) (by decide)
    exact HZo_k hz (e _)
/-! the numbers -/
theorem pc_cells {A1 A2 : qA} {X : Nat} (h : GR A1 A2) (hX : ∀ j : Nat, j < 48 → X.testBit j = hbit (A1 1 (fd 0)) (j : Int)) : ∀ (m F k : Nat), k + m = 48 → fM_cells_L (F + m + 1) 4 [0, (pcnt X k : Int), (k : Int)] A2 = (pcnt X 48 : Int)
  | 0, F, k, hm => by
    rw [fM_cells_L4]
    unfold fM_cells_c4
    simp only [qlet_e]
    rw [if_neg (show ¬ (k : Int) < 48 by omega), show k = 48 by omega]
  | m + 1, F, k, hm => by
    have hg := h.1.1.1 (k : Int) (by omega) (by omega)
    have hb := hb_is (A := A1) (c := (k : Int)) (by omega) (by omega)
    have hx := hX k (by omega)
    rw [show F + (m + 1) + 1 = (F + m + 1) + 1 by omega, fM_cells_L4]
    unfold fM_cells_c4
    simp only [qlet_e]
    rw [if_pos (show (k : Int) < 48 by omega), show (k : Int) + 1 = ((k + 1 : Nat) : Int) by omega]
    by_cases q : A2 1 (k : Int) = 0
    · have ht : X.testBit k = false := by
        rw [hx]
        cases hh : hbit (A1 1 (fd 0)) (k : Int)
        · rfl
        · exact absurd q (hg.mp (hb.mpr hh))
      rw [if_pos q, Int.add_zero]
      have ih := pc_cells h hX m F (k + 1) (by omega)
      rw [pcnt_s0 ht] at ih
      exact ih
    · have ht : X.testBit k = true := by
        rw [hx]
        exact hb.mp (hg.mpr q)
      rw [if_neg q, if_pos trivial]
      have ih := pc_cells h hX m F (k + 1) (by omega)
      rw [pcnt_s1 ht] at ih
      rw [show (pcnt X k : Int) + 1 = ((pcnt X k + 1 : Nat) : Int) by omega]
      exact ih
theorem crops_is {A1 A2 : qA} (h : GR A1 A2) : ∀ (m F : Nat) (s c : Int), c + m = 48 → 0 ≤ c → fC_crops_L (F + m + 1) 4 [s, c] A1 = fM_cells_L (F + m + 1) 4 [1, s, c] A2
  | 0, F, s, c, hm, c0 => by
    rw [fC_crops_L4, fM_cells_L4]
    unfold fC_crops_c4 fM_cells_c4
    simp only [qlet_e]
    rw [if_neg (show ¬ c < 48 by omega), if_neg (show ¬ c < 48 by omega)]
  | m + 1, F, s, c, hm, c0 => by
    have c1 : c < 48 := by omega
    have hc := crop_is (h.1.2 c c0 c1 trivial) c0 c1
    rw [show F + (m + 1) + 1 = (F + m + 1) + 1 by omega, fC_crops_L4, fM_cells_L4]
    unfold fC_crops_c4 fM_cells_c4
    simp only [qlet_e]
    rw [if_pos c1, if_pos c1]
    by_cases q : A2 1 c = 0
    · rw [if_neg (fun z => (hc.mp z).1 q), if_pos q, Int.add_zero]
      exact crops_is h m F s (c + 1) (by omega) (by omega)
    · rw [if_neg q, if_neg (show ¬ (1 : Int) = 0 by decide)]
      by_cases p : A2 7 c = -1
      · rw [if_neg (fun z => (hc.mp z).2 p), if_pos p, Int.add_zero]
        exact crops_is h m F s (c + 1) (by omega) (by omega)
      · rw [if_pos (hc.mpr ⟨q, p⟩), if_neg p]
        exact crops_is h m F (s + 1) (c + 1) (by omega) (by omega)
theorem hangs_is {A1 A2 : qA} (h : GR A1 A2) (hz : HZo A1) (hx : rngL (A1 1 (fd 0))) (B : qA) : fC_bitsL (A1 1 (fd 0)) B = fM_cells 0 A2 := by
  rw [bitsL_is hx]
  have hbt : ∀ j : Nat, (BitVec.ofInt 64 (A1 1 (fd 0))).toNat.testBit j = hbit (A1 1 (fd 0)) (j : Int) := fun j => by
    unfold hbit
    rw [Int.toNat_natCast, BitVec.testBit_toNat]
  generalize (BitVec.ofInt 64 (A1 1 (fd 0))).toNat = X at hbt
  have h64 : pcnt X 64 = pcnt X 48 := by
    have e : ∀ n : Nat, n ≤ 16 → pcnt X (48 + n) = pcnt X 48 := by
      intro n
      induction n with
      | zero => intro _; rfl
      | succ n ih =>
        intro hn
        have ht : X.testBit (48 + n) = false := by
          rw [hbt]
          cases hh : hbit (A1 1 (fd 0)) ((48 + n : Nat) : Int)
          · rfl
          · exact absurd ((hb_is (A := A1) (by omega) (by omega)).mpr hh) (hz _ (by omega) (by omega))
        rw [show 48 + (n + 1) = (48 + n) + 1 by omega, pcnt_s0 ht]
        exact ih (by omega)
    exact e 16 (Nat.le_refl _)
  obtain ⟨F, g⟩ : ∃ F : Nat, F + 48 + 1 = 100000 := ⟨99951, by decide⟩
  have key := pc_cells (X := X) h (fun j _ => hbt j) 48 F 0 (by omega)
  rw [g, show ((pcnt X 0 : Nat) : Int) = 0 from rfl, show ((0 : Nat) : Int) = 0 from rfl] at key
  have e2 : fM_cells 0 A2 = fM_cells_L 100000 4 [0, 0, 0] A2 := rfl
  rw [h64, e2, key]
theorem row_count (w : Int) {A1 A2 : qA} (h : GR A1 A2) (w0 : w ≠ 0) (w1 : w ≠ 1) (w2 : w ≠ 2) (w3 : w ≠ 3) (w4 : w ≠ 4) (w5 : w ≠ 5) (w6 : w ≠ 6) : fC_countOfRow w A1 = fM_count w A2 := by
  unfold fC_countOfRow fM_count
  simp only [qlet_e]
  rw [if_neg w0, if_neg w1, if_neg w2, if_neg w3, if_neg w4, if_neg w5, if_neg w6]
  by_cases a : w < 10
  · rw [if_pos a, if_neg (show ¬ (10 ≤ w ∧ w ≤ 17) by omega), if_neg (show ¬ (20 ≤ w ∧ w ≤ 37) by omega)]
  · rw [if_neg a]
    by_cases b : w < 18
    · rw [if_pos b, if_pos (show 10 ≤ w ∧ w ≤ 17 by omega)]
      exact (h.2.1.2.1 (w - 10) (by omega) (by omega)).1.1
    · rw [if_neg b, if_neg (show ¬ (10 ≤ w ∧ w ≤ 17) by omega)]
      by_cases c : w < 20
      · rw [if_pos c, if_neg (show ¬ (20 ≤ w ∧ w ≤ 37) by omega)]
      · rw [if_neg c]
        by_cases d : w < 38
        · rw [if_pos d, if_pos (show 20 ≤ w ∧ w ≤ 37 by omega), qd_nn (show 0 ≤ w - 20 by omega), qm_nn (show 0 ≤ w - 20 by omega)]
          obtain ⟨⟨u1, u2, u3⟩, _⟩ := h.2.1.1 ((w - 20) / 3) (by omega) (by omega)
          by_cases e0 : (w - 20) % 3 = 0
          · rw [if_pos e0, if_pos e0]
            exact u1
          · rw [if_neg e0, if_neg e0]
            by_cases e1 : (w - 20) % 3 = 1
            · rw [if_pos e1, if_pos e1]
              exact u2
            · rw [if_neg e1, if_neg e1]
              exact u3
        · rw [if_neg d, if_neg (show ¬ (20 ≤ w ∧ w ≤ 37) by omega)]
theorem count_G (w : Int) {A1 A2 : qA} (h : GR A1 A2) (ht : RT A1 A2) (hz : HZo A1) (hx : rngL (A1 1 (fd 0))) : fC_count w A1 = fM_count w A2 := by
  have main : ∀ v : Int, v = A2 0 (fd 35) → ∀ y, y = (if w = 0 then fC_bitsL (A1 1 (fd 0)) A1 else (if w = 1 then A1 15 (fd 8) else (if w = 2 then A1 24 (fd 9) else (if w = 3 then v else (if w = 4 then A1 52 (fd 1) else (if w = 5 then A1 0 (fd 11) else (if w = 6 then fC_crops A1 else fC_countOfRow w A1))))))) → y = fM_count w A2 := fun v hv y hy => by
    rw [hy]
    by_cases w0 : w = 0
    · rw [if_pos w0, hangs_is h hz hx]
      unfold fM_count
      simp only [qlet_e]
      rw [if_pos w0]
    by_cases w1 : w = 1
    · unfold fM_count
      simp only [qlet_e]
      rw [if_neg w0, if_pos w1, if_neg w0, if_pos w1]
      exact h.2.1.2.2.1
    by_cases w2 : w = 2
    · unfold fM_count
      simp only [qlet_e]
      rw [if_neg w0, if_neg w1, if_pos w2, if_neg w0, if_neg w1, if_pos w2]
      exact h.2.2.1.1
    by_cases w3 : w = 3
    · unfold fM_count
      simp only [qlet_e]
      rw [if_neg w0, if_neg w1, if_neg w2, if_pos w3, if_neg w0, if_neg w1, if_neg w2, if_pos w3]
      exact hv
    by_cases w4 : w = 4
    · unfold fM_count
      simp only [qlet_e]
      rw [if_neg w0, if_neg w1, if_neg w2, if_neg w3, if_pos w4, if_neg w0, if_neg w1, if_neg w2, if_neg w3, if_pos w4]
      exact ht.1
    by_cases w5 : w = 5
    · unfold fM_count
      simp only [qlet_e]
      rw [if_neg w0, if_neg w1, if_neg w2, if_neg w3, if_neg w4, if_pos w5, if_neg w0, if_neg w1, if_neg w2, if_neg w3, if_neg w4, if_pos w5]
      exact h.2.1.2.2.2.1
    by_cases w6 : w = 6
    · obtain ⟨F, g⟩ : ∃ F : Nat, F + 48 + 1 = 100000 := ⟨99951, by decide⟩
      have key := crops_is h 48 F 0 0 (by decide) (by decide)
      rw [g] at key
      have e1 : fC_crops A1 = fC_crops_L 100000 4 [0, 0] A1 := rfl
      have e2 : fM_cells 1 A2 = fM_cells_L 100000 4 [1, 0, 0] A2 := rfl
      unfold fM_count
      simp only [qlet_e]
      rw [if_neg w0, if_neg w1, if_neg w2, if_neg w3, if_neg w4, if_neg w5, if_pos w6, if_neg w0, if_neg w1, if_neg w2, if_neg w3, if_neg w4, if_neg w5, if_pos w6, e1, e2, key]
    · rw [if_neg w0, if_neg w1, if_neg w2, if_neg w3, if_neg w4, if_neg w5, if_neg w6]
      exact row_count w h w0 w1 w2 w3 w4 w5 w6
  unfold fC_count
  rcases h.2.2.2 with ⟨q, n, lk, T, hn, hlk, hgd, hl, h14, ⟨c1, c2⟩, m1, m2⟩ | ⟨q, n, lk, T, hn, hlk, hgd, hl, h14, ⟨c1, c2⟩, m1, m2⟩
  · rw [if_pos q]
    refine main (A1 36 (fd 7)) (c1.trans m1.symm) _ ?_
    unfold fC_count36
    simp only [qlet_e]
  · rw [if_neg (show ¬ A1 34 (fd 4) = 36 by omega)]
    refine main (A1 71 (fd 7)) (c1.trans m1.symm) _ ?_
    unfold fC_count71
    simp only [qlet_e]
