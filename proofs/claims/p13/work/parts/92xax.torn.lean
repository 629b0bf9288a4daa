/-! WHAT WOULD GO: both gardens -/
theorem goff0 {c t : Int} (c0 : 0 ≤ c) (c1 : c < 48) : ∀ (m F : Nat) (s k : Int) (B : qA), k + 1 = c + m → k < 48 → ∃ s', fM_goesOff_L (F + m + 1) 18 [c, 0, t, s, k] B = fM_goesOff_L F 48 [c, t, s', c] B
  | 0, F, s, k, B, hm, k1 => by
    rw [fM_goesOff_L18]
    unfold fM_goesOff_c18
    simp only [qlet]
    rw [if_pos (show k < c by omega)]
    exact ⟨s, rfl⟩
  | m + 1, F, s, k, B, hm, k1 => by
    rw [show F + (m + 1) + 1 = (F + m + 1) + 1 by omega, fM_goesOff_L18]
    unfold fM_goesOff_c18
    simp only [qlet]
    rw [if_neg (show ¬ k < c by omega), show wI (k + -1) = k + -1 from wI_id ⟨by omega, by omega⟩, if_pos trivial]
    by_cases q : B 1 k = 0
    · rw [if_pos q]
      exact goff0 c0 c1 m F s (k + -1) B (by omega) (by omega)
    · rw [if_neg q]
      exact goff0 c0 c1 m F (wI (s + 1)) (k + -1) B (by omega) (by omega)
theorem tear0_is {A1 A2 : qA} {c : Int} (h : GR A1 A2) (c0 : 0 ≤ c) (c1 : c < 48) : GR (fC_unhang c (fC_loadOf c A1) A1) (fM_goesOff c 0 A2).2 ∧ frm [2] [(1, 0)] A1 (fC_unhang c (fC_loadOf c A1) A1) ∧ frm [1, 3] [] A2 (fM_goesOff c 0 A2).2 ∧ (∀ d, (fM_goesOff c 0 A2).2 1 d = if c ≤ d ∧ d < 6 * (c / 6 + 1) then 0 else A2 1 d) ∧ ∀ d, 0 ≤ d → d < 64 → (HG (fC_unhang c (fC_loadOf c A1) A1) d ↔ (HG A1 d ∧ ¬ (c ≤ d ∧ d < 6 * (c / 6 + 1)))) := by
  have e := load_is (GR_C h) c0 c1
  unfold fM_goesOff
  simp only [qlet]
  rw [← e, qd_nn c0, show wI (6 * (c / 6 + 1) - 1) = 6 * (c / 6 + 1) - 1 from wI_id ⟨by omega, by omega⟩]
  obtain ⟨s', hs⟩ := goff0 (t := wI (qd (fC_loadOf c A1) 10)) c0 c1 (6 * (c / 6 + 1) - c).toNat (99999 - (6 * (c / 6 + 1) - c).toNat) 0 (6 * (c / 6 + 1) - 1) A2 (by omega) (by omega)
  rw [show 99999 - (6 * (c / 6 + 1) - c).toNat + (6 * (c / 6 + 1) - c).toNat + 1 = 100000 by omega] at hs
  rw [hs]
  obtain ⟨_, r2, r3, r4, r5, r6⟩ := off_is (t := fC_loadOf c A1) (s := s') (k := c - 1) c0 c1 rfl (99999 - (6 * (c / 6 + 1) - c).toNat) (by omega) (GA_w h (fun _ _ => trivial))
  exact ⟨r2, r3, r4, r5, r6⟩
/-- the reference keeps what hangs, and knots -/
theorem torn9 {c l : Int} : ∀ (m F : Nat) (k : Int) (B : qA), k + m = 48 → 0 ≤ k → ∃ C, frm [47, 48] [] B C ∧ (∀ d, C 47 d = if k ≤ d ∧ d < 48 then B 1 d else B 47 d) ∧ (∀ d, C 48 d = if k ≤ d ∧ d < 48 then B 3 d else B 48 d) ∧ fM_torn_L (F + m + 1) 9 [c, l, k] B = fM_torn_L F 40 [fM_firstGoing (fM_goesOff (6 * c + l) 0 C).2] (fM_goesOff (6 * c + l) 0 C).2
  | 0, F, k, B, hm, k0 => by
    rw [fM_torn_L9]
    unfold fM_torn_c9
    simp only [qlet, qlp]
    rw [if_neg (show ¬ k < 48 by omega)]
    exact ⟨B, frm_0 _ _ _, fun d => by rw [if_neg (fun z => by omega)], fun d => by rw [if_neg (fun z => by omega)], rfl⟩
  | m + 1, F, k, B, hm, k0 => by
    rw [show F + (m + 1) + 1 = (F + m + 1) + 1 by omega, fM_torn_L9]
    unfold fM_torn_c9
    simp only [qlet, qlp]
    rw [if_pos (show k < 48 by omega)]
    have e3 : (qu B 47 k (B 1 k)) 3 k = B 3 k := by rw [qu_ne (by decide)]
    rw [e3]
    have g1 : (qu (qu B 47 k (B 1 k)) 48 k (B 3 k)) 1 = B 1 := by rw [qu_ne (by decide), qu_ne (by decide)]
    have g3 : (qu (qu B 47 k (B 1 k)) 48 k (B 3 k)) 3 = B 3 := by rw [qu_ne (by decide), qu_ne (by decide)]
    have g47 : ∀ d, (qu (qu B 47 k (B 1 k)) 48 k (B 3 k)) 47 d = if d = k then B 1 k else B 47 d := fun d => by
      by_cases q : d = k
      · rw [if_pos q, q]; simp [qu_is]
      · rw [if_neg q]; simp [qu_is, q]
    have g48 : ∀ d, (qu (qu B 47 k (B 1 k)) 48 k (B 3 k)) 48 d = if d = k then B 3 k else B 48 d := fun d => by
      by_cases q : d = k
      · rw [if_pos q, q]; simp [qu_is]
      · rw [if_neg q]; simp [qu_is, q]
    obtain ⟨C, c1, c2, c3, c4⟩ := torn9 (c := c) (l := l) m F (k + 1) (qu (qu B 47 k (B 1 k)) 48 k (B 3 k)) (by omega) (by omega)
    refine ⟨C, frm_c (frm_q (frm_q (frm_0 _ _ _) rfl) rfl) c1 rfl, fun d => ?_, fun d => ?_, c4⟩
    · rw [c2 d, g1, g47 d]
      by_cases q : d = k
      · rw [q, if_neg (fun z => by omega), if_pos rfl, if_pos ⟨Int.le_refl _, by omega⟩]
      · rw [if_neg q]
        by_cases w : k + 1 ≤ d ∧ d < 48
        · rw [if_pos w, if_pos ⟨by omega, w.2⟩]
        · rw [if_neg w, if_neg (fun z => w ⟨by omega, z.2⟩)]
    · rw [c3 d, g3, g48 d]
      by_cases q : d = k
      · rw [q, if_neg (fun z => by omega), if_pos rfl, if_pos ⟨Int.le_refl _, by omega⟩]
      · rw [if_neg q]
        by_cases w : k + 1 ≤ d ∧ d < 48
        · rw [if_pos w, if_pos ⟨by omega, w.2⟩]
        · rw [if_neg w, if_neg (fun z => w ⟨by omega, z.2⟩)]
/-- both loops -/
theorem would_L {l2 : Int} : ∀ (m F1 F2 : Nat) (k : Int) (B1 B2 : qA), k + m = 48 → 0 ≤ k → cntM B2 48 ≤ m → GR B1 B2 → ∃ E1 E2 F', F2 ≤ F' ∧ fC_wouldGo_L (F1 + m + 1) 15 [l2, fC_firstOverloaded B1, k] B1 = (ja l2 (jx (E1 1 (fd 0)) (qnL 18446744073709551615)), qcpy (qu E1 1 (fd 0) l2) 14 0 2 0 48) ∧ fM_torn_L (F2 + m + 1) 40 [fM_firstGoing B2] B2 = fM_torn_L F' 56 [0, 0] E2 ∧ GR E1 E2 ∧ frm [2] [(1, 0)] B1 E1 ∧ frm [1, 3] [] B2 E2 ∧ ∀ d, 48 ≤ d → d < 64 → (HG E1 d ↔ HG B1 d)
  | 0, F1, F2, k, B1, B2, hm, k0, hc, h => by
    rw [fC_wouldGo_L15, fM_torn_L40]
    unfold fC_wouldGo_c15 fM_torn_c40
    simp only [qlet, qlp]
    rw [if_neg (show ¬ 48 < k by omega), first_is (GR_C h)]
    rcases firstM B2 with q | ⟨q0, q1, q2⟩
    · rw [if_pos q, if_pos q]
      exact ⟨B1, B2, F2, by omega, rfl, rfl, h, frm_0 _ _ _, frm_0 _ _ _, fun d _ _ => Iff.rfl⟩
    · exact absurd (cnt_0 48 (by omega) _ q0 (by omega)) q2
  | m + 1, F1, F2, k, B1, B2, hm, k0, hc, h => by
    rw [show F1 + (m + 1) + 1 = (F1 + m + 1) + 1 by omega, show F2 + (m + 1) + 1 = (F2 + m + 1) + 1 by omega, fC_wouldGo_L15, fM_torn_L40]
    unfold fC_wouldGo_c15 fM_torn_c40
    simp only [qlet, qlp]
    rw [if_neg (show ¬ 48 < k by omega), first_is (GR_C h)]
    rcases firstM B2 with q | ⟨q0, q1, q2⟩
    · rw [if_pos q, if_pos q]
      exact ⟨B1, B2, F2 + m + 1, by omega, rfl, rfl, h, frm_0 _ _ _, frm_0 _ _ _, fun d _ _ => Iff.rfl⟩
    · have q3 : ¬ fM_firstGoing B2 = -1 := by omega
      rw [if_neg q3, if_neg q3, show wI (k + 1) = k + 1 from wI_id ⟨by omega, by omega⟩]
      obtain ⟨t2, t3, t4, t5, t6⟩ := tear0_is h q0 q1
      generalize fM_firstGoing B2 = c at q0 q1 q2 t2 t3 t4 t5 t6 ⊢
      generalize fC_unhang c (fC_loadOf c B1) B1 = D1 at t2 t3 t6 ⊢
      generalize fM_goesOff c 0 B2 = y2 at t2 t4 t5 ⊢
      have hlt : cntM y2.2 48 < cntM B2 48 := cnt_lt q0 q2 (by rw [t5 c, if_pos ⟨Int.le_refl _, by omega⟩]) 48 (by omega) (fun d _ _ z => by rw [t5 d, z]; split <;> rfl)
      obtain ⟨E1, E2, F', r0, r1, r2, r3, r4, r5, r6⟩ := would_L m F1 F2 (k + 1) D1 y2.2 (by omega) (by omega) (by omega) t2
      exact ⟨E1, E2, F', r0, r1, r2, r3, frm_c t3 r4 rfl, frm_c t4 r5 rfl, fun d d0 d1 => by
        rw [r6 d d0 d1, t6 d (by omega) d1]
        exact ⟨fun z => z.1, fun z => ⟨z, fun w => by omega⟩⟩⟩
/-- an int64 by its bits -/
def isT (l : Int) : Prop := ∃ V : BitVec 64, l = V.toInt
theorem isT_eq {a b : Int} (ha : isT a) (hb : isT b) (h : ∀ d : Int, 0 ≤ d → d < 64 → hbit a d = hbit b d) : a = b := by
  obtain ⟨V, rfl⟩ := ha
  obtain ⟨W, rfl⟩ := hb
  congr 1
  apply BitVec.eq_of_getLsbD_eq
  intro i hi
  have := h i (by omega) (by omega)
  unfold hbit at this
  rw [bv_ofInt, bv_ofInt] at this
  exact this
theorem hbit_jo (a b d : Int) : hbit (jo a b) d = (hbit a d || hbit b d) := by
  unfold hbit
  rw [jo_bv, bv_ofInt, BitVec.getLsbD_or]
theorem hbit_gone (a b : Int) {d : Int} (d0 : 0 ≤ d) (d1 : d < 64) : hbit (ja a (jx b (qnL 18446744073709551615))) d = (hbit a d && !hbit b d) := by
  have e1 : BitVec.ofInt 64 (qnL 18446744073709551615) = BitVec.allOnes 64 := by decide +kernel
  unfold hbit
  rw [ja_bv, bv_ofInt, BitVec.getLsbD_and, jx_bv, bv_ofInt, BitVec.getLsbD_xor, e1, BitVec.getLsbD_allOnes]
  have e2 : d.toNat < 64 := by omega
  simp [e2]
theorem hbit_sh {c d : Int} (c0 : 0 ≤ c) (c1 : c < 64) (d0 : 0 ≤ d) (d1 : d < 64) : hbit (jsl 1 c) d = decide (d = c) := sh1_bit c0 c1 d0 d1
theorem hbit_0 (d : Int) : hbit 0 d = false := by
  unfold hbit
  rw [show BitVec.ofInt 64 0 = 0#64 from rfl]
  exact BitVec.getLsbD_zero
/-- what hangs, and knots, are told back; the bits of what went -/
theorem torn56 : ∀ (m F : Nat) (l k : Int) (B : qA), k + m = 48 → 0 ≤ k → isT l → isT (fM_torn_L (F + m + 1) 56 [l, k] B).1 ∧ (∀ d, 0 ≤ d → d < 64 → hbit (fM_torn_L (F + m + 1) 56 [l, k] B).1 d = (hbit l d || decide (k ≤ d ∧ d < 48 ∧ B 47 d ≠ 0 ∧ B 1 d = 0))) ∧ frm [1, 3] [] B (fM_torn_L (F + m + 1) 56 [l, k] B).2 ∧ (∀ d, (fM_torn_L (F + m + 1) 56 [l, k] B).2 1 d = if k ≤ d ∧ d < 48 then B 47 d else B 1 d) ∧ ∀ d, (fM_torn_L (F + m + 1) 56 [l, k] B).2 3 d = if k ≤ d ∧ d < 48 then B 48 d else B 3 d
  | 0, F, l, k, B, hm, k0, hl => by
    rw [fM_torn_L56]
    unfold fM_torn_c56
    simp only [qlet, qlp]
    rw [if_neg (show ¬ k < 48 by omega)]
    exact ⟨hl, fun d _ _ => by rw [decide_eq_false (fun z => by omega), Bool.or_false], frm_0 _ _ _, fun d => by rw [if_neg (fun z => by omega)], fun d => by rw [if_neg (fun z => by omega)]⟩
  | m + 1, F, l, k, B, hm, k0, hl => by
    rw [show F + (m + 1) + 1 = (F + m + 1) + 1 by omega, fM_torn_L56]
    unfold fM_torn_c56
    simp only [qlet, qlp]
    have e48 : (qu B 1 k (B 47 k)) 48 k = B 48 k := by rw [qu_ne (by decide)]
    rw [if_pos (show k < 48 by omega), e48]
    have g47 : (qu (qu B 1 k (B 47 k)) 3 k (B 48 k)) 47 = B 47 := by rw [qu_ne (by decide), qu_ne (by decide)]
    have g48 : (qu (qu B 1 k (B 47 k)) 3 k (B 48 k)) 48 = B 48 := by rw [qu_ne (by decide), qu_ne (by decide)]
    have g1 : ∀ d, (qu (qu B 1 k (B 47 k)) 3 k (B 48 k)) 1 d = if d = k then B 47 k else B 1 d := fun d => by
      by_cases q : d = k
      · rw [if_pos q, q]; simp [qu_is]
      · rw [if_neg q]; simp [qu_is, q]
    have g3 : ∀ d, (qu (qu B 1 k (B 47 k)) 3 k (B 48 k)) 3 d = if d = k then B 48 k else B 3 d := fun d => by
      by_cases q : d = k
      · rw [if_pos q, q]; simp [qu_is]
      · rw [if_neg q]; simp [qu_is, q]
    have key : ∀ l', isT l' → (∀ d, 0 ≤ d → d < 64 → hbit l' d = (hbit l d || decide (d = k ∧ B 47 k ≠ 0 ∧ B 1 k = 0))) → ∀ y, y = fM_torn_L (F + m + 1) 56 [l', k + 1] (qu (qu B 1 k (B 47 k)) 3 k (B 48 k)) → isT y.1 ∧ (∀ d, 0 ≤ d → d < 64 → hbit y.1 d = (hbit l d || decide (k ≤ d ∧ d < 48 ∧ B 47 d ≠ 0 ∧ B 1 d = 0))) ∧ frm [1, 3] [] B y.2 ∧ (∀ d, y.2 1 d = if k ≤ d ∧ d < 48 then B 47 d else B 1 d) ∧ ∀ d, y.2 3 d = if k ≤ d ∧ d < 48 then B 48 d else B 3 d := by
      intro l' hl' hb y hy
      obtain ⟨r1, r2, r3, r4, r5⟩ := torn56 m F l' (k + 1) (qu (qu B 1 k (B 47 k)) 3 k (B 48 k)) (by omega) (by omega) hl'
      rw [← hy] at r1 r2 r3 r4 r5
      refine ⟨r1, fun d d0 d1 => ?_, frm_c (frm_q (frm_q (frm_0 _ _ _) rfl) rfl) r3 rfl, fun d => ?_, fun d => ?_⟩
      · rw [r2 d d0 d1, hb d d0 d1, g47, g1 d, Bool.or_assoc]
        congr 1
        by_cases q : d = k
        · subst q
          have e : decide (d + 1 ≤ d ∧ d < 48 ∧ B 47 d ≠ 0 ∧ (if d = d then B 47 d else B 1 d) = 0) = false := decide_eq_false (fun z => by omega)
          rw [e, Bool.or_false]
          refine decide_eq_decide.mpr ⟨fun z => ⟨Int.le_refl _, by omega, z.2⟩, fun z => ⟨rfl, z.2.2⟩⟩
        · rw [if_neg q, decide_eq_false (fun z => q z.1), Bool.false_or]
          refine decide_eq_decide.mpr ⟨fun z => ⟨by omega, z.2⟩, fun z => ⟨by omega, z.2⟩⟩
      · rw [r4 d, g47, g1 d]
        by_cases q : d = k
        · rw [q, if_neg (fun z => by omega), if_pos rfl, if_pos ⟨Int.le_refl _, by omega⟩]
        · rw [if_neg q]
          by_cases w : k + 1 ≤ d ∧ d < 48
          · rw [if_pos w, if_pos ⟨by omega, w.2⟩]
          · rw [if_neg w, if_neg (fun z => w ⟨by omega, z.2⟩)]
      · rw [r5 d, g48, g3 d]
        by_cases q : d = k
        · rw [q, if_neg (fun z => by omega), if_pos rfl, if_pos ⟨Int.le_refl _, by omega⟩]
        · rw [if_neg q]
          by_cases w : k + 1 ≤ d ∧ d < 48
          · rw [if_pos w, if_pos ⟨by omega, w.2⟩]
          · rw [if_neg w, if_neg (fun z => w ⟨by omega, z.2⟩)]
    by_cases q : B 47 k = 0
    · rw [if_pos q]
      refine key l hl (fun d _ _ => ?_) _ rfl
      rw [decide_eq_false (fun z => z.2.1 q), Bool.or_false]
    · rw [if_neg q]
      by_cases p : B 1 k = 0
      · rw [if_pos p]
        refine key (jo l (jsl 1 k)) ⟨_, jo_bv _ _⟩ (fun d d0 d1 => ?_) _ rfl
        rw [hbit_jo, hbit_sh k0 (by omega) d0 d1]
        congr 1
        exact decide_eq_decide.mpr ⟨fun z => ⟨z, q, p⟩, fun z => z.1⟩
      · rw [if_neg p]
        refine key l hl (fun d _ _ => ?_) _ rfl
        rw [decide_eq_false (fun z => p z.2.2), Bool.or_false]
theorem GR_back {A1 A2 B1 B2 : qA} (h : GR A1 A2) (f1 : frm [2, 14] [(1, 0)] A1 B1) (f2 : frm [1, 3, 47, 48] [] A2 B2) (e1 : B1 1 (fd 0) = A1 1 (fd 0)) (e2 : ∀ d, 0 ≤ d → d < 48 → B1 2 d = A1 2 d) (e3 : ∀ d, 0 ≤ d → d < 48 → B2 1 d = A2 1 d) (e4 : ∀ d, 0 ≤ d → d < 48 → B2 3 d = A2 3 d) : GR B1 B2 := by
  have hr : RHG B1 B2 := ⟨fun d a b => by rw [HG_k e1 d, e3 d a b]; exact h.1.1.1 d a b, fun d a b q z => by
    rw [e3 d a b] at z
    rw [e3 (d - 1) (by omega) (by omega)]
    exact h.1.1.2 d a b q z⟩
  refine ⟨⟨hr, fun d a b s => ⟨⟨hr.1 d a b, fun z => ?_⟩, RK_e (h.1.2 d a b s).2 (e3 d a b) (at_f f1 rfl) (at_f f2 rfl)⟩⟩, RB_f h.2.1 f1 f2 rfl rfl, RF_f h.2.2.1 f1 f2 rfl rfl, RL_f h.2.2.2 f1 f2 rfl rfl⟩
  rw [e3 d a b] at z
  rw [e2 d a b, e4 d a b, frm_a f1 (r := 3) rfl, frm_a f1 (r := 4) rfl, frm_a f1 (r := 5) rfl, frm_a f1 (r := 8) rfl, frm_a f1 (r := 9) rfl, frm_a f2 (r := 4) rfl, frm_a f2 (r := 5) rfl, frm_a f2 (r := 6) rfl, frm_a f2 (r := 9) rfl, frm_a f2 (r := 10) rfl]
  exact (h.1.2 d a b s).1.2 z
theorem torn_GR (c l : Int) {A1 A2 : qA} (h : GR A1 A2) : (fC_torn c l A1).1 = (fM_torn c l A2).1 ∧ GR (fC_torn c l A1).2 (fM_torn c l A2).2 ∧ frm [1, 3, 47, 48] [] A2 (fM_torn c l A2).2 := by
  have hu := hung_is h c l
  unfold fC_torn fM_torn
  simp only [qlet, qlp]
  by_cases h1 : ((0 ≤ c ∧ c ≤ 7) ∧ (0 ≤ l ∧ l ≤ 5)) ∧ A2 1 (6 * c + l) ≠ 0
  · have a0 : 0 ≤ 6 * c + l := by omega
    have a1 : 6 * c + l < 48 := by omega
    have hh := h1.2
    rw [hu.1 h1, if_pos h1, if_neg (show ¬ 6 * c + l < 0 by omega)]
    obtain ⟨C, c1, c2, c3, c4⟩ := torn9 (c := c) (l := l) 48 99951 0 A2 (by decide) (by decide)
    rw [show 99951 + 48 + 1 = 100000 from rfl] at c4
    rw [c4]
    generalize 6 * c + l = k at a0 a1 hh ⊢
    have f14 : frm [14] [] A1 (qcpy A1 2 0 14 0 48) := frm_cp (frm_0 _ _ _) rfl rfl
    have e14 : ∀ d, 0 ≤ d → d < 48 → (qcpy A1 2 0 14 0 48) 14 d = A1 2 d := fun d d0 d1 => by
      unfold qcpy
      rw [if_pos ⟨rfl, d0, by omega⟩]
      rw [show (0 : Int) + (d - 0) = d by omega]
    have e1 : fC_wouldGo k A1 = fC_wouldGo_L 100000 15 [A1 1 (fd 0), k, 0] (qcpy A1 2 0 14 0 48) := by rw [fC_wouldGo.eq_1]; repeat rw [qlet.eq_1]
    rw [e1]
    generalize qcpy A1 2 0 14 0 48 = B1 at f14 e14 ⊢
    have hG : GR B1 C := GR_f h f14 c1 rfl rfl
    obtain ⟨t2, t3, t4, t5, t6⟩ := tear0_is hG a0 a1
    rw [show (100000 : Nat) = 99999 + 1 from rfl, fC_wouldGo_L15]
    unfold fC_wouldGo_c15
    simp only [qlet]
    rw [if_neg (show ¬ (48 : Int) < 0 by decide), if_neg (show ¬ k = -1 by omega), show wI (0 + 1) = 0 + 1 from wI_id ⟨by decide, by decide⟩]
    have hlt : cntM (fM_goesOff k 0 C).2 48 < 48 := by
      have hb := cnt_bd C 48
      have := cnt_lt (A := C) (B := (fM_goesOff k 0 C).2) a0 (by rw [frm_a c1 (r := 1) rfl]; exact hh) (by rw [t5 k, if_pos ⟨Int.le_refl _, by omega⟩]) 48 (by omega) (fun d _ _ z => by rw [t5 d, z]; split <;> rfl)
      omega
    generalize fC_unhang k (fC_loadOf k B1) B1 = D1 at t2 t3 t6 ⊢
    generalize (fM_goesOff k 0 C).2 = D2 at t2 t4 t5 hlt ⊢
    obtain ⟨E1, E2, F', r0, r1, r2, r3, r4, r5, r6⟩ := would_L (l2 := A1 1 (fd 0)) 47 99951 99903 (0 + 1) D1 D2 (by decide) (by decide) (by omega) t2
    rw [show 99951 + 47 + 1 = 99999 from rfl] at r1
    rw [show 99903 + 47 + 1 = 99951 from rfl] at r2
    rw [r1, r2]
    obtain ⟨s1, s2, s3, s4, s5⟩ := torn56 48 (F' - 49) 0 0 E2 (by decide) (by decide) ⟨0#64, rfl⟩
    rw [show F' - 49 + 48 + 1 = F' by omega] at s1 s2 s3 s4 s5
    generalize fM_torn_L F' 56 [0, 0] E2 = y2 at s1 s2 s3 s4 s5 ⊢
    have f1 : frm [2, 14] [(1, 0)] A1 E1 := frm_c (frm_c (frm_c (frm_0 _ _ _) f14 rfl) t3 rfl) r4 rfl
    have f2 : frm [1, 3, 47, 48] [] A2 E2 := frm_c (frm_c (frm_c (frm_0 _ _ _) c1 rfl) t4 rfl) r5 rfl
    have e47 : ∀ d, 0 ≤ d → d < 48 → E2 47 d = A2 1 d := fun d d0 d1 => by rw [frm_a r5 (r := 47) rfl, frm_a t4 (r := 47) rfl, c2 d, if_pos ⟨d0, d1⟩]
    have e48 : ∀ d, 0 ≤ d → d < 48 → E2 48 d = A2 3 d := fun d d0 d1 => by rw [frm_a r5 (r := 48) rfl, frm_a t4 (r := 48) rfl, c3 d, if_pos ⟨d0, d1⟩]
    refine ⟨?_, ?_, frm_c f2 s3 rfl⟩
    · show ja (A1 1 (fd 0)) (jx (E1 1 (fd 0)) (qnL 18446744073709551615)) = y2.1
      refine isT_eq ⟨_, ja_bv _ _⟩ s1 (fun d d0 d1 => ?_)
      rw [hbit_gone _ _ d0 d1, s2 d d0 d1, hbit_0, Bool.false_or]
      have q1 := hb_is (A := A1) (c := d) d0 d1
      have q2 := hb_is (A := E1) (c := d) d0 d1
      by_cases z : d < 48
      · rw [e47 d d0 z]
        have u1 := h.1.1.1 d d0 z
        have u2 := r3.1.1.1 d d0 z
        by_cases w1 : A2 1 d = 0
        · have w2 : hbit (A1 1 (fd 0)) d = false := by
            cases hx : hbit (A1 1 (fd 0)) d
            · rfl
            · exact absurd w1 (u1.mp (q1.mpr hx))
          rw [w2, Bool.false_and, decide_eq_false (fun v => v.2.2.1 w1)]
        · have w2 : hbit (A1 1 (fd 0)) d = true := q1.mp (u1.mpr w1)
          rw [w2, Bool.true_and]
          by_cases w3 : E2 1 d = 0
          · have w4 : hbit (E1 1 (fd 0)) d = false := by
              cases hx : hbit (E1 1 (fd 0)) d
              · rfl
              · exact absurd w3 (u2.mp (q2.mpr hx))
            rw [w4, decide_eq_true ⟨d0, z, w1, w3⟩]
            rfl
          · rw [q2.mp (u2.mpr w3), decide_eq_false (fun v => w3 v.2.2.2)]
            rfl
      · rw [decide_eq_false (fun v => z v.2.1)]
        have u := r6 d (by omega) d1
        rw [t6 d d0 d1] at u
        have u3 : HG B1 d ↔ HG A1 d := HG_k (frm_f f14 rfl) d
        cases hx : hbit (A1 1 (fd 0)) d
        · rfl
        · have : HG E1 d := u.mpr ⟨u3.mpr (q1.mpr hx), fun v => by omega⟩
          rw [q2.mp this]
          rfl
    · show GR (qcpy (qu E1 1 (fd 0) (A1 1 (fd 0))) 14 0 2 0 48) y2.2
      have fz : frm [2, 14] [(1, 0)] A1 (qcpy (qu E1 1 (fd 0) (A1 1 (fd 0))) 14 0 2 0 48) := frm_cp (frm_qf f1 rfl) rfl rfl
      refine GR_back h fz (frm_c f2 s3 rfl) ?_ (fun d d0 d1 => ?_) (fun d d0 d1 => ?_) (fun d d0 d1 => ?_)
      · rw [cp_a (r' := 1) (A := qu E1 1 (fd 0) (A1 1 (fd 0))) (r0 := 14) (sp := 0) (r := 2) (dp := 0) (n := 48) rfl rfl]
        exact qu_at _ _ _ _
      · unfold qcpy
        rw [if_pos ⟨rfl, d0, by omega⟩, qu_ne (show (14 : Nat) ≠ 1 by decide), show 0 + (d - 0) = d by omega, frm_a r4 (r := 14) rfl, frm_a t3 (r := 14) rfl]
        exact e14 d d0 d1
      · rw [s4 d, if_pos ⟨d0, d1⟩]; exact e47 d d0 d1
      · rw [s5 d, if_pos ⟨d0, d1⟩]; exact e48 d d0 d1
  · rw [hu.2 h1, if_neg h1, if_pos (by decide)]; exact ⟨rfl, h, frm_0 _ _ _⟩
