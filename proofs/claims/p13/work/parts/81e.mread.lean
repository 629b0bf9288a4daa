/-! THE REFERENCE READS SO: conditions -/
def MC22 (F : Nat) (B : qA) : Int × qA := fM_readsCondition_L F 22 [] B
def MC47 (F : Nat) (B : qA) : Int × qA := fM_readsCondition_L F 47 [] B
def nextNot (X : qA) : qA := qu (qu (fM_notes 10 0 X) 0 (fd 32) (wI ((fM_notes 10 0 X) 0 (fd 32) - 1))) 0 (fd 30) (wI ((qu (fM_notes 10 0 X) 0 (fd 32) (wI ((fM_notes 10 0 X) 0 (fd 32) - 1))) 0 (fd 30) - 1))
theorem notes_w (o v : Int) (A : qA) : (fM_notes o v A) 0 (fd 32) = A 0 (fd 32) ∧ (fM_notes o v A) 0 (fd 30) = A 0 (fd 30) ∧ (fM_notes o v A) 0 (fd 27) = A 0 (fd 27) := by
  rw [notes_is]
  exact ⟨by simp [qu_is, fd_eq], by simp [qu_is, fd_eq], by simp [qu_is, fd_eq]⟩
theorem ends_c0 (rec : Nat → List Int → qA → qA) (B : qA) : fM_endsPiece_c0 rec B = if fM_top B = 10 then rec 0 [] (nextNot B) else B := rfl
theorem top_0 {B : qA} (h : fM_top B ≠ -1) : B 0 (fd 32) ≠ 0 := by
  intro q
  apply h
  unfold fM_top
  simp only [qlet]
  rw [if_pos q]
theorem nextNot_w {B : qA} (h0 : 0 < B 0 (fd 32)) (h1 : B 0 (fd 32) ≤ 1000) : (nextNot B) 0 (fd 32) = B 0 (fd 32) - 1 := by
  unfold nextNot
  rw [(notes_w 10 0 B).1, wI_id ⟨by omega, by omega⟩]
  simp [qu_is, fd_eq]
theorem ends_L : ∀ (m F : Nat) (B : qA), m < F → 0 ≤ B 0 (fd 32) → B 0 (fd 32) ≤ m → m ≤ 1000 → ∀ F2 : Nat, m < F2 → fM_endsPiece_L F 0 [] B = fM_endsPiece_L F2 0 [] B
  | _, 0, _, h, _, _, _, _, _ => absurd h (Nat.not_lt_zero _)
  | _, _, _, _, _, _, _, 0, h => absurd h (Nat.not_lt_zero _)
  | m, F + 1, B, hF, h0, hm, hm2, F2 + 1, hF2 => by
    show fM_endsPiece_c0 (fM_endsPiece_L F) B = fM_endsPiece_c0 (fM_endsPiece_L F2) B
    rw [ends_c0, ends_c0]
    by_cases h : fM_top B = 10
    · rw [if_pos h, if_pos h]
      have hw := top_0 (B := B) (by rw [h]; decide)
      cases m with
      | zero => exfalso; omega
      | succ m =>
        have hn := nextNot_w (B := B) (by omega) (by omega)
        exact ends_L m F _ (by omega) (by omega) (by omega) (by omega) F2 (by omega)
    · rw [if_neg h, if_neg h]
theorem ends_step {B : qA} (h : fM_top B = 10) (h0 : 0 ≤ B 0 (fd 32)) (h1 : B 0 (fd 32) ≤ 1000) : fM_endsPiece B = fM_endsPiece (nextNot B) := by
  have hw := top_0 (B := B) (by rw [h]; decide)
  have hn := nextNot_w (B := B) (by omega) (by omega)
  have e1 : fM_endsPiece B = fM_endsPiece_c0 (fM_endsPiece_L 100000) B := rfl
  have e2 : fM_endsPiece (nextNot B) = fM_endsPiece_L 100001 0 [] (nextNot B) := rfl
  rw [e1, e2, ends_c0, if_pos h]
  exact ends_L 1000 100000 _ (by decide) (by omega) (by omega) (by decide) 100001 (by decide)
theorem ends_none {B : qA} (h : fM_top B ≠ 10) : fM_endsPiece B = B := by
  have e1 : fM_endsPiece B = fM_endsPiece_c0 (fM_endsPiece_L 100000) B := rfl
  rw [e1, ends_c0, if_neg h]
/-- a jump lands -/
def landOne (B : qA) : qA := qu (qu B 23 (qm (B 24 (B 0 (fd 32) - 1)) 1048576) (1048576 * qd (B 23 (qm (B 24 (B 0 (fd 32) - 1)) 1048576)) 1048576 + B 0 (fd 31))) 0 (fd 32) (B 0 (fd 32) - 1)
def jit (a t : Int) : Prop := t = 11 ∨ (a = 1 ∧ t = 12)
theorem lands_pop {a : Int} {B : qA} (rec : Nat → List Int → qA → qA) (ha : a = 0 ∨ a = 1) (h : jit a (fM_top B)) : fM_lands_c0 rec a B = rec 0 [a] (landOne B) := by
  unfold fM_lands_c0 landOne
  simp only [qlet, qn20]
  unfold jit at h
  repeat' split
  all_goals first | rfl | (exfalso; omega)
theorem lands_end {a : Int} {B : qA} (rec : Nat → List Int → qA → qA) (ha : a = 0 ∨ a = 1) (h : ¬ jit a (fM_top B)) : fM_lands_c0 rec a B = B := by
  unfold fM_lands_c0
  simp only [qlet]
  unfold jit at h
  repeat' split
  all_goals first | rfl | (exfalso; omega)
theorem landOne_w (B : qA) : (landOne B) 0 (fd 32) = B 0 (fd 32) - 1 := by
  unfold landOne
  exact qu_at _ _ _ _
theorem lands_L {a : Int} (ha : a = 0 ∨ a = 1) : ∀ (m F : Nat) (B : qA), m < F → 0 ≤ B 0 (fd 32) → B 0 (fd 32) ≤ m → ∀ F2 : Nat, m < F2 → fM_lands_L F 0 [a] B = fM_lands_L F2 0 [a] B
  | _, 0, _, h, _, _, _, _ => absurd h (Nat.not_lt_zero _)
  | _, _, _, _, _, _, 0, h => absurd h (Nat.not_lt_zero _)
  | m, F + 1, B, hF, h0, hm, F2 + 1, hF2 => by
    show fM_lands_c0 (fM_lands_L F) a B = fM_lands_c0 (fM_lands_L F2) a B
    by_cases h : jit a (fM_top B)
    · rw [lands_pop _ ha h, lands_pop _ ha h]
      have hw := top_0 (B := B) (by unfold jit at h; omega)
      cases m with
      | zero => exfalso; omega
      | succ m => exact lands_L ha m F _ (by omega) (by rw [landOne_w]; omega) (by rw [landOne_w]; omega) F2 (by omega)
    · rw [lands_end _ ha h, lands_end _ ha h]
theorem lands_step {a : Int} {B : qA} (ha : a = 0 ∨ a = 1) (h : jit a (fM_top B)) (h0 : 0 ≤ B 0 (fd 32)) (h1 : B 0 (fd 32) ≤ 1000) : fM_lands a B = fM_lands a (landOne B) := by
  have hw := top_0 (B := B) (by unfold jit at h; omega)
  have e1 : fM_lands a B = fM_lands_c0 (fM_lands_L 100000) a B := rfl
  have e2 : fM_lands a (landOne B) = fM_lands_L 100001 0 [a] (landOne B) := rfl
  rw [e1, e2, lands_pop _ ha h]
  exact lands_L ha 1000 100000 _ (by decide) (by rw [landOne_w]; omega) (by rw [landOne_w]; omega) 100001 (by decide)
theorem lands_none {a : Int} {B : qA} (ha : a = 0 ∨ a = 1) (h : ¬ jit a (fM_top B)) : fM_lands a B = B := lands_end (fM_lands_L 100000) ha h
/-- a jump is put, and waits -/
theorem jumps_is {n : Int} {lk : Int → Int} {A B : qA} {q o : Int} {ps c : List Int} (hB : prM n lk B) (h : eM A B q ps c o) (t : Int) : eM A (fM_jumps t B) (q + 1) (ps ++ [1048576 * t + B 0 (fd 31)]) (c ++ [1048576 * t]) o := by
  unfold fM_jumps
  simp only [qlet, qn20]
  have k1 : (qu B 24 (B 0 (fd 32)) (1048576 * t + B 0 (fd 31))) 0 = B 0 := by funext i; simp [qu_is]
  rw [(notes_w _ _ _).2.2]
  have k2 : (qu (qu B 24 (B 0 (fd 32)) (1048576 * t + B 0 (fd 31))) 0 (fd 32) (B 0 (fd 32) + 1)) 0 (fd 27) = q := by simp [qu_is, fd_eq, h.1.1]
  rw [k2]
  have h1 := eM_push h (1048576 * t + B 0 (fd 31)) q
  have h2 := eM_go (eM_notes h1 t 0) (q + 1)
  have k3 : qu (qu (qu B 24 (B 0 (fd 32)) (1048576 * t + B 0 (fd 31))) 0 (fd 32) (B 0 (fd 32) + 1)) 0 (fd 27) q = qu (qu B 24 (B 0 (fd 32)) (1048576 * t + B 0 (fd 31))) 0 (fd 32) (B 0 (fd 32) + 1) := by
    funext r i
    rw [qu_is]
    split
    · next z => obtain ⟨rfl, rfl⟩ := z; exact k2.symm
    · rfl
  rw [k3, Int.add_zero] at h2
  exact h2
/-- what lands: its code is told the place behind it -/
theorem land_is {A B : qA} {q o t : Int} {ws cA cB : List Int} (hz : 0 ≤ A 0 (fd 31)) (hz2 : A 0 (fd 31) + cA.length < 1048576) (ht : t = 11 ∨ t = 12) (h : eM A B q (ws ++ [1048576 * t + (A 0 (fd 31) + cA.length)]) (cA ++ [1048576 * t] ++ cB) o) : eM A (landOne B) q ws (cA ++ [1048576 * t + (A 0 (fd 31) + cA.length + 1 + cB.length)] ++ cB) o := by
  obtain ⟨⟨a1, a2, a3, a4⟩, b, d, e, f, g⟩ := h
  have hb := (mcat_app.mp b).2.1
  simp only [List.length_append, List.length_cons, List.length_nil] at a2 a3
  obtain ⟨d1, d2⟩ := mcat_app.mp d
  obtain ⟨d3, d4⟩ := mcat_app.mp d1
  have hv : B 24 (B 0 (fd 32) - 1) = 1048576 * t + (A 0 (fd 31) + cA.length) := by
    rw [← hb]; congr 1; omega
  have hq : qm (B 24 (B 0 (fd 32) - 1)) 1048576 = A 0 (fd 31) + cA.length := by
    rw [hv, qm_nn (by omega)]
    omega
  have hc : B 23 (A 0 (fd 31) + cA.length) = 1048576 * t := d4.1
  have hd : 1048576 * qd (B 23 (A 0 (fd 31) + cA.length)) 1048576 + B 0 (fd 31) = 1048576 * t + (A 0 (fd 31) + cA.length + 1 + cB.length) := by
    rw [hc, qd_nn (by omega)]
    omega
  rw [show (cA ++ [1048576 * t]).length = (cA ++ [1048576 * t + (A 0 (fd 31) + (cA.length : Int) + 1 + (cB.length : Int))]).length by simp] at d2
  unfold landOne
  rw [hq, hd]
  refine ⟨⟨by simp [qu_is, fd_eq, a1], by rw [qu_at]; omega, ?_, by simp [qu_is, fd_eq, a4]⟩, ?_, ?_, ?_, ?_, ?_⟩
  · simp only [List.length_append, List.length_cons, List.length_nil]
    rw [show (qu (qu B 23 (A 0 (fd 31) + (cA.length : Int)) (1048576 * t + (A 0 (fd 31) + (cA.length : Int) + 1 + (cB.length : Int)))) 0 (fd 32) (B 0 (fd 32) - 1)) 0 (fd 31) = B 0 (fd 31) by simp [qu_is, fd_eq]]
    omega
  · exact mcat_ext (mcat_app.mp b).1 (fun k _ _ => by simp [qu_is])
  · refine mcat_app.mpr ⟨mcat_app.mpr ⟨mcat_ext d3 (fun k k0 k1 => ?_), ⟨?_, trivial⟩⟩, mcat_ext d2 (fun k k0 k1 => ?_)⟩
    · have : k ≠ A 0 (fd 31) + cA.length := by omega
      simp [qu_is, this]
    · simp [qu_is]
    · have : k ≠ A 0 (fd 31) + cA.length := by
        simp only [List.length_append, List.length_cons, List.length_nil] at k0
        omega
      simp [qu_is, this]
  · intro j hj; rw [← e j hj]; simp [qu_is]
  · intro k hk
    have : k ≠ A 0 (fd 31) + cA.length := by omega
    rw [← f k hk]; simp [qu_is, this]
  · exact frm_sf (frm_s g rfl rfl) rfl rfl
/-- a comparing -/
theorem cmpM {n : Int} {lk : Int → Int} (hlk : lkok n lk) (e : Nat) {A : qA} (hA : prM n lk A) (ho : A 0 (fd 30) = 6 - (e : Int)) (ht : ¬ hit 1 (fM_top A)) : match p_cmp lk (p_sumE lk e) (A 0 (fd 27)) with | .inl f => (fM_readsCompared A).1 = 0 ∧ (fM_readsCompared A).2 0 (fd 29) = f | .inr (q, c) => ∃ B, fM_readsCompared A = (1, fM_endsPiece B) ∧ eM A B q [] (c.map en) 0 := by
  have hA0 := hA.2.1.1
  have hn200 := hA.1.2.1
  have hop := hA.2.2.2.2
  have h8 := pOk_sumE hlk e (A 0 (fd 27)) hA0 hA.2.1.2
  have h9 := sumM hlk e hA ho ht
  have hrc : fM_readsCompared A = qlp (fM_readsSum A) fun r9 A5 => (if r9 = 0 then (0, A5) else (if fM_here A5 = 60 then (if (fM_readsSum (qu A5 0 (fd 27) (A5 0 (fd 27) + 1))).1 = 0 then (0, (fM_readsSum (qu A5 0 (fd 27) (A5 0 (fd 27) + 1))).2) else (1, fM_endsPiece (fM_notes 7 0 (fM_readsSum (qu A5 0 (fd 27) (A5 0 (fd 27) + 1))).2))) else (if fM_here A5 = 62 then (if (fM_readsSum (qu A5 0 (fd 27) (A5 0 (fd 27) + 1))).1 = 0 then (0, (fM_readsSum (qu A5 0 (fd 27) (A5 0 (fd 27) + 1))).2) else (1, fM_endsPiece (fM_notes 8 0 (fM_readsSum (qu A5 0 (fd 27) (A5 0 (fd 27) + 1))).2))) else (if fM_here A5 = 61 then (if (fM_readsSum (qu A5 0 (fd 27) (A5 0 (fd 27) + 1))).1 = 0 then (0, (fM_readsSum (qu A5 0 (fd 27) (A5 0 (fd 27) + 1))).2) else (1, fM_endsPiece (fM_notes 9 0 (fM_readsSum (qu A5 0 (fd 27) (A5 0 (fd 27) + 1))).2))) else (0, fM_wrongAt 1 (A5 0 (fd 27)) A5))))) := rfl
  rw [hrc]
  unfold p_cmp
  simp only [qlp]
  generalize fM_readsSum A = y at h9 ⊢
  rcases hx : p_sumE lk e (A 0 (fd 27)) with f | ⟨q, c⟩
  · rw [hx] at h9
    rw [if_pos h9.1]
    exact ⟨rfl, h9.2⟩
  · rw [hx] at h9 h8
    obtain ⟨a1, a2, a3⟩ := h8
    obtain ⟨b1, b2⟩ := h9
    have hp1 : prM n lk y.2 := prM_e hA b2 (by simp only [List.length_nil]; omega) (by rw [List.length_map]; omega) a2 (by omega)
    have hyq := b2.1.1
    have hbq := (hlk q (by omega)).1
    rw [if_neg (show ¬ y.1 = 0 by rw [b1]; decide), here_is hp1, hyq]
    have e0 : p_bind (.inr (q, c)) (fun q c => if qone 2 (lk q) = 0 then (.inl (-1000 - q) : pR) else p_bind (p_sumE lk e (q + 1)) fun q' c' => .inr (q', c ++ c' ++ [(lk q, 0)])) = (if qone 2 (lk q) = 0 then (.inl (-1000 - q) : pR) else p_bind (p_sumE lk e (q + 1)) fun q' c' => .inr (q', c ++ c' ++ [(lk q, 0)])) := rfl
    rw [e0]
    have hcm := sg_cmp hbq.1 hbq.2
    by_cases hq : qone 2 (lk q) = 0
    · have := hcm.mp hq
      rw [if_pos hq, if_neg (show ¬ lk q = 60 by omega), if_neg (show ¬ lk q = 62 by omega), if_neg (show ¬ lk q = 61 by omega)]
      refine ⟨rfl, ?_⟩
      show (fM_wrongAt 1 q y.2) 0 (fd 29) = _
      rw [wrong_is]; omega
    · rw [if_neg hq]
      have hin := lk_one hlk (p := q) (by omega) hq
      have hgo := eM_go b2 (q + 1)
      have hp2 : prM n lk (qu y.2 0 (fd 27) (q + 1)) := prM_e hA hgo (by simp only [List.length_nil]; omega) (by rw [List.length_map]; omega) (by omega) (by omega)
      have h9 := sumM hlk e hp2 (by rw [hgo.1.2.2.2]; omega) (by rw [top_base hgo]; exact ht)
      rw [hgo.1.1] at h9
      have h8 := pOk_sumE hlk e (q + 1) (by omega) (by omega)
      have hcase : ∀ t : Int, opc (lk q) = t → match p_bind (p_sumE lk e (q + 1)) (fun q' c' => (.inr (q', c ++ c' ++ [(lk q, 0)]) : pR)) with | .inl f => (if (fM_readsSum (qu y.2 0 (fd 27) (q + 1))).1 = 0 then ((0 : Int), (fM_readsSum (qu y.2 0 (fd 27) (q + 1))).2) else (1, fM_endsPiece (fM_notes t 0 (fM_readsSum (qu y.2 0 (fd 27) (q + 1))).2))).1 = 0 ∧ (if (fM_readsSum (qu y.2 0 (fd 27) (q + 1))).1 = 0 then ((0 : Int), (fM_readsSum (qu y.2 0 (fd 27) (q + 1))).2) else (1, fM_endsPiece (fM_notes t 0 (fM_readsSum (qu y.2 0 (fd 27) (q + 1))).2))).2 0 (fd 29) = f | .inr (q', c') => ∃ B, (if (fM_readsSum (qu y.2 0 (fd 27) (q + 1))).1 = 0 then ((0 : Int), (fM_readsSum (qu y.2 0 (fd 27) (q + 1))).2) else (1, fM_endsPiece (fM_notes t 0 (fM_readsSum (qu y.2 0 (fd 27) (q + 1))).2))) = (1, fM_endsPiece B) ∧ eM A B q' [] (c'.map en) 0 := by
        intro t ht'
        generalize fM_readsSum (qu y.2 0 (fd 27) (q + 1)) = w at h9 ⊢
        rcases hx : p_sumE lk e (q + 1) with f | ⟨q', c'⟩
        · rw [hx] at h9
          show (if w.1 = 0 then ((0 : Int), w.2) else _).1 = 0 ∧ (if w.1 = 0 then ((0 : Int), w.2) else _).2 0 (fd 29) = f
          rw [if_pos h9.1]
          exact ⟨rfl, h9.2⟩
        · rw [hx] at h9
          show ∃ B, (if w.1 = 0 then ((0 : Int), w.2) else (1, fM_endsPiece (fM_notes t 0 w.2))) = (1, fM_endsPiece B) ∧ eM A B q' [] ((c ++ c' ++ [(lk q, 0)]).map en) 0
          rw [if_neg (show ¬ w.1 = 0 by rw [h9.1]; decide)]
          refine ⟨_, rfl, ?_⟩
          have h7 := eM_notes (eM_tr hgo h9.2) t 0
          rw [List.append_nil] at h7
          have ec : (c ++ c' ++ [(lk q, (0 : Int))]).map en = c.map en ++ c'.map en ++ [1048576 * t + 0] := by
            rw [List.map_append, List.map_append, ← ht']; rfl
          rw [ec]
          exact h7
      have h3 : lk q = 60 ∨ lk q = 62 ∨ lk q = 61 := by
        by_cases z : lk q = 60 ∨ lk q = 62 ∨ lk q = 61
        · exact z
        · exact absurd (hcm.mpr z) hq
      rcases h3 with z | z | z
      · rw [if_pos z]
        exact hcase 7 (by rw [z]; rfl)
      · rw [if_neg (show ¬ lk q = 60 by omega), if_pos z]
        exact hcase 8 (by rw [z]; rfl)
      · rw [if_neg (show ¬ lk q = 60 by omega), if_neg (show ¬ lk q = 62 by omega), if_pos z]
        exact hcase 9 (by rw [z]; rfl)
/-! pieces, parts, conditions: what comes of the loop -/
def outPc (n : Int) (A : qA) (x : pR) (y : Int × qA) : Prop := match x with
  | .inl f => y.1 = 0 ∧ y.2 0 (fd 29) = f
  | .inr (q, c) => ∃ (F : Nat) (B : qA), n - q < F ∧ y = MC47 F (fM_endsPiece B) ∧ eM A B q [] (c.map en) 0
/-- at most jumps wait (11; with a = 1 also 12) that land here -/
def outJ (n : Int) (lk : Int → Int) (a : Int) (A : qA) (x : pR) (y : Int × qA) : Prop := match x with
  | .inl f => y.1 = 0 ∧ y.2 0 (fd 29) = f
  | .inr (q, c) => ∃ (F : Nat) (B B' : qA), n - q < F ∧ y = MC47 F B ∧ eM A B' q [] (c.map en) 0 ∧ prM n lk B ∧ B 0 (fd 27) = q ∧ fM_lands 1 B = fM_lands 1 B' ∧ (a = 0 → fM_lands 0 B = fM_lands 0 B') ∧ lk q ≠ 38 ∧ (a = 1 → lk q ≠ 124)
/-- at a sign & or | -/
theorem step_47 {n : Int} {lk : Int → Int} {A B B' : qA} {p a : Int} {F : Nat} {c : List Int} (hA : prM n lk A) (hB : prM n lk B) (hBp : B 0 (fd 27) = p) (hs : (lk p = 38 ∧ a = 0) ∨ (lk p = 124 ∧ a = 1)) (ht : ¬ jit a (fM_top A)) (hl : fM_lands a B = fM_lands a B') (h : eM A B' p [] c 0) (hc : A 0 (fd 27) + c.length ≤ p) (hn : p ≤ n) : ∃ B1, MC47 (F + 1) B = MC22 F B1 ∧ eM A B1 (p + 1) [1048576 * (11 + a) + (A 0 (fd 31) + c.length)] (c ++ [1048576 * (11 + a)]) 0 := by
  have hA0 := hA.2.1.1
  have hop := hA.2.2.2.2
  have hB' : prM n lk B' := prM_e hA h (by simp only [List.length_nil]; omega) hc hn (by omega)
  have hl' : fM_lands a B = B' := by
    rw [hl]
    exact lands_none (by omega) (by rw [top_base h]; exact ht)
  have hj := jumps_is hB' h (11 + a)
  rw [List.nil_append, h.1.2.2.1] at hj
  refine ⟨_, ?_, hj⟩
  show fM_readsCondition_c47 (fM_readsCondition_L F) B = _
  unfold fM_readsCondition_c47
  simp only [qlet]
  rw [here_is hB, hBp]
  rcases hs with ⟨h1, rfl⟩ | ⟨h1, rfl⟩
  · rw [if_neg (show ¬ lk p = 41 by omega), if_pos h1, if_neg (show ¬ lk p = 124 by omega), hl', here_is hB', h.1.1, if_pos h1]
    rfl
  · rw [if_neg (show ¬ lk p = 41 by omega), if_neg (show ¬ lk p = 38 by omega), if_pos h1, if_pos h1, hl', here_is hB', h.1.1, if_neg (show ¬ lk p = 38 by omega)]
    rfl
/-- pieces with & -/
theorem jmpP {n : Int} {lk : Int → Int} (hlk : lkok n lk) {f : Int → Int → pR} {A : qA} (hA : prM n lk A) (ht : ¬ jit 0 (fM_top A)) (hok : ∀ y p, 0 ≤ p → p ≤ n → pOk n p (f y p)) (hf : ∀ (X : qA) (F : Nat), prM n lk X → ¬ hit 1 (fM_top X) → X 0 (fd 30) = A 0 (fd 30) → A 0 (fd 32) ≤ X 0 (fd 32) → n - X 0 (fd 27) < F → outPc n X (f (X 0 (fd 31)) (X 0 (fd 27))) (MC22 F X)) : ∀ (k F : Nat) (B B' : qA) (p : Int) (c : List (Int × Int)), n - p < F → n - p < k → eM A B' p [] (c.map en) 0 → prM n lk B → B 0 (fd 27) = p → fM_lands 1 B = fM_lands 1 B' → fM_lands 0 B = fM_lands 0 B' → A 0 (fd 27) + c.length ≤ p → A 0 (fd 27) < p → p ≤ n → outJ n lk 0 A (p_jmp lk 38 f (A 0 (fd 31)) k p c) (MC47 F B)
  | 0, F, B, B', p, c, hF, hk, _, _, _, _, _, _, _, hn => by exfalso; omega
  | k + 1, F, B, B', p, c, hF, hk, hB', hB, hBp, hl1, hl0, h1, h1', hn => by
    have hA0 := hA.2.1.1
    have hw0 := hA.2.2.1.1
    have hz0 := hA.2.2.2.1
    have hn200 := hA.1.2.1
    have hop := hA.2.2.2.2
    unfold p_jmp
    by_cases hq : lk p = 38
    · rw [if_pos hq]
      have hin := lk_in hlk (p := p) (by omega) (by omega)
      obtain ⟨F, rfl⟩ : ∃ F', F = F' + 1 := ⟨F - 1, by omega⟩
      obtain ⟨B1, e1, hB1⟩ := step_47 (a := 0) (F := F) hA hB hBp (Or.inl ⟨hq, rfl⟩) ht hl0 hB' (by rw [List.length_map]; omega) hn
      rw [List.length_map] at hB1
      rw [e1]
      have hpB1 : prM n lk B1 := prM_e hA hB1 (by simp only [List.length_cons, List.length_nil]; omega) (by simp only [List.length_append, List.length_map, List.length_cons, List.length_nil]; omega) (by omega) (by omega)
      have htop : fM_top B1 = 11 := by
        rw [top_is (ps := []) hB1 hw0 (by omega)]
        omega
      have hw1 : B1 0 (fd 32) = A 0 (fd 32) + 1 := by rw [hB1.1.2.1]; rfl
      have h9 := hf B1 F hpB1 (by rw [htop]; unfold hit; omega) (by rw [hB1.1.2.2.2]; omega) (by omega) (by rw [hB1.1.1]; omega)
      have hz1 : B1 0 (fd 31) = A 0 (fd 31) + c.length + 1 := by
        rw [hB1.1.2.2.1]; simp only [List.length_append, List.length_map, List.length_cons, List.length_nil]; omega
      rw [hB1.1.1, hz1] at h9
      have h8 := hok (A 0 (fd 31) + c.length + 1) (p + 1) (by omega) (by omega)
      rcases hx : f (A 0 (fd 31) + c.length + 1) (p + 1) with e | ⟨q, c'⟩
      · rw [hx] at h9
        exact h9
      · rw [hx] at h9 h8
        obtain ⟨a1, a2, a3⟩ := h8
        obtain ⟨F', B2, g1, g2, g3⟩ := h9
        rw [g2]
        have htop2 : fM_top B2 = 11 := by rw [top_base g3, htop]
        rw [ends_none (by rw [htop2]; decide)]
        have h7 := eM_tr hB1 g3
        rw [Int.add_zero, List.append_nil] at h7
        have hpB2 : prM n lk B2 := prM_e hpB1 g3 (by rw [hB1.1.1]; simp only [List.length_nil]; omega) (by rw [List.length_map, hB1.1.1]; omega) a2 (by have := hpB1.2.2.2.2; omega)
        have hland := land_is (ws := []) (t := 11) (cA := c.map en) (cB := c'.map en) hz0.1 (by rw [List.length_map]; omega) (Or.inl rfl) (by rw [List.length_map]; exact h7)
        have hw2 : B2 0 (fd 32) = A 0 (fd 32) + 1 := by rw [h7.1.2.1]; rfl
        have hwn := hA.2.2.1.2
        have hap := hA.2.1.2
        have hcode : (c.map en) ++ [1048576 * 11 + (A 0 (fd 31) + ((c.map en).length : Int) + 1 + ((c'.map en).length : Int))] ++ c'.map en = (c ++ [(38, A 0 (fd 31) + (c.length : Int) + 1 + (c'.length : Int))] ++ c').map en := by
          rw [List.map_append, List.map_append, List.length_map, List.length_map]; rfl
        rw [hcode] at hland
        exact jmpP hlk hA ht hok hf k F' B2 (landOne B2) q _ g1 (by omega) hland hpB2 g3.1.1 (lands_step (Or.inr rfl) (by rw [htop2]; exact Or.inl rfl) (by omega) (by omega)) (lands_step (Or.inl rfl) (by rw [htop2]; exact Or.inl rfl) (by omega) (by omega)) (by simp only [List.length_append, List.length_cons, List.length_nil]; omega) (by omega) a2
    · rw [if_neg hq]
      exact ⟨F, B, B', hF, rfl, hB', hB, hBp, hl1, fun _ => hl0, hq, fun h => absurd h (by decide)⟩
theorem partM {n : Int} {lk : Int → Int} (hlk : lkok n lk) {f : Int → Int → pR} (hok : ∀ y p, 0 ≤ p → p ≤ n → pOk n p (f y p)) {A : qA} (hA : prM n lk A) (ht : ¬ jit 0 (fM_top A)) (ht2 : ¬ hit 1 (fM_top A)) (ht3 : fM_top A ≠ 10) (hf : ∀ (X : qA) (F : Nat), prM n lk X → ¬ hit 1 (fM_top X) → X 0 (fd 30) = A 0 (fd 30) → A 0 (fd 32) ≤ X 0 (fd 32) → n - X 0 (fd 27) < F → outPc n X (f (X 0 (fd 31)) (X 0 (fd 27))) (MC22 F X)) (F : Nat) (hF : n - A 0 (fd 27) < F) : outJ n lk 0 A (p_part lk f (A 0 (fd 31)) (A 0 (fd 27))) (MC22 F A) := by
  have hA0 := hA.2.1.1
  have hn200 := hA.1.2.1
  have hop := hA.2.2.2.2
  have h9 := hf A F hA ht2 rfl (Int.le_refl _) hF
  have h8 := hok (A 0 (fd 31)) (A 0 (fd 27)) hA0 hA.2.1.2
  unfold p_part
  rcases hx : f (A 0 (fd 31)) (A 0 (fd 27)) with e | ⟨q, c⟩
  · rw [hx] at h9
    exact h9
  · rw [hx] at h9 h8
    obtain ⟨a1, a2, a3⟩ := h8
    obtain ⟨F', B, g1, g2, g3⟩ := h9
    rw [g2, ends_none (by rw [top_base g3]; exact ht3)]
    have hpB : prM n lk B := prM_e hA g3 (by simp only [List.length_nil]; omega) (by rw [List.length_map]; omega) a2 (by omega)
    exact jmpP hlk hA ht hok hf 200 F' B B q c g1 (by omega) g3 hpB g3.1.1 rfl rfl (by omega) a1 a2
/-- parts with | -/
theorem jmpC {n : Int} {lk : Int → Int} (hlk : lkok n lk) {f : Int → Int → pR} {A : qA} (hA : prM n lk A) (ht : ¬ jit 1 (fM_top A)) (hok : ∀ y p, 0 ≤ p → p ≤ n → pOk n p (f y p)) (hf : ∀ (X : qA) (F : Nat), prM n lk X → ¬ jit 0 (fM_top X) → ¬ hit 1 (fM_top X) → fM_top X ≠ 10 → X 0 (fd 30) = A 0 (fd 30) → A 0 (fd 32) ≤ X 0 (fd 32) → n - X 0 (fd 27) < F → outJ n lk 0 X (f (X 0 (fd 31)) (X 0 (fd 27))) (MC22 F X)) : ∀ (k F : Nat) (B B' : qA) (p : Int) (c : List (Int × Int)), n - p < F → n - p < k → eM A B' p [] (c.map en) 0 → prM n lk B → B 0 (fd 27) = p → fM_lands 1 B = fM_lands 1 B' → A 0 (fd 27) + c.length ≤ p → A 0 (fd 27) < p → p ≤ n → lk p ≠ 38 → outJ n lk 1 A (p_jmp lk 124 f (A 0 (fd 31)) k p c) (MC47 F B)
  | 0, F, B, B', p, c, hF, hk, _, _, _, _, _, _, hn, _ => by exfalso; omega
  | k + 1, F, B, B', p, c, hF, hk, hB', hB, hBp, hl1, h1, h1', hn, h38 => by
    have hA0 := hA.2.1.1
    have hw0 := hA.2.2.1.1
    have hz0 := hA.2.2.2.1
    have hn200 := hA.1.2.1
    have hop := hA.2.2.2.2
    unfold p_jmp
    by_cases hq : lk p = 124
    · rw [if_pos hq]
      have hin := lk_in hlk (p := p) (by omega) (by omega)
      obtain ⟨F, rfl⟩ : ∃ F', F = F' + 1 := ⟨F - 1, by omega⟩
      obtain ⟨B1, e1, hB1⟩ := step_47 (a := 1) (F := F) hA hB hBp (Or.inr ⟨hq, rfl⟩) ht hl1 hB' (by rw [List.length_map]; omega) hn
      rw [List.length_map, show (11 : Int) + 1 = 12 from rfl] at hB1
      rw [e1]
      have hpB1 : prM n lk B1 := prM_e hA hB1 (by simp only [List.length_cons, List.length_nil]; omega) (by simp only [List.length_append, List.length_map, List.length_cons, List.length_nil]; omega) (by omega) (by omega)
      have htop : fM_top B1 = 12 := by
        rw [top_is (ps := []) hB1 hw0 (by omega)]
        omega
      have hw1 : B1 0 (fd 32) = A 0 (fd 32) + 1 := by rw [hB1.1.2.1]; rfl
      have h9 := hf B1 F hpB1 (by rw [htop]; unfold jit; omega) (by rw [htop]; unfold hit; omega) (by rw [htop]; decide) (by rw [hB1.1.2.2.2]; omega) (by omega) (by rw [hB1.1.1]; omega)
      have hz1 : B1 0 (fd 31) = A 0 (fd 31) + c.length + 1 := by
        rw [hB1.1.2.2.1]; simp only [List.length_append, List.length_map, List.length_cons, List.length_nil]; omega
      rw [hB1.1.1, hz1] at h9
      have h8 := hok (A 0 (fd 31) + c.length + 1) (p + 1) (by omega) (by omega)
      rcases hx : f (A 0 (fd 31) + c.length + 1) (p + 1) with e | ⟨q, c'⟩
      · rw [hx] at h9
        exact h9
      · rw [hx] at h9 h8
        obtain ⟨a1, a2, a3⟩ := h8
        obtain ⟨F', B2, B3, g1, g2, g3, g4, g5, g6, _, g8, _⟩ := h9
        rw [g2]
        have htop3 : fM_top B3 = 12 := by rw [top_base g3, htop]
        have h7 := eM_tr hB1 g3
        rw [Int.add_zero, List.append_nil] at h7
        have hland := land_is (ws := []) (t := 12) (cA := c.map en) (cB := c'.map en) hz0.1 (by rw [List.length_map]; omega) (Or.inr rfl) (by rw [List.length_map]; exact h7)
        have hw3 : B3 0 (fd 32) = A 0 (fd 32) + 1 := by rw [h7.1.2.1]; rfl
        have hwn := hA.2.2.1.2
        have hap := hA.2.1.2
        have hcode : (c.map en) ++ [1048576 * 12 + (A 0 (fd 31) + ((c.map en).length : Int) + 1 + ((c'.map en).length : Int))] ++ c'.map en = (c ++ [(124, A 0 (fd 31) + (c.length : Int) + 1 + (c'.length : Int))] ++ c').map en := by
          rw [List.map_append, List.map_append, List.length_map, List.length_map]; rfl
        rw [hcode] at hland
        exact jmpC hlk hA ht hok hf k F' B2 (landOne B3) q _ g1 (by omega) hland g4 g5 (by rw [g6]; exact lands_step (Or.inr rfl) (by rw [htop3]; exact Or.inr ⟨rfl, rfl⟩) (by omega) (by omega)) (by simp only [List.length_append, List.length_cons, List.length_nil]; omega) (by omega) a2 g8
    · rw [if_neg hq]
      exact ⟨F, B, B', hF, rfl, hB', hB, hBp, hl1, fun h => absurd h (by decide), h38, fun _ => hq⟩
theorem condM {n : Int} {lk : Int → Int} (hlk : lkok n lk) {f : Int → Int → pR} (hok : ∀ y p, 0 ≤ p → p ≤ n → pOk n p (f y p)) {A : qA} (hA : prM n lk A) (ht : fM_top A = 13) (hf : ∀ (X : qA) (F : Nat), prM n lk X → ¬ hit 1 (fM_top X) → X 0 (fd 30) = A 0 (fd 30) → A 0 (fd 32) ≤ X 0 (fd 32) → n - X 0 (fd 27) < F → outPc n X (f (X 0 (fd 31)) (X 0 (fd 27))) (MC22 F X)) (F : Nat) (hF : n - A 0 (fd 27) < F) : outJ n lk 1 A (p_cond lk f (A 0 (fd 31)) (A 0 (fd 27))) (MC22 F A) := by
  have hA0 := hA.2.1.1
  have hn200 := hA.1.2.1
  have hpart : ∀ (X : qA) (F : Nat), prM n lk X → ¬ jit 0 (fM_top X) → ¬ hit 1 (fM_top X) → fM_top X ≠ 10 → X 0 (fd 30) = A 0 (fd 30) → A 0 (fd 32) ≤ X 0 (fd 32) → n - X 0 (fd 27) < F → outJ n lk 0 X (p_part lk f (X 0 (fd 31)) (X 0 (fd 27))) (MC22 F X) := fun X F hX h1 h2 h3 h4 h4' h5 => partM hlk hok hX h1 h2 h3 (fun Y F' hY h6 h7 h7' h8 => hf Y F' hY h6 (by omega) (by omega) h8) F h5
  have h9 := hpart A F hA (by rw [ht]; unfold jit; omega) (by rw [ht]; unfold hit; omega) (by rw [ht]; decide) rfl (Int.le_refl _) hF
  have h8 := pOk_part hlk hok (A 0 (fd 31)) (A 0 (fd 27)) hA0 hA.2.1.2
  unfold p_cond
  rcases hx : p_part lk f (A 0 (fd 31)) (A 0 (fd 27)) with e | ⟨q, c⟩
  · rw [hx] at h9
    exact h9
  · rw [hx] at h9 h8
    obtain ⟨a1, a2, a3⟩ := h8
    obtain ⟨F', B, B', g1, g2, g3, g4, g5, g6, g7, g8, _⟩ := h9
    rw [g2]
    exact jmpC hlk hA (by rw [ht]; unfold jit; omega) (pOk_part hlk hok) hpart 200 F' B B' q c g1 (by omega) g3 g4 g5 g6 (by omega) a1 a2 g8
/-- what opens something in a condition -/
theorem step_22 {n : Int} {lk : Int → Int} {A : qA} {t : Int} (hA : prM n lk A) (hs : (lk (A 0 (fd 27)) = 40 ∧ t = 13) ∨ (lk (A 0 (fd 27)) = 33 ∧ t = 10)) (F : Nat) : MC22 (F + 1) A = if (fM_opens t A).1 = 0 then (0, (fM_opens t A).2) else MC22 F (fM_opens t A).2 := by
  show fM_readsCondition_c22 (fM_readsCondition_L F) A = _
  unfold fM_readsCondition_c22
  simp only [qlet, qlp]
  rw [here_is hA]
  rcases hs with ⟨h1, rfl⟩ | ⟨h1, rfl⟩
  · rw [if_neg (show ¬ lk (A 0 (fd 27)) = 33 by omega), if_pos h1, if_neg (show ¬ lk (A 0 (fd 27)) = 33 by omega)]
    rfl
  · rw [if_pos h1, if_pos h1]
    rfl
theorem pieceM {n : Int} {lk : Int → Int} (hlk : lkok n lk) : ∀ (e : Nat) (A : qA) (F : Nat), prM n lk A → ¬ hit 1 (fM_top A) → A 0 (fd 30) = 6 - (e : Int) → 1 ≤ A 0 (fd 32) → n - A 0 (fd 27) < F → outPc n A (p_pieceE lk e (A 0 (fd 31)) (A 0 (fd 27))) (MC22 F A) := by
  have cmp : ∀ (e : Nat) (A : qA) (F : Nat), prM n lk A → ¬ hit 1 (fM_top A) → A 0 (fd 30) = 6 - (e : Int) → n - A 0 (fd 27) < F → lk (A 0 (fd 27)) ≠ 40 → lk (A 0 (fd 27)) ≠ 33 → outPc n A (p_cmp lk (p_sumE lk e) (A 0 (fd 27))) (MC22 F A) := by
    intro e A F hA ht ho hF h40 h33
    have h9 := cmpM hlk e hA ho ht
    have hA0 := hA.2.1.1
    have h8 := pOk_cmp hlk (pOk_sumE hlk e) (A 0 (fd 27)) hA0 hA.2.1.2
    obtain ⟨F, rfl⟩ : ∃ F', F = F' + 1 := ⟨F - 1, by have := hA.2.1.2; omega⟩
    have e1 : MC22 (F + 1) A = if (fM_readsCompared A).1 = 0 then (0, (fM_readsCompared A).2) else MC47 F (fM_readsCompared A).2 := by
      show fM_readsCondition_c22 (fM_readsCondition_L F) A = _
      unfold fM_readsCondition_c22
      simp only [qlet, qlp]
      rw [here_is hA, if_neg h33, if_neg h40]
      rfl
    rw [e1]
    rcases hx : p_cmp lk (p_sumE lk e) (A 0 (fd 27)) with f | ⟨q, c⟩
    · rw [hx] at h9
      rw [if_pos h9.1]
      exact ⟨rfl, h9.2⟩
    · rw [hx] at h9 h8
      obtain ⟨B, g1, g2⟩ := h9
      rw [g1, if_neg (show ¬ (1 : Int) = 0 by decide)]
      exact ⟨F, B, by have := h8.1; omega, rfl, g2⟩
  intro e
  induction e with
  | zero =>
    intro A F hA ht ho hw hF
    show outPc n A (if lk (A 0 (fd 27)) = 40 then .inl (-5000 - A 0 (fd 27)) else (if lk (A 0 (fd 27)) = 33 then .inl (-5000 - A 0 (fd 27)) else p_cmp lk (p_sumE lk 0) (A 0 (fd 27)))) _
    have ho6 : A 0 (fd 30) = 6 := by rw [ho]; rfl
    by_cases h1 : lk (A 0 (fd 27)) = 40
    · rw [if_pos h1]
      obtain ⟨F, rfl⟩ : ∃ F', F = F' + 1 := ⟨F - 1, by have := hA.2.1.2; omega⟩
      have h6 := opens_6 (w := 13) ho6
      rw [step_22 (t := 13) hA (Or.inl ⟨h1, rfl⟩), if_pos h6.1]
      exact ⟨rfl, h6.2⟩
    · rw [if_neg h1]
      by_cases h2 : lk (A 0 (fd 27)) = 33
      · rw [if_pos h2]
        obtain ⟨F, rfl⟩ : ∃ F', F = F' + 1 := ⟨F - 1, by have := hA.2.1.2; omega⟩
        have h6 := opens_6 (w := 10) ho6
        rw [step_22 (t := 10) hA (Or.inr ⟨h2, rfl⟩), if_pos h6.1]
        exact ⟨rfl, h6.2⟩
      · rw [if_neg h2]
        exact cmp 0 A F hA ht ho hF h1 h2
  | succ e ih =>
    intro A F hA ht ho hw hF
    have hAo := hA.2.2.2.2
    have hA0 := hA.2.1.1
    have hn200 := hA.1.2.1
    have hw0 := hA.2.2.1.1
    have hwn := hA.2.2.1.2
    have hap := hA.2.1.2
    show outPc n A (if lk (A 0 (fd 27)) = 40 then p_clo lk (p_cond lk (p_pieceE lk e) (A 0 (fd 31)) (A 0 (fd 27) + 1)) 41 else (if lk (A 0 (fd 27)) = 33 then p_bind (p_pieceE lk e (A 0 (fd 31)) (A 0 (fd 27) + 1)) fun q c => .inr (q, c ++ [(33, 0)]) else p_cmp lk (p_sumE lk (e + 1)) (A 0 (fd 27)))) _
    by_cases h1 : lk (A 0 (fd 27)) = 40
    · rw [if_pos h1]
      obtain ⟨F, rfl⟩ : ∃ F', F = F' + 1 := ⟨F - 1, by omega⟩
      have hop := opens_is (w := 13) hA (by decide) (by omega)
      rw [step_22 (t := 13) hA (Or.inl ⟨h1, rfl⟩), if_neg (show ¬ (fM_opens 13 A).1 = 0 by rw [hop.1]; decide)]
      have r3 := hop.2
      generalize fM_opens 13 A = oo at r3 ⊢
      have hin := lk_in hlk (p := A 0 (fd 27)) hA0 (by omega)
      have r2 : prM n lk oo.2 := prM_e hA r3 (by simp only [List.length_cons, List.length_nil]; omega) (by simp only [List.length_nil]; omega) (by omega) (by omega)
      have hp1 := r3.1.1
      have hz1 : oo.2 0 (fd 31) = A 0 (fd 31) := by rw [r3.1.2.2.1]; simp
      have ho1 : oo.2 0 (fd 30) = 6 - (e : Int) := by rw [r3.1.2.2.2]; omega
      have hw1 : oo.2 0 (fd 32) = A 0 (fd 32) + 1 := by rw [r3.1.2.1]; rfl
      have htop : fM_top oo.2 = 13 := by
        rw [top_is (ps := []) r3 hw0 (by decide)]
        decide
      have h8 := pOk_condE hlk e (A 0 (fd 31)) (A 0 (fd 27) + 1) (by omega) (by omega)
      have h9 := condM hlk (pOk_pieceE hlk e) r2 htop (fun X F' hX h5 h6 h6' h7 => ih X F' hX h5 (by omega) (by omega) h7) F (by omega)
      rw [hp1, hz1] at h9
      unfold p_clo
      have h8 : pOk n (A 0 (fd 27) + 1) (p_cond lk (p_pieceE lk e) (A 0 (fd 31)) (A 0 (fd 27) + 1)) := h8
      rcases hx : p_cond lk (p_pieceE lk e) (A 0 (fd 31)) (A 0 (fd 27) + 1) with f | ⟨q, c⟩
      · rw [hx] at h9
        exact h9
      · rw [hx] at h9 h8
        obtain ⟨a1, a2, a3⟩ := h8
        obtain ⟨F', B, B', g1, g2, g3, g4, g5, g6, g7, g8, g9⟩ := h9
        rw [g2]
        obtain ⟨F', rfl⟩ : ∃ F'', F' = F'' + 1 := ⟨F' - 1, by omega⟩
        show outPc n A (if lk q = 41 then .inr (q + 1, c) else .inl (-1000 - q)) (fM_readsCondition_c47 (fM_readsCondition_L F') B)
        unfold fM_readsCondition_c47
        simp only [qlet]
        rw [here_is g4, g5]
        by_cases h41 : lk q = 41
        · rw [if_pos h41, if_pos h41, g6, lands_none (Or.inr rfl) (by rw [top_base g3, htop]; unfold jit; omega)]
          have hAB := eM_tr r3 g3
          rw [List.nil_append, List.append_nil, Int.add_zero] at hAB
          have hin2 := lk_in hlk (p := q) (by omega) (by omega)
          have hBw : B' 0 (fd 32) = A 0 (fd 32) + 1 := by rw [hAB.1.2.1]; rfl
          have hBo : B' 0 (fd 30) = A 0 (fd 30) + 1 := hAB.1.2.2.2
          have hBq : B' 0 (fd 27) = q := hAB.1.1
          have e2 : wI (B' 0 (fd 32) - 1) = B' 0 (fd 32) - 1 := wI_id ⟨by omega, by omega⟩
          have k1 : (qu B' 0 (fd 32) (B' 0 (fd 32) - 1)) 0 (fd 30) = B' 0 (fd 30) := by simp [qu_is, fd_eq]
          have e3 : wI (B' 0 (fd 30) - 1) = B' 0 (fd 30) - 1 := wI_id ⟨by omega, by omega⟩
          have k2 : (qu (qu B' 0 (fd 32) (B' 0 (fd 32) - 1)) 0 (fd 30) (B' 0 (fd 30) - 1)) 0 (fd 27) = q := by simp [qu_is, fd_eq, hBq]
          have e4 : wI (q + 1) = q + 1 := wI_id ⟨by omega, by omega⟩
          rw [e2, k1, e3, k2, e4, if_neg (show ¬ B' 0 (fd 32) - 1 = 0 by omega)]
          have h7 := eM_go (eM_open (eM_pop (ps := []) hAB) (B' 0 (fd 30) - 1)) (q + 1)
          rw [show B' 0 (fd 30) - 1 - A 0 (fd 30) = 0 by omega] at h7
          exact ⟨F', _, by omega, rfl, h7⟩
        · rw [if_neg h41, if_neg h41, if_neg g8, if_neg (g9 rfl)]
          refine ⟨rfl, ?_⟩
          show (fM_wrongAt 1 q B) 0 (fd 29) = _
          rw [wrong_is]; omega
    · rw [if_neg h1]
      by_cases h2 : lk (A 0 (fd 27)) = 33
      · rw [if_pos h2]
        obtain ⟨F, rfl⟩ : ∃ F', F = F' + 1 := ⟨F - 1, by omega⟩
        have hop := opens_is (w := 10) hA (by decide) (by omega)
        rw [step_22 (t := 10) hA (Or.inr ⟨h2, rfl⟩), if_neg (show ¬ (fM_opens 10 A).1 = 0 by rw [hop.1]; decide)]
        have r3 := hop.2
        generalize fM_opens 10 A = oo at r3 ⊢
        have hin := lk_in hlk (p := A 0 (fd 27)) hA0 (by omega)
        have r2 : prM n lk oo.2 := prM_e hA r3 (by simp only [List.length_cons, List.length_nil]; omega) (by simp only [List.length_nil]; omega) (by omega) (by omega)
        have hp1 := r3.1.1
        have hz1 : oo.2 0 (fd 31) = A 0 (fd 31) := by rw [r3.1.2.2.1]; simp
        have ho1 : oo.2 0 (fd 30) = 6 - (e : Int) := by rw [r3.1.2.2.2]; omega
        have hw1 : oo.2 0 (fd 32) = A 0 (fd 32) + 1 := by rw [r3.1.2.1]; rfl
        have htop : fM_top oo.2 = 10 := by
          rw [top_is (ps := []) r3 hw0 (by decide)]
          decide
        have h9 := ih oo.2 F r2 (by rw [htop]; unfold hit; omega) ho1 (by omega) (by omega)
        rw [hp1, hz1] at h9
        rcases hx : p_pieceE lk e (A 0 (fd 31)) (A 0 (fd 27) + 1) with f | ⟨q, c⟩
        · rw [hx] at h9
          exact h9
        · rw [hx] at h9
          obtain ⟨F', B, g1, g2, g3⟩ := h9
          rw [g2]
          have hAB := eM_tr r3 g3
          rw [List.nil_append, List.append_nil, Int.add_zero] at hAB
          have htopB : fM_top B = 10 := by rw [top_base g3, htop]
          have hBw : B 0 (fd 32) = A 0 (fd 32) + 1 := by rw [hAB.1.2.1]; rfl
          rw [ends_step htopB (by omega) (by omega)]
          refine ⟨F', nextNot B, g1, rfl, ?_⟩
          have hn1 := eM_notes hAB 10 0
          have h7 := eM_open (eM_pop (ps := []) hn1) ((fM_notes 10 0 B) 0 (fd 30) - 1)
          have hBo : (fM_notes 10 0 B) 0 (fd 30) = A 0 (fd 30) + 1 := hn1.1.2.2.2
          have e1 : nextNot B = qu (qu (fM_notes 10 0 B) 0 (fd 32) ((fM_notes 10 0 B) 0 (fd 32) - 1)) 0 (fd 30) ((fM_notes 10 0 B) 0 (fd 30) - 1) := by
            unfold nextNot
            have w1 : wI ((fM_notes 10 0 B) 0 (fd 32) - 1) = (fM_notes 10 0 B) 0 (fd 32) - 1 := wI_id (by rw [(notes_w 10 0 B).1]; exact ⟨by omega, by omega⟩)
            have k1 : (qu (fM_notes 10 0 B) 0 (fd 32) ((fM_notes 10 0 B) 0 (fd 32) - 1)) 0 (fd 30) = (fM_notes 10 0 B) 0 (fd 30) := by simp [qu_is, fd_eq]
            have w2 : wI ((fM_notes 10 0 B) 0 (fd 30) - 1) = (fM_notes 10 0 B) 0 (fd 30) - 1 := wI_id ⟨by omega, by omega⟩
            rw [w1, k1, w2]
          rw [e1]
          rw [show (fM_notes 10 0 B) 0 (fd 30) - 1 - A 0 (fd 30) = 0 by omega] at h7
          have ec : (c ++ [((33 : Int), (0 : Int))]).map en = c.map en ++ [1048576 * 10 + 0] := by rw [List.map_append]; rfl
          show eM A _ q [] ((c ++ [((33 : Int), (0 : Int))]).map en) 0
          rw [ec]
          exact h7
      · rw [if_neg h2]
        exact cmp (e + 1) A F hA ht ho hF h1 h2
