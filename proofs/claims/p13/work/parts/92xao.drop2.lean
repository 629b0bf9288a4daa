/-! A CROP FALLS: into the kitchen, into a cell -/
def FCW : List Nat := [6, 7, 10, 8, 20, 23, 25, 26, 27, 28, 29, 30, 31, 32, 33, 35, 43, 78]
def FCV : List (Nat × Nat) := [(24, 9), (24, 10), (36, 9), (71, 9)]
def FMW : List Nat := [19, 18, 34, 35, 38, 39, 40, 41, 42, 43, 44, 45, 46, 7, 8, 2, 9]
def FMV : List (Nat × Nat) := [(0, 2), (0, 3)]
/-- what is caught lies within a bound -/
def CA (M : Int) (A2 : qA) : Prop := ∀ d, 0 ≤ d → d < 48 → 0 ≤ A2 9 d ∧ A2 9 d ≤ M
theorem CA_k {M : Int} {A B : qA} (h : CA M A) (e : B 9 = A 9) : CA M B := fun d d0 d1 => by rw [e]; exact h d d0 d1
def GA (S : Int → Prop) (A1 A2 : qA) : Prop := RCS S A1 A2 ∧ RB A1 A2 ∧ RF A1 A2 ∧ RL A1 A2
/-- the last of it: rows are closed on both sides -/
theorem fin_is {S : Int → Prop} {L1 L2 X1 X2 : qA} {row c by_ l : Int} (h : RP S L1 L2 row c) (c0 : 0 ≤ c) (c1 : c < 48) (hS : S c) (hl : L1 30 row = l)
  (f1 : frm [31, 32, 23, 20, 8] [] L1 X1) (f2 : frm [19, 18] [] L2 X2) (w f v : Int)
  (hx : ∀ x, 0 ≤ x → x < 8 → X1 20 x = X2 18 x)
  (hcy : ∀ d, 0 ≤ d → d < 48 → S d → L2 1 d ≠ 0 → X1 8 d = (if d = by_ then v else X2 9 d)) :
  ∀ Z1 Z2, Z1 = fC_close X1 → Z2 = fM_empties c (qu (fM_writes c l w f X2) 9 by_ v) → GA S Z1 Z2 ∧ frm FCW FCV L1 Z1 ∧ frm FMW FMV L2 Z2 ∧ Z1 24 (fd 10) = wI (L1 24 (fd 10) + 1) ∧ Z2 0 (fd 3) = L2 0 (fd 3) ∧ ∀ d, Z2 9 d = if d = by_ then v else L2 9 d := by
  intro Z1 Z2 hZ1 hZ2
  obtain ⟨⟨⟨r1, r2, r3, r4, r5⟩, r6, r7⟩, ⟨h1, h2, h3⟩, hb, ⟨k1, k2, k3⟩, hL⟩ := h
  have n1 : X1 24 (fd 9) = row := by rw [frm_f f1 (r := 24) (j := 9) rfl]; exact r6
  have n2 : X2 0 (fd 2) = row := by rw [frm_f f2 (r := 0) (j := 2) rfl, ← k1]; exact r6
  have hrow : 0 ≤ row ∧ row ≤ 60 := by rw [r6] at k1; omega
  obtain ⟨cf, c10, c9⟩ := close_is (A := X1) (by omega) (by omega)
  rw [← hZ1] at cf c10 c9
  obtain ⟨wf, w2, w3, w4⟩ := writes_is c l w f (A := X2) (by omega) (by omega)
  rw [n2] at w2 w3 w4
  rw [n1] at c9
  generalize fM_writes c l w f X2 = Y at wf w2 w3 w4 hZ2
  have hem : Z2 = qu (qu (qu (qu Y 9 by_ v) 7 c (-1)) 8 c 0) 2 c 0 := hZ2
  have ef : frm [9, 7, 8, 2] [] Y Z2 := by
    rw [hem]
    exact frm_q (frm_q (frm_q (frm_q (frm_0 _ _ _) rfl) rfl) rfl) rfl
  have ec : Z2 7 c = -1 ∧ Z2 8 c = 0 ∧ Z2 2 c = 0 := by
    rw [hem]
    refine ⟨?_, ?_, ?_⟩ <;> simp [qu_is]
  have ed : ∀ d, d ≠ c → at_ aRKm d Y Z2 := fun d hd => by
    rw [hem]
    exact at_j (at_j (at_j (at_n (at_0 _ _ _) rfl) hd) hd) hd
  have e9 : ∀ d, Z2 9 d = if d = by_ then v else Y 9 d := fun d => by
    rw [hem]
    by_cases q : d = by_
    · rw [if_pos q, q]; simp [qu_is]
    · rw [if_neg q]; simp [qu_is, q]
  clear hem hZ2 hZ1
  have g1 : frm [31, 32, 23, 20, 8] [(24, 9), (24, 10)] L1 Z1 := frm_c (frm_c (frm_0 _ _ _) f1 rfl) cf rfl
  have g2 : frm [19, 18, 38, 39, 40, 41, 42, 43, 44, 45, 46, 7, 8, 2, 9] [(0, 2)] L2 Z2 := frm_c (frm_c (frm_c (frm_0 _ _ _) f2 rfl) wf rfl) ef rfl
  have e1 : Z1 1 (fd 0) = L1 1 (fd 0) := frm_f g1 rfl
  have e2 : Z2 1 = L2 1 := frm_a g2 rfl
  have hw : ∀ d, at_ aRKm d L2 Y := fun d => at_f (frm_c (frm_c (frm_0 [19, 18, 38, 39, 40, 41, 42, 43, 44, 45, 46] [(0, 2)] L2) f2 rfl) wf rfl) rfl
  have hY : Y 9 = L2 9 := by rw [frm_a wf (r := 9) rfl, frm_a f2 (r := 9) rfl]
  refine ⟨⟨⟨RHG_e h1 e1 e2, fun d a b s => ⟨?_, ?_⟩⟩, RB_20 hb g1 g2 rfl rfl (fun x a b => ?_), ⟨?_, ?_, fun i i0 i1 => ?_⟩, RL_f hL g1 g2 rfl rfl⟩, frm_c (frm_0 _ _ _) g1 rfl, frm_c (frm_0 _ _ _) g2 rfl, ?_, ?_, fun d => by rw [e9 d, hY]⟩
  · obtain ⟨u1, u2⟩ := (h2 d a b s).1
    refine ⟨by rw [HG_k e1 d, e2]; exact u1, fun z => ?_⟩
    rw [e2] at z
    obtain ⟨u3, u4, u5⟩ := u2 z
    have hc8 := hcy d a b s z
    rw [frm_a g1 (r := 2) rfl, frm_a g1 (r := 3) rfl, frm_a g1 (r := 4) rfl, frm_a g1 (r := 5) rfl, frm_a g1 (r := 9) rfl, frm_a g2 (r := 3) rfl, frm_a g2 (r := 4) rfl, frm_a g2 (r := 5) rfl, frm_a g2 (r := 6) rfl, frm_a g2 (r := 10) rfl, frm_a cf (r := 8) rfl, e9 d, hY, hc8, frm_a f2 (r := 9) rfl]
    exact ⟨u3, rfl, u5⟩
  · by_cases q : d = c
    · intro _
      rw [q, frm_a g1 (r := 6) rfl, frm_a g1 (r := 7) rfl, frm_a g1 (r := 10) rfl, h3.1, h3.2.1, h3.2.2, ec.1, ec.2.1, ec.2.2]
      exact ⟨⟨rfl, rfl, rfl⟩, fun _ => ⟨rfl, rfl⟩, ⟨by decide, by decide⟩, Or.inl rfl, ⟨by decide, by decide⟩⟩
    · exact RK_e ((h2 d a b s).2 q) (by rw [e2]) (at_f g1 rfl) (at_c (hw d) (ed d q))
  · rw [frm_a cf (r := 20) rfl, frm_a ef (r := 18) rfl, frm_a wf (r := 18) rfl]
    exact hx x a b
  · rw [c9, frm_f ef (r := 0) (j := 2) rfl, w2]
  · rw [frm_f ef (r := 0) (j := 2) rfl, w2]
    split <;> omega
  · rw [frm_f ef (r := 0) (j := 2) rfl, w2] at i1
    rw [frm_a g1 (r := 25) rfl, frm_a g1 (r := 26) rfl, frm_a g1 (r := 27) rfl, frm_a g1 (r := 28) rfl, frm_a g1 (r := 29) rfl, frm_a g1 (r := 30) rfl, frm_a g1 (r := 33) rfl, frm_a ef (r := 38) rfl, frm_a ef (r := 39) rfl, frm_a ef (r := 40) rfl, frm_a ef (r := 41) rfl, frm_a ef (r := 43) rfl, frm_a ef (r := 45) rfl, frm_a ef (r := 46) rfl]
    by_cases q : i = row
    · have hr60 : row < 60 := by
        by_cases z : row < 60
        · exact z
        · rw [if_neg z] at i1; omega
      rw [if_pos hr60] at i1
      obtain ⟨⟨v1, v2, v3, v4, v5⟩, v6, v7⟩ := w3 (by first | exact hr60 | omega)
      rw [q, v1, v2, v3, v4, v5, v6, v7, r1, r2, r3, r4, r5, r7, hl, frm_a f2 (r := 7) rfl, frm_a f2 (r := 8) rfl, frm_a f2 (r := 2) rfl, frm_f f2 (r := 0) (j := 0) rfl, ripeM_k c (frm_a f2 rfl) (frm_a f2 rfl) (frm_a f2 rfl)]
      exact ⟨⟨rfl, rfl, rfl, rfl, rfl⟩, rfl, rfl⟩
    · have hi := w4 i q
      rw [hi 38 (by decide), hi 39 (by decide), hi 40 (by decide), hi 41 (by decide), hi 43 (by decide), hi 45 (by decide), hi 46 (by decide), frm_a f2 (r := 38) rfl, frm_a f2 (r := 39) rfl, frm_a f2 (r := 40) rfl, frm_a f2 (r := 41) rfl, frm_a f2 (r := 43) rfl, frm_a f2 (r := 45) rfl, frm_a f2 (r := 46) rfl]
      refine k3 i i0 ?_
      rw [r6] at k1
      split at i1 <;> omega
  · rw [c10, frm_f f1 (r := 24) (j := 10) rfl]
  · rw [frm_f ef (r := 0) (j := 3) rfl, frm_f wf (r := 0) (j := 3) rfl, frm_f f2 (r := 0) (j := 3) rfl]
theorem qu_same {A : qA} {r : Nat} {j : Int} : qu A r j (A r j) = A := by
  funext b i
  rw [qu_is]
  split
  · next q => rw [q.1, q.2]
  · rfl
theorem kit_is {S : Int → Prop} {K1 K2 : qA} {row c : Int} (h : RP S K1 K2 row c) (c0 : 0 ≤ c) (c1 : c < 48) (hS : S c) (hh : K2 1 c ≠ 0) (hk : K2 7 c ≠ -1) (h30 : K1 30 row = 6) :
  (kitM c K2).1 = 6 ∧ GA S (fC_close (fC_landIn row c (qu (fC_ownerOf row K1).2 31 row (fC_ownerOf row K1).1))) (kitM c K2).2 ∧ frm FCW FCV K1 (fC_close (fC_landIn row c (qu (fC_ownerOf row K1).2 31 row (fC_ownerOf row K1).1))) ∧ frm FMW FMV K2 (kitM c K2).2 ∧ (fC_close (fC_landIn row c (qu (fC_ownerOf row K1).2 31 row (fC_ownerOf row K1).1))) 24 (fd 10) = wI (K1 24 (fd 10) + 1) ∧ (kitM c K2).2 0 (fd 3) = K2 0 (fd 3) ∧ (kitM c K2).2 9 = K2 9 := by
  have e := owner_is h.1.1 (h.2.1.2.1 c c0 c1 hS).1 h.2.2.1 h.2.2.2.2 c0 c1 hh hk h30
  obtain ⟨K, f, ek, fk, kx⟩ := kitM_is c0 c1 K2 rfl
  rw [ek]
  generalize fM_told 111 7 (qu (fM_feels c K2) 35 12 (6 - c % 6)) = y2 at e ek fk kx ⊢
  generalize fC_ownerOf row K1 = y1 at e ⊢
  have hp := RP_ev h e
  have l30 : y1.2 30 row = 6 := by rw [frm_a e.1 (r := 30) rfl]; exact h30
  obtain ⟨lf, lx⟩ := landIn_is (row := row) c0 (qu y1.2 31 row y1.1)
  have f1 : frm [31, 32, 23, 20, 8] [] y1.2 (fC_landIn row c (qu y1.2 31 row y1.1)) := frm_c (frm_q (frm_0 _ _ _) rfl) lf rfl
  have fin := fin_is (by_ := 0) hp c0 c1 hS l30 f1 fk y2.1 f (K 9 0) (fun x x0 x1 => by
      rw [lx x, kx x]
      have a1 : (qu y1.2 31 row y1.1) 18 = y1.2 18 := qu_ne (by decide)
      have a2 : (qu y1.2 31 row y1.1) 27 = y1.2 27 := qu_ne (by decide)
      have a3 : (qu y1.2 31 row y1.1) 20 = y1.2 20 := qu_ne (by decide)
      have b1 := (hp.2.2.1.2.1 (c / 6) (by omega) (by omega))
      have b2 := (hp.2.2.1.2.1 x x0 x1)
      rw [a1, a2, a3, b1.1.2.2, b1.2.1.2, b2.2.1.2, hp.1.1.2.2.1]) (fun d a b s z => by
      have w := ((hp.2.1.2.1 d a b s).1.2 z).2.1
      rw [frm_a lf (r := 8) rfl, qu_ne (by decide), w, frm_a fk (r := 9) rfl]
      split
      · next q => rw [q]
      · rfl) _ _ rfl rfl
  have hw9 : (fM_writes c 6 y2.1 f K) 9 = K 9 := frm_a (writes_is c 6 y2.1 f (A := K) (by rw [frm_f fk (r := 0) (j := 2) rfl]; exact hp.2.2.2.1.2.1.1) (by rw [frm_f fk (r := 0) (j := 2) rfl]; exact hp.2.2.2.1.2.1.2)).1 rfl
  have hsame : qu (fM_writes c 6 y2.1 f K) 9 0 (K 9 0) = fM_writes c 6 y2.1 f K := by
    rw [← hw9]
    exact qu_same
  rw [hsame] at fin
  obtain ⟨a1, a2, a3, a4, a5, a6⟩ := fin
  exact ⟨rfl, a1, frm_c (frm_c (frm_0 _ _ _) e.1 rfl) a2 rfl, frm_c (frm_c (frm_0 _ _ _) e.2 rfl) a3 rfl, by rw [a4, frm_f e.1 (r := 24) (j := 10) rfl], by dsimp only; rw [a5, frm_f e.2 (r := 0) (j := 3) rfl], by
    funext d
    dsimp only
    rw [a6 d, frm_a fk (r := 9) rfl, frm_a e.2 (r := 9) rfl]
    split
    · next q => rw [q]
    · rfl⟩
/-- what a fall leaves alike -/
def DR (S : Int → Prop) (e : Int) (A1 A2 : qA) (y1 y2 : Int × qA) : Prop := y1.1 = y2.1 ∧ GA S y1.2 y2.2 ∧ frm FCW FCV A1 y1.2 ∧ frm FMW FMV A2 y2.2 ∧ y1.2 24 (fd 10) = wI (A1 24 (fd 10) + 1) ∧ y2.2 0 (fd 3) = wI (A2 0 (fd 3) + 1) ∧ ∀ M, M ≤ 2000000000 → CA M A2 → CA (M + e) y2.2
theorem drop0 {S : Int → Prop} {A1 A2 : qA} {c : Int} (h : GA S A1 A2) (c0 : 0 ≤ c) (c1 : c < 48) (hS : S c) (hh : A2 1 c ≠ 0) (hk : A2 7 c ≠ -1) : DR S 0 A1 A2 (fC_dropCrop c 0 A1) (fM_falls c 0 A2) := by
  obtain ⟨h1, hb, hf, hL⟩ := h
  obtain ⟨o1, hp, of⟩ := open_RP h1 hb hf hL c0 c1 hS hh
  suffices key : ∀ z : Int, z = 0 → DR S 0 A1 A2 (fC_dropCrop c z A1) (fM_falls c z A2) from key 0 rfl
  intro z hz
  unfold fC_dropCrop
  simp only [qlet, qlp]
  rw [falls_eq, if_pos hz, if_pos hz, o1]
  have f2 : frm [] [(0, 3)] A2 (qu A2 0 (fd 3) (wI (A2 0 (fd 3) + 1))) := frm_qf (frm_0 _ _ _) rfl
  have h3 : (qu A2 0 (fd 3) (wI (A2 0 (fd 3) + 1))) 0 (fd 3) = wI (A2 0 (fd 3) + 1) := qu_at _ _ _ _
  generalize qu A2 0 (fd 3) (wI (A2 0 (fd 3) + 1)) = K2 at hp f2 h3 ⊢
  generalize fC_clearCrop c (fC_open c (A1 15 (fd 8)) A1).2 = K1 at hp of ⊢
  have hp := RP_30 (v := 6) hp
  obtain ⟨a1, a2, a3, a4, a5, a6, a7⟩ := kit_is hp c0 c1 hS (by rw [frm_a f2 (r := 1) rfl]; exact hh) (by rw [frm_a f2 (r := 7) rfl]; exact hk) (qu_at _ _ _ _)
  refine ⟨a1.symm, a2, ?_, frm_c (frm_c (frm_0 _ _ _) f2 rfl) a4 rfl, ?_, by rw [a6]; exact h3, fun M _ hM => by rw [Int.add_zero]; exact CA_k hM (by rw [a7, frm_a f2 (r := 9) rfl])⟩
  · exact frm_c (frm_q (frm_c (frm_0 _ _ _) of rfl) rfl) a3 rfl
  · show _ = _
    try dsimp only
    rw [a5, qu_ne (by decide), frm_f of (r := 24) (j := 10) rfl]
theorem drop1 {A1 A2 : qA} {c : Int} (h : GA (fun _ => True) A1 A2) (c0 : 0 ≤ c) (c1 : c < 48) (hh : A2 1 c ≠ 0) (hk : A2 7 c ≠ -1) : DR (fun _ => True) 200 A1 A2 (fC_dropCrop c 1 A1) (fM_falls c 1 A2) := by
  obtain ⟨h1, hb, hf, hL⟩ := h
  obtain ⟨o1, hp, of⟩ := open_RP h1 hb hf hL c0 c1 trivial hh
  unfold fC_dropCrop
  simp only [qlet, qlp]
  rw [falls_eq, if_neg (show ¬ (1 : Int) = 0 by decide), if_neg (show ¬ (1 : Int) = 0 by decide), o1]
  have f2 : frm [] [(0, 3)] A2 (qu A2 0 (fd 3) (wI (A2 0 (fd 3) + 1))) := frm_qf (frm_0 _ _ _) rfl
  have h3 : (qu A2 0 (fd 3) (wI (A2 0 (fd 3) + 1))) 0 (fd 3) = wI (A2 0 (fd 3) + 1) := qu_at _ _ _ _
  generalize qu A2 0 (fd 3) (wI (A2 0 (fd 3) + 1)) = K2 at hp f2 h3 ⊢
  generalize fC_clearCrop c (fC_open c (A1 15 (fd 8)) A1).2 = K1 at hp of ⊢
  have hh2 : K2 1 c ≠ 0 := by rw [frm_a f2 (r := 1) rfl]; exact hh
  have hk2 : K2 7 c ≠ -1 := by rw [frm_a f2 (r := 7) rfl]; exact hk
  obtain ⟨b1, b2, b3⟩ := catch_is hp.1.1 (fun k k0 k1 => (hp.2.1.2.1 k (by omega) (by omega) trivial).1) hp.2.2.1 hp.2.2.2.2 c0 c1
  generalize fM_catcher c K2 = y2 at b1 b2 b3 ⊢
  generalize fC_catching (A1 24 (fd 9)) K1 = y1 at b1 b3 ⊢
  have hp2 := RP_30 (v := y1.1) (RP_ev hp b3)
  have l2h : y2.2 1 = K2 1 := frm_a b3.2 rfl
  have l27 : y2.2 7 = K2 7 := frm_a b3.2 rfl
  by_cases q : y2.1 = -1
  · rw [if_pos q] at b1
    rw [if_pos q, b1, if_neg (show ¬ (6 : Int) < 6 by decide)]
    rw [b1] at hp2
    obtain ⟨a1, a2, a3, a4, a5, a6, a7⟩ := kit_is hp2 c0 c1 trivial (by rw [l2h]; exact hh2) (by rw [l27]; exact hk2) (qu_at _ _ _ _)
    refine ⟨a1.symm, a2, ?_, frm_c (frm_c (frm_c (frm_0 _ _ _) f2 rfl) b3.2 rfl) a4 rfl, ?_, ?_, fun M _ hM d d0 d1 => ?_⟩
    · exact frm_c (frm_q (frm_c (frm_c (frm_0 _ _ _) of rfl) b3.1 rfl) rfl) a3 rfl
    · try dsimp only
      rw [a5, qu_ne (by decide), frm_f b3.1 (r := 24) (j := 10) rfl, frm_f of (r := 24) (j := 10) rfl]
    · try dsimp only
      rw [a6, frm_f b3.2 (r := 0) (j := 3) rfl]; exact h3
    · have := hM d d0 d1
      rw [a7, frm_a b3.2 (r := 9) rfl, frm_a f2 (r := 9) rfl]
      omega
  · rw [if_neg q] at b1
    obtain ⟨d1, d2, d3⟩ : c < y2.1 ∧ y2.1 < c - c % 6 + 6 ∧ K2 1 y2.1 ≠ 0 := by
      rcases b2 with z | z
      · exact absurd z q
      · exact z
    have hb1 : y1.1 < 6 := by rw [b1]; omega
    rw [if_neg q, if_pos hb1, qm_nn c0, qm_nn (show 0 ≤ y2.1 by omega), show c - c % 6 + y1.1 = y2.1 by rw [b1]; omega]
    have n60 : (0 ≤ y2.2 0 (fd 2)) ∧ y2.2 0 (fd 2) ≤ 60 := hp2.2.2.2.1.2.1
    have ww := writes_is c (y2.1 % 6) (-1) 0 (A := y2.2) n60.1 n60.2
    have w9 : (fM_writes c (y2.1 % 6) (-1) 0 y2.2) 9 = y2.2 9 := frm_a ww.1 rfl
    have w8 : (fM_writes c (y2.1 % 6) (-1) 0 y2.2) 8 = y2.2 8 := frm_a ww.1 rfl
    rw [w9, w8]
    have p8 : (qu y1.2 30 (A1 24 (fd 9)) y1.1) 8 y2.1 = y2.2 9 y2.1 := (((hp2.2.1.2.1 y2.1 (by omega) (by omega) trivial).1.2 (by rw [l2h]; exact d3)).2.1)
    have p27 : (qu y1.2 30 (A1 24 (fd 9)) y1.1) 27 (A1 24 (fd 9)) = y2.2 8 c := hp2.1.1.2.2.1
    rw [p8, p27]
    have hl : (qu y1.2 30 (A1 24 (fd 9)) y1.1) 30 (A1 24 (fd 9)) = y2.1 % 6 := by rw [qu_at]; exact b1
    have fin := fin_is (by_ := y2.1) hp2 c0 c1 trivial hl (frm_q (frm_q (frm_q (frm_0 [31, 32, 23, 20, 8] [] (qu y1.2 30 (A1 24 (fd 9)) y1.1)) (r := 8) (j := y2.1) (v := wI (y2.2 9 y2.1 + y2.2 8 c)) rfl) (r := 31) (j := A1 24 (fd 9)) (v := -1) rfl) (r := 32) (j := A1 24 (fd 9)) (v := 0) rfl) (frm_0 _ _ y2.2) (-1) 0 (wI (y2.2 9 y2.1 + y2.2 8 c)) (fun x x0 x1 => by
      rw [qu_ne (by decide), qu_ne (by decide), qu_ne (by decide)]
      exact (hp2.2.2.1.2.1 x x0 x1).2.1.2) (fun d a b s z => by
      have w := ((hp2.2.1.2.1 d a b s).1.2 z).2.1
      rw [qu_ne (by decide), qu_ne (by decide)]
      by_cases u : d = y2.1
      · rw [if_pos u, u, qu_at]
      · rw [if_neg u, qu_nj u]; exact w) _ _ rfl rfl
    obtain ⟨a1, a2, a3, a4, a5, a6⟩ := fin
    refine ⟨b1, a1, frm_c (frm_q (frm_c (frm_c (frm_0 _ _ _) of rfl) b3.1 rfl) rfl) a2 rfl, frm_c (frm_c (frm_c (frm_0 _ _ _) f2 rfl) b3.2 rfl) a3 rfl, ?_, ?_, fun M hM0 hM d d0 d1 => ?_⟩
    · try dsimp only
      rw [a4, qu_ne (by decide), frm_f b3.1 (r := 24) (j := 10) rfl, frm_f of (r := 24) (j := 10) rfl]
    · try dsimp only
      rw [a5, frm_f b3.2 (r := 0) (j := 3) rfl]; exact h3
    · have m1 := hM d d0 d1
      have m2 := hM y2.1 (by omega) (by omega)
      have m3 := ((h1.2 c c0 c1 trivial).2 hh).2.2.2.2
      have m9 : y2.2 9 = A2 9 := by rw [frm_a b3.2 (r := 9) rfl, frm_a f2 (r := 9) rfl]
      have m8 : y2.2 8 = A2 8 := by rw [frm_a b3.2 (r := 8) rfl, frm_a f2 (r := 8) rfl]
      have e9 := a6 d
      rw [m9, m8, show wI (A2 9 y2.1 + A2 8 c) = A2 9 y2.1 + A2 8 c from wI_id ⟨by omega, by omega⟩] at e9
      have hx : ∀ v, v = (if d = y2.1 then A2 9 y2.1 + A2 8 c else A2 9 d) → 0 ≤ v ∧ v ≤ M + 200 := fun v hv => by
        by_cases u : d = y2.1
        · rw [if_pos u] at hv; omega
        · rw [if_neg u] at hv; omega
      refine hx _ (Eq.trans ?_ e9)
      rw [m9, m8, show wI (A2 9 y2.1 + A2 8 c) = A2 9 y2.1 + A2 8 c from wI_id ⟨by omega, by omega⟩]
