theorem rpos_of {A1 A2 : qA} (hb : RB A1 A2) (cc : Int → Int) : rpos (pG A2 cc) := fun k k0 k1 => by
  obtain ⟨_, _, h2, h3⟩ := hb.1 k k0 (by omega)
  exact ⟨h2.1, h2.2, h3.1, h3.2⟩
theorem kindAt_is {p : Int} {A : qA} (h0 : 0 ≤ p) (h1 : p ≤ 4) : fC_kindAt p A = A 67 p := by
  unfold fC_kindAt
  simp only [qlet_e]
  rw [if_pos ⟨h0, h1⟩]
theorem planted_GR (x w : Int) (hx : rngL x) {A1 A2 : qA} (h : GR A1 A2) (hi : iva IC A1) (hs : SO A2) (hca : CA 6000000 A2) : (fC_planted x w A1).1 = (fM_planted x w A2).1 ∧ GR (fC_planted x w A1).2 (fM_planted x w A2).2 := by
  have hb := PB_of h hi hs hca
  have hkn : ∀ c, 0 ≤ c → c < 48 → 0 ≤ A1 2 c ∧ A1 2 c ≤ 2147483647 := fun c c0 c1 => iva_at hi 0 rfl (i := c) c0 c1
  obtain ⟨t1, t2⟩ := toldT_is hx 5 A1
  obtain ⟨l1, l2, l3⟩ := laysT_is (x := x) (T := 5) (by decide) A2
  unfold fC_planted fM_planted
  simp only [qlet_e, qlp]
  by_cases ok : okT x 5
  · obtain ⟨e1, e2⟩ := t1 ok
    obtain ⟨m1, m2, m3⟩ := l2 ok
    obtain ⟨x0, x1, p5⟩ := ok
    generalize hn : pcnt x.toNat 48 = n at e1 e2 m2 p5
    rw [e1, m1, if_neg (show ¬ (n : Int) < 1 by omega), if_neg (show ¬ (1 : Int) = 0 by decide)]
    generalize (fM_lays x 5 A2).2 = M at m2 m3 l3 ⊢
    rw [m2, show wI ((n : Int) - 1) = (n : Int) - 1 from wI_id ⟨by omega, by omega⟩]
    have hGM : GR A1 M := GR_f h (frm_0 [] [] A1) l3 rfl rfl
    -- the cells
    have htl : tld x.toNat 48 (M 50) := m3
    have hcell : ∀ i : Int, 0 ≤ i → i < n → 0 ≤ M 50 i ∧ M 50 i < 48 := fun i i0 i1 => (tld_same htl htl i i0 (by rw [hn]; exact i1)).2
    have hij : ∀ i j : Int, 0 ≤ i → i < j → j < n → M 50 i < M 50 j := fun i j i0 ij j1 => tld_inj htl i j i0 ij (by rw [hn]; exact j1)
    have main : ∀ y1 y2 : Int × qA, y1 = fC_planted_L 100000 20 [x, w, 0] A1 → y2 = fM_planted_L 100000000 22 [w, 1, 0] M → (w = 10 ∨ (-1 ≤ w ∧ w < n)) → y1.1 = y2.1 ∧ GR y1.2 y2.2 := by
      intro y1 y2 hy1 hy2 hw
      have hcOK := okC_L (w := w) h (x := x) (by omega) x1 48 99951 0 (by decide)
      rw [show 99951 + 48 + 1 = 100000 from rfl, show ((0 : Nat) : Int) = 0 from rfl, ← hy1] at hcOK
      have hmOK := okM_L (G := pG A2 (M 50)) (n := n) (A := M) m2 (by omega) (fun i _ _ => rfl) (l := w) n (99999999 - n) 0 (by omega) (by decide)
      rw [show 99999999 - n + n + 1 = 100000000 by omega, Nat.sub_self, show ((p7 0 : Nat) : Int) = 1 from rfl, ← hy2] at hmOK
      have hG0 : ∀ i, pG A2 (M 50) 0 i = M 50 i := fun i => rfl
      have eM1 : M 1 = A2 1 := frm_a l3 rfl
      have eM7 : M 7 = A2 7 := frm_a l3 rfl
      have eqOK : (∀ j : Nat, 0 ≤ j → j < 48 → x.toNat.testBit j = true → A2 1 (j : Int) ≠ 0 ∧ A2 7 (j : Int) = -1) ↔ (∀ i, (0 : Int) ≤ i → i < n → M 1 (pG A2 (M 50) 0 i) ≠ 0 ∧ M 7 (pG A2 (M 50) 0 i) = -1) := by
        constructor
        · intro H i i0 i1
          obtain ⟨j, k1, k2, k3⟩ := pcnt_ex (X := x.toNat) 48 i.toNat (by omega)
          have u := htl j k1 k2
          rw [k3, show ((i.toNat : Nat) : Int) = i by omega] at u
          rw [hG0, u, eM1, eM7]
          exact H j (Nat.zero_le _) k1 k2
        · intro H j _ j1 hj
          have u := htl j j1 hj
          have l := pcnt_lt j1 hj
          have v := H (pcnt x.toNat j : Int) (by omega) (by omega)
          rw [hG0, u, eM1, eM7] at v
          exact v
      rcases hcOK with ⟨c1, c2⟩ | ⟨⟨j, j0, j1, j2, j3⟩, c2⟩
      · rcases hmOK with ⟨d1, d2⟩ | ⟨⟨i, i0, i1, i2⟩, d2⟩
        · rw [c2, d2]
          have hh : ∀ i, (0 : Int) ≤ i → i < n → A2 1 (M 50 i) ≠ 0 ∧ A2 7 (M 50 i) = -1 := fun i i0 i1 => by
            have := d1 i i0 i1
            rw [hG0, eM1, eM7] at this
            exact this
          have hp : rpos (pG A2 (M 50)) := rpos_of h.2.1 (M 50)
          have hknM : ∀ c, 0 ≤ c → c < 48 → A2 1 c ≠ 0 → A2 3 c ≤ 2147483647 := fun c c0 c1 z => by
            have := hkn c c0 c1
            rw [((h.1.2 c c0 c1 trivial).1.2 z).1.1] at this
            exact this.2
          have hob : ∀ (m : Nat) (j : Int), 0 ≤ j → j + m ≤ 48 → 0 ≤ sumP (ownP A2) m j := by
            intro m
            induction m with
            | zero => intro j _ _; exact Int.le_refl _
            | succ m ih =>
              intro j j0 j1
              have a := ih (j + 1) (by omega) (by omega)
              have b := own_s hb (fun k a b => (h.2.1.1 k a b).2.2.1) (fun d a b z w => (((h.1.2 d a b trivial).2 z).2.1 w).1) (c := j) j0 (by omega)
              show 0 ≤ ownP A2 j + sumP (ownP A2) m (j + 1)
              omega
          -- the class: its choice
          rw [show 99951 + 1 = 99951 + 1 from rfl, fC_planted_L20]
          unfold fC_planted_c20
          simp only [qlet_e, qlp]
          rw [if_neg (show ¬ (48 : Int) < 48 by decide)]
          have ech : fC_choose x A1 = fC_choose_L 100000 8 [x, 0] (qu (qu A1 63 (fd 6) 0) 63 (fd 7) (-1)) := by rw [fC_choose.eq_1]; repeat rw [qlet.eq_1]
          have hch := choose_L (cc := M 50) h hb hkn (x := x) (by omega) x1 (by omega) 48 99951 0 (qu (qu A1 63 (fd 6) 0) 63 (fd 7) (-1)) (by decide) (frm_qf (frm_qf (frm_0 _ _ _) rfl) rfl) (by simp [qu_is, fd_eq, pcnt]) (qu_at _ _ _ _) (fun j hj => absurd hj (Nat.not_lt_zero j)) (fun c c0 c1 => by omega)
          rw [show 99951 + 48 + 1 = 100000 from rfl, show ((0 : Nat) : Int) = 0 from rfl, ← ech] at hch
          -- the reference: its search
          have hmM : plM (pG A2 (M 50)) n M := by
            refine ⟨⟨m2, by omega⟩, fun i i0 i1 => ⟨rfl, hcell i i0 i1⟩, fun k k0 k1 => ?_, fun y y0 y1 => ?_, ⟨?_, ?_⟩, fun c c0 c1 => ⟨fun z => ?_, fun z => ⟨?_, ?_⟩⟩, fun c c0 c1 => pG_4 A2 (M 50) c0 c1⟩
            · rw [frm_a l3 (r := 12) rfl, frm_a l3 (r := 13) rfl]; exact ⟨rfl, rfl⟩
            · rw [frm_a l3 (r := 16) rfl]; rfl
            · rw [frm_a l3 (r := 3) rfl]; rfl
            · rw [frm_a l3 (r := 1) rfl]; rfl
            · have z : A2 1 c = 0 := z
              show ownP A2 c = 0
              unfold ownP
              rw [if_pos z]
            · rw [frm_a l3 (r := 4) rfl, frm_a l3 (r := 9) rfl, frm_a l3 (r := 10) rfl, frm_a l3 (r := 8) rfl, eM7]
              exact hb c c0 c1 z
            · have z : A2 1 c ≠ 0 := z
              rw [frm_a l3 (r := 4) rfl, frm_a l3 (r := 9) rfl, frm_a l3 (r := 10) rfl, frm_a l3 (r := 8) rfl, eM7]
              show ownP A2 c = _
              unfold ownP
              rw [if_neg z]
              rfl
          have hy7 : (p7 n : Int) ≤ 16807 := by
            have : n = 0 ∨ n = 1 ∨ n = 2 ∨ n = 3 ∨ n = 4 ∨ n = 5 := by omega
            rcases this with e | e | e | e | e | e <;> rw [e] <;> decide
          obtain ⟨F', B', b0, b1, b2, b3⟩ := pblk hmM hp (l := w) (y := (p7 n : Int)) (by omega) n (Nat.le_refl _) 0 0 (-1) M (99999999 - n) (by decide) (by rw [Int.zero_mul]) (by omega) (by decide) (frm_0 _ _ _) (by omega)
          rw [Nat.sub_self, Int.zero_add] at b2
          rw [Nat.sub_self] at b3
          rw [b2]
          have hF' : 100 ≤ F' := by omega
          have hGB : GR A1 B' := GR_f hGM (frm_0 [] [] A1) b1 rfl rfl
          obtain ⟨F9, rfl⟩ : ∃ F9, F' = F9 + n + 1 + 1 := ⟨F' - n - 2, by omega⟩
          rw [fM_planted_L55]
          unfold fM_planted_c55
          simp only [qlet_e, qlp]
          rw [if_neg (show ¬ (p7 n : Int) < (p7 n : Int) by omega)]
          rcases hch with ⟨C, g1, g2, g3, g4, g5, g6⟩ | ⟨g1, g2, c, k0, k1, k2, k3⟩
          · -- it can be
            rw [g6, if_neg (show ¬ (1 : Int) = 0 by decide)]
            have hcA : plA (pG A2 (M 50)) n C := by
              refine ⟨⟨by rw [g2, hn], by omega⟩, fun i i0 i1 => ?_, fun k k0 k1 => ?_, fun y y0 y1 => ?_, fun c c0 c1 z => ⟨hob _ c c0 (by omega), hknM c c0 c1 z⟩⟩
              · obtain ⟨v1, v2, v3⟩ := tld_same g4 htl i i0 (by rw [hn]; exact i1)
                refine ⟨v1, v2, v3, fun c c0 c1 => ?_⟩
                have c0 : M 50 i - M 50 i % 6 ≤ c := c0
                have c1 : c ≤ M 50 i := c1
                show A2 1 c ≠ 0
                intro z
                exact (hh i i0 i1).1 (RC_below (GR_C h) (c := c) (M 50 i - c).toNat (M 50 i) (by omega) (by omega) v3 (by omega) z)
              · rw [frm_a g1 (r := 12) rfl, frm_a g1 (r := 13) rfl]
                exact ⟨(h.2.1.1 k k0 (by omega)).1.2.1, (h.2.1.1 k k0 (by omega)).1.2.2⟩
              · rw [frm_a g1 (r := 18) rfl]
                exact (h.2.1.2.1 y y0 (by omega)).1.2.2
            have hcI : plI (pG A2 (M 50)) C C [] := ⟨frm_0 _ _ _, rfl, fun c c0 c1 z => by
              have := (g5 c c0 c1 z).1
              show C 64 c = A2 3 c - (pG A2 (M 50) 4 c + 0)
              omega⟩
            have hf : fea (pG A2 (M 50)) [] := ⟨trivial, fun c c0 c1 z => by
              have := (g5 c c0 c1 z).2
              show pG A2 (M 50) 4 c + 0 ≤ A2 3 c
              omega⟩
            obtain ⟨r1, r2⟩ := try0_is hcA hp hcI rfl (Nat.zero_le _) hf (fun d hd => absurd hd List.not_mem_nil)
            have ew : wtS (pG A2 (M 50) 1) (pG A2 (M 50) 2) [] = 0 := rfl
            rw [ew, Nat.sub_zero] at r2
            rw [ew] at r1
            have hdq := blk_d (G := pG A2 (M 50)) n [] (-1, rw_ (M 52) n 0) (fun d hd => absurd hd List.not_mem_nil) (fun z => absurd rfl z)
            have hpos := blk_pos (G := pG A2 (M 50)) n [] (-1, rw_ (M 52) n 0) hf (by rw [ew]; exact Int.le_refl _)
            have heq := blk_e (G := pG A2 (M 50)) n [] (bs n C) (-1, rw_ (M 52) n 0) ⟨g3, fun z => absurd g3 z⟩
            rw [← r2] at heq
            generalize fC_tryCell0 0 0 C = D at r1 r2 heq ⊢
            generalize hbb : blk (pG A2 (M 50)) n [] (-1, rw_ (M 52) n 0) = bst at heq hpos hdq b3 ⊢
            have hcr : cr 0 0 = [] := rfl
            rw [hcr] at b3
            rw [hcr]
            rw [hbb] at b3 ⊢
            obtain ⟨q1, q2⟩ := heq
            have q1 : D 63 (fd 7) = bst.1 := q1
            have q2 : rw_ (D 67) n 0 = bst.2 := q2 (by show D 63 (fd 7) ≠ -1; rw [q1]; omega)
            rw [← b3] at q2
            have fD : frm [64, 65, 66, 67] [(63, 6), (63, 7)] A1 D := frm_c (frm_c (frm_0 _ _ _) g1 rfl) r1.1 rfl
            have hGD : GR D B' := GR_f hGB fD (frm_0 [] [] B') rfl rfl
            rw [if_neg (show ¬ bst.1 = -1 by omega)]
            have hbd : ∀ i, (0 : Int) ≤ i → i < n → dig (B' 52 i) := fun i i0 i1 => hdq (by omega) _ (by rw [← b3]; exact rw_in n 0 i i0 (by omega))
            by_cases w10 : w = 10
            · rw [if_pos w10, w10]
              have e6 : D 63 (fd 6) = n := by rw [frm_f r1.1 (r := 63) (j := 6) rfl]; exact hcA.1.1
              have e65 : ∀ i, (0 : Int) ≤ i → i < n → D 65 i = pG A2 (M 50) 0 i ∧ D 67 i = B' 52 i := fun i i0 i1 => ⟨by rw [frm_a r1.1 (r := 65) rfl]; exact (hcA.2.1 i i0 i1).1, rw_g n 0 q2 i i0 (by omega)⟩
              obtain ⟨E2, u1, u2, u3⟩ := carry_L (G := pG A2 (M 50)) (n := n) (p := B' 52) (b := bst.1) (by omega) hcell hij hbd n (99999 - n) F9 0 D B' (by omega) (by decide) hGD e6 e65 (by rw [frm_f b1 (r := 0) (j := 63) rfl]; exact m2) (fun i i0 i1 => ⟨by rw [frm_a b1 (r := 50) rfl]; rfl, rfl⟩) (fun i i0 i1 => by
                rw [frm_a b1 (r := 1) rfl, frm_a b1 (r := 7) rfl, eM1, eM7]
                exact hh i i0 i1)
              rw [show 99999 - n + n + 1 = 100000 by omega] at u2 u3
              rw [u1]
              have eco : fC_carryOut D = fC_carryOut_L 100000 2 [0] D := rfl
              rw [eco]
              refine ⟨?_, u2⟩
              show (fC_carryOut_L 100000 2 [0] D) 63 (fd 7) = bst.1
              rw [frm_f u3 (r := 63) (j := 7) rfl]
              exact q1
            · rw [if_neg w10, fM_planted_L150]
              unfold fM_planted_c150
              simp only [qlet_e, qlp]
              have h63 : B' 0 (fd 63) = n := by rw [frm_f b1 (r := 0) (j := 63) rfl]; exact m2
              rw [h63, if_pos (show (0 : Int) < n by omega), if_neg w10, if_neg w10, if_neg w10]
              by_cases w1 : w = -1
              · rw [if_pos w1, if_pos w1]
                exact ⟨q1, hGD⟩
              · rw [if_neg w1, if_neg w1]
                have hw2 : -1 ≤ w ∧ w < n := hw.resolve_left w10
                rw [kindAt_is (by omega) (by omega)]
                exact ⟨rw_g n 0 q2 w (by omega) (by omega), hGD⟩
          · -- it can't
            have hcr : cr 0 0 = [] := rfl
            have hbad := blk_bad hp n [] (-1, rw_ (M 52) n 0) (fun z => by
              have := z.2 c k0 k1 k2
              have : pG A2 (M 50) 4 c + 0 ≤ A2 3 c := this
              omega)
            rw [g1, if_pos rfl, hcr, hbad, if_pos rfl]
            exact ⟨rfl, GR_f hGB g2 (frm_0 [] [] B') rfl rfl⟩
        · exact absurd (eqOK.mp c1 i i0 i1) i2
      · rcases hmOK with ⟨d1, d2⟩ | ⟨_, d2⟩
        · exact absurd (eqOK.mpr d1 j j0 j1 j2) j3
        · rw [c2, d2]
          exact ⟨rfl, hGM⟩
    by_cases w10 : w = 10
    · rw [if_neg (show ¬ w < -1 by omega)]
      by_cases wn : w < n
      · rw [if_pos wn, if_pos w10]
        exact main _ _ rfl rfl (Or.inl w10)
      · rw [if_neg wn, if_pos w10, if_pos w10]
        exact main _ _ rfl rfl (Or.inl w10)
    · rw [if_neg w10, if_neg w10]
      by_cases wl : w < -1
      · rw [if_pos wl, if_neg (fun z => by omega)]
        exact ⟨rfl, hGM⟩
      · rw [if_neg wl]
        by_cases wn : w < n
        · rw [if_pos wn, if_pos ⟨by omega, by omega⟩]
          exact main _ _ rfl rfl (Or.inr ⟨by omega, wn⟩)
        · rw [if_neg wn, if_neg (fun z => by omega)]
          exact ⟨rfl, hGM⟩
  · rw [if_pos (t2 ok), l1 ok, if_pos rfl]
    exact ⟨rfl, GR_f h (frm_0 [] [] A1) l3 rfl rfl⟩
