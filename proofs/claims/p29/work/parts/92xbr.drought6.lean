/-! DROUGHT: the columns told, in the class -/
theorem bitsI_all : ∀ c < 256, fC_bitsI ((c : Nat) : Int) (fun _ _ => 0) = ((bsum ((c : Nat) : Int) 8 : Nat) : Int) := by decide +kernel
theorem bitsI_is {c : Int} (c0 : 0 ≤ c) (c1 : c < 256) (A : qA) : fC_bitsI c A = (bsum c 8 : Int) := by
  have h := bitsI_all c.toNat (by omega)
  rw [show ((c.toNat : Nat) : Int) = c by omega] at h
  exact h
theorem share_L {d c : Int} (h4 : bsum c 8 ≤ 4) : ∀ (m F k : Nat) (B : qA), k + m = 8 → B 44 (fd 9) = (bsum c k : Int) → told8 c k (B 47) → (∀ x : Int, 0 ≤ x → x < (k : Int) → B 49 x = 0) → ∃ C, frm [47, 49] [(44, 9)] B C ∧ C 44 (fd 9) = (bsum c 8 : Int) ∧ told8 c 8 (C 47) ∧ (∀ x : Int, 0 ≤ x → x < 8 → C 49 x = 0) ∧ fC_share_L (F + m + 1) 5 [d, c, (k : Int)] B = fC_tryValve0 0 d (qu (fC_reckonGrowth d C) 44 (fd 10) (-1))
  | 0, F, k, B, hm, h9, ht, hz => by
    rw [fC_share_L5]
    unfold fC_share_c5
    simp only [qlet_e]
    rw [if_neg (show ¬ (k : Int) < 8 by omega)]
    rw [show k = 8 by omega] at h9 ht hz
    exact ⟨B, frm_0 _ _ _, h9, ht, hz, rfl⟩
  | m + 1, F, k, B, hm, h9, ht, hz => by
    have f1 : frm [47, 49] [(44, 9)] B (qu B 49 (k : Int) 0) := frm_q (frm_0 _ _ _) rfl
    have e9 : (qu B 49 (k : Int) 0) 44 (fd 9) = (bsum c k : Int) := by rw [qu_ne (by decide)]; exact h9
    have e47 : (qu B 49 (k : Int) 0) 47 = B 47 := qu_ne (by decide)
    have hz1 : ∀ x : Int, 0 ≤ x → x < ((k + 1 : Nat) : Int) → (qu B 49 (k : Int) 0) 49 x = 0 := fun x x0 x1 => by
      by_cases q : x = (k : Int)
      · rw [q, qu_at]
      · rw [qu_nj q]; exact hz x x0 (by omega)
    rw [show F + (m + 1) + 1 = (F + m + 1) + 1 by omega, fC_share_L5]
    unfold fC_share_c5
    simp only [qlet_e]
    rw [if_pos (show (k : Int) < 8 by omega), show (k : Int) + 1 = ((k + 1 : Nat) : Int) by omega]
    by_cases hb : bt c k = 0
    · rw [if_pos (show ia (sr c (k : Int)) 1 = 0 from hb)]
      obtain ⟨C, c1, c2, c3, c4, c5⟩ := share_L (d := d) h4 m F (k + 1) (qu B 49 (k : Int) 0) (by omega) (by rw [bsum_s0 hb]; exact e9) (by rw [e47]; exact told8_s0 ht hb) hz1
      exact ⟨C, frm_c f1 c1 rfl, c2, c3, c4, c5⟩
    · have hlt : bsum c k < bsum c 8 := bsum_lt (show k < 8 by omega) hb
      rw [if_neg (show ¬ ia (sr c (k : Int)) 1 = 0 from hb), e9, if_pos (show (bsum c k : Int) < 4 by omega)]
      have e92 : (qu (qu B 49 (k : Int) 0) 47 (bsum c k : Int) (k : Int)) 44 (fd 9) = (bsum c k : Int) := by rw [qu_ne (by decide)]; exact e9
      rw [show (bsum c k : Int) + 1 = (bsum c (k + 1) : Int) by rw [bsum_s1 hb]; omega]
      obtain ⟨C, c1, c2, c3, c4, c5⟩ := share_L (d := d) h4 m F (k + 1) (qu (qu (qu B 49 (k : Int) 0) 47 (bsum c k : Int) (k : Int)) 44 (fd 9) (bsum c (k + 1) : Int)) (by omega) (qu_at _ _ _ _) (by
        have h9 := told8_s1 ht hb
        intro j hj hz
        have := h9 j hj hz
        dsimp only at this
        rw [qu_ne (show (47 : Nat) ≠ 44 by decide)]
        by_cases q : (bsum c j : Int) = (bsum c k : Int)
        · rw [if_pos q] at this
          rw [q, qu_at]; exact this
        · rw [if_neg q] at this
          rw [qu_nj q, e47]; exact this) (fun x x0 x1 => by
        rw [qu_ne (show (49 : Nat) ≠ 44 by decide), qu_ne (show (49 : Nat) ≠ 47 by decide)]
        exact hz1 x x0 x1)
      exact ⟨C, frm_c (frm_qf (frm_q f1 rfl) rfl) c1 rfl, c2, c3, c4, c5⟩
/-- told columns lie alike -/
theorem told8_same {c : Int} {f g : Int → Int} (hf : told8 c 8 f) (hg : told8 c 8 g) : ∀ i : Int, 0 ≤ i → i < (bsum c 8 : Int) → f i = g i ∧ 0 ≤ g i ∧ g i < 8 := fun i i0 i1 => by
  obtain ⟨j, h1, h2, h3⟩ := bsum_ex (c := c) 8 i.toNat (by omega)
  have a := hf j h1 h2
  have b := hg j h1 h2
  rw [h3, show ((i.toNat : Nat) : Int) = i by omega] at a b
  rw [a, b]
  exact ⟨rfl, by omega, by omega⟩
/-- the class's share, as a search -/
theorem share_is {A1 A2 : qA} {d c : Int} (h : GR A1 A2) (hH : WH A1 A2) (d0 : 0 ≤ d) (h4 : bsum c 8 ≤ 4) {cc : Int → Int} (hcc : told8 c 8 cc) : ∃ s0 : List Int, bsD (bsum c 8) (fC_share d c A1) = blD d (Wr A1 cc) (bsum c 8) [] (-1, s0) := by
  obtain ⟨F, g⟩ : ∃ F : Nat, F + 8 + 1 = 100000 := ⟨99991, by decide⟩
  have fz : frm [47, 49] [(44, 9)] A1 (qu A1 44 (fd 9) 0) := frm_qf (frm_0 _ _ _) rfl
  obtain ⟨C, c1, c2, c3, c4, c5⟩ := share_L (d := d) h4 8 F 0 (qu A1 44 (fd 9) 0) (by decide) (qu_at _ _ _ _) (fun j hj => absurd hj (Nat.not_lt_zero j)) (fun x x0 x1 => by omega)
  have e0 : fC_share d c A1 = fC_share_L 100000 5 [d, c, 0] (qu A1 44 (fd 9) 0) := by rw [fC_share.eq_1]; repeat rw [qlet.eq_1]
  rw [g, show ((0 : Nat) : Int) = 0 from rfl, ← e0] at c5
  have fC : frm [47, 49] [(44, 9)] A1 C := frm_c fz c1 rfl
  have hGC : GR C A2 := GR_f h fC (frm_0 [] [] A2) rfl rfl
  obtain ⟨r1, r2⟩ := reckon_is hGC d0 (B := C) (frm_0 _ _ _)
  have hgv : ∀ x k, 0 ≤ x → x < 48 → gvv C x k = gvv A1 x k := fun x k x0 x1 => by
    by_cases z : A2 1 x ≠ 0 ∧ A2 7 x ≠ -1
    · have p1 := (crop_is (h.1.2 x x0 x1 trivial) x0 x1).mpr z
      have p2 := (crop_is (hGC.1.2 x x0 x1 trivial) x0 x1).mpr z
      unfold gvv
      rw [if_pos p1, if_pos p2]
      have hk := RC1_k (k := k) (h.1.2 x x0 x1 trivial)
      have hk2 := RC1_k (k := k) (hGC.1.2 x x0 x1 trivial)
      have fm : frm [10] [] A2 (qu A2 10 x k) := frm_q (frm_0 _ _ _) rfl
      have hh2 : (qu A2 10 x k) 1 x ≠ 0 := by rw [qu_ne (by decide)]; exact z.1
      have g1 := growth_k (k := k) hk (RB_f h.2.1 (frm_0 [] [] A1) fm rfl rfl) (RL_f h.2.2.2 (frm_0 [] [] A1) fm rfl rfl) x0 x1 hh2
      have g2 := growth_k (k := k) hk2 (RB_f hGC.2.1 (frm_0 [] [] C) fm rfl rfl) (RL_f hGC.2.2.2 (frm_0 [] [] C) fm rfl rfl) x0 x1 hh2
      exact g2.1.trans g1.1.symm
    · rw [gvv_0 h x0 x1 z, gvv_0 hGC x0 x1 z]
  generalize fC_reckonGrowth d C = R at r1 r2 c5
  have fR : frm DCW DCV A1 (qu R 44 (fd 10) (-1)) := frm_qf (frm_c (frm_c (frm_0 _ _ _) fC rfl) r1 rfl) rfl
  have fR2 : frm EW [(36, 9), (71, 9), (44, 10)] C (qu R 44 (fd 10) (-1)) := frm_qf (frm_c (frm_0 _ _ _) r1 rfl) rfl
  have hA : dvA A1 (bsum c 8) cc d (qu R 44 (fd 10) (-1)) := by
    refine ⟨fR, by rw [frm_f fR2 (r := 44) (j := 9) rfl]; exact c2, fun i i0 i1 => ?_, fun x k x0 x1 k0 k1 => ?_⟩
    · rw [frm_a fR2 (r := 47) rfl]
      exact (told8_same c3 hcc i i0 i1).1
    · rw [qu_ne (by decide), r2 x k x0 x1 k0 (by rw [need_k x (frm_f fC rfl) (frm_a fC rfl) (frm_a fC rfl)]; exact k1)]
      exact hgv x k x0 x1
  have hT : dvT (bsum c 8) cc [] (qu R 44 (fd 10) (-1)) := ⟨rfl, fun x x0 x1 _ => by rw [frm_a fR2 (r := 49) rfl]; exact c4 x x0 x1⟩
  have key := tv0_is (f := d) h hH h4 (fun i i0 i1 => (told8_same hcc hcc i i0 i1).2) (told8_inj hcc) hA hT rfl (Nat.zero_le _) (show sumL [] ≤ d from d0) (fun x hx => absurd hx List.not_mem_nil) (show d = d - 0 by omega)
  rw [← c5, Nat.sub_zero] at key
  refine ⟨rw_ ((qu R 44 (fd 10) (-1)) 48) (bsum c 8) 0, ?_⟩
  rw [key.2.2]
  have eb : bsD (bsum c 8) (qu R 44 (fd 10) (-1)) = (-1, rw_ ((qu R 44 (fd 10) (-1)) 48) (bsum c 8) 0) := by
    unfold bsD
    rw [qu_at]
  rw [eb]
/-! DROUGHT: the reference's search -/
theorem cr10_d9 : ∀ (m : Nat) (k : Int), d9 (cr10 m k)
  | 0, _ => fun x hx => absurd hx List.not_mem_nil
  | m + 1, k => d9_a (cr10_d9 m (k / 10)) (by omega) (by omega)
theorem drst {A1 A2 B : qA} {d w u b k : Int} {n : Nat} {cc : Int → Int} (h : GR A1 A2) (hH : WH A1 A2) (f : frm DRW [] A2 B) (n4 : n ≤ 4) (hcb : ∀ i : Int, 0 ≤ i → i < n → 0 ≤ cc i ∧ cc i < 8) (h60 : ∀ i : Int, 0 ≤ i → i < n → B 60 i = cc i) (hci : ∀ i j : Int, 0 ≤ i → i < j → j < n → cc i < cc j) (k0 : 0 ≤ k) (ku : k < u) (u1 : u < 100000) (F : Nat) (hF : 30 ≤ F) : ∃ F' B', F ≤ F' + 30 ∧ frm DRW [] A2 B' ∧ B' 60 = B 60 ∧ fM_drought_L F 82 [d, w, (n : Int), u, b, k] B = fM_drought_L F' 82 [d, w, (n : Int), u, (stD d (Wr A1 cc) (cr10 n k) (b, rw_ (B 61) n 0)).1, k + 1] B' ∧ rw_ (B' 61) n 0 = (stD d (Wr A1 cc) (cr10 n k) (b, rw_ (B 61) n 0)).2 := by
  obtain ⟨C, a1, a2, a3, a4, F', B', b', g1, g2, g3, g4, g5, g6⟩ := drone (d := d) (w := w) (u := u) (b := b) (k := k) n4 h60 hci k0 ku u1 F hF
  have fC : frm DRW [] A2 C := frm_c f a1 rfl
  have hd := cr10_d9 n k
  have hW : (fM_growth (fM_flows C)).1 = Wr A1 cc (cr10 n k) := growM h hH fC (fun x x0 x1 => by
    have hb := vfx_bd (cc := cc) (cr10 n k) 0 x hd
    refine ⟨vfx_is n 0 (cr10 n k) x ?_ (fun z => a4 x x0 x1 (fun j j0 j1 => z j j0 (by omega))), by omega, by omega⟩
    rw [← a2]
    exact rw_e n 0 (fun j j0 j1 => a3 j j0 (by omega)))
  rw [hW] at g5 g6
  refine ⟨F', B', g1, frm_c f g3 rfl, frm_a g3 rfl, ?_⟩
  rw [g2]
  unfold stD
  by_cases q : d < sumL (cr10 n k)
  · obtain ⟨e1, e2⟩ := g4 q
    rw [if_neg (fun z => by omega), e1, e2]
    exact ⟨rfl, rfl⟩
  · by_cases v : b < Wr A1 cc (cr10 n k)
    · obtain ⟨e1, e2⟩ := g6 q v
      rw [if_pos ⟨by omega, v⟩, e1, e2]
      exact ⟨rfl, rfl⟩
    · obtain ⟨e1, e2⟩ := g5 q v
      rw [if_neg (fun z => v z.2), e1, e2]
      exact ⟨rfl, rfl⟩
theorem drblk {A1 A2 : qA} {d w u : Int} {n : Nat} {cc : Int → Int} (h : GR A1 A2) (hH : WH A1 A2) (n4 : n ≤ 4) (hcb : ∀ i : Int, 0 ≤ i → i < n → 0 ≤ cc i ∧ cc i < 8) (hci : ∀ i j : Int, 0 ≤ i → i < j → j < n → cc i < cc j) (u1 : u < 100000) : ∀ (m : Nat), m ≤ n → ∀ (K z b : Int) (B : qA) (F : Nat), 0 ≤ K → z = K * (p10 m : Int) → z + (p10 m : Int) ≤ u → frm DRW [] A2 B → (∀ i : Int, 0 ≤ i → i < n → B 60 i = cc i) → 30 * p10 m ≤ F → ∃ F' B', F ≤ F' + 30 * p10 m ∧ frm DRW [] A2 B' ∧ B' 60 = B 60 ∧ fM_drought_L F 82 [d, w, (n : Int), u, b, z] B = fM_drought_L F' 82 [d, w, (n : Int), u, (blD d (Wr A1 cc) m (cr10 (n - m) K) (b, rw_ (B 61) n 0)).1, z + (p10 m : Int)] B' ∧ rw_ (B' 61) n 0 = (blD d (Wr A1 cc) m (cr10 (n - m) K) (b, rw_ (B 61) n 0)).2 := by
  intro m
  induction m with
  | zero =>
    intro hm K z b B F K0 hz hy f h60 hF
    have e1 : (p10 0 : Int) = 1 := rfl
    have e2 : p10 0 = 1 := rfl
    rw [e1] at hz hy ⊢
    rw [e2] at hF ⊢
    rw [Int.mul_one] at hz
    rw [hz]
    obtain ⟨F', B', g1, g2, g3, g4, g5⟩ := drst (d := d) (w := w) (b := b) h hH f n4 hcb h60 hci K0 (show K < u by omega) u1 F (by omega)
    exact ⟨F', B', by omega, g2, g3, g4, g5⟩
  | succ m ih0 =>
    intro hm K z b B F K0 hz hy f h60 hF
    have e1 : (p10 (m + 1) : Int) = 10 * (p10 m : Int) := by
      show ((10 * p10 m : Nat) : Int) = _
      omega
    have e2 : p10 (m + 1) = 10 * p10 m := rfl
    have hcr : ∀ j, 0 ≤ j → j < 10 → cr10 (n - m) (10 * K + j) = cr10 (n - (m + 1)) K ++ [j] := fun j j0 j1 => by
      rw [show n - m = (n - (m + 1)) + 1 by omega]
      show cr10 (n - (m + 1)) ((10 * K + j) / 10) ++ [(10 * K + j) % 10] = _
      rw [show (10 * K + j) / 10 = K by omega, show (10 * K + j) % 10 = j by omega]
    have hzj : ∀ j, z + j * (p10 m : Int) = (10 * K + j) * (p10 m : Int) := fun j => by
      rw [Int.add_mul, hz, e1, Int.mul_comm 10 K, Int.mul_assoc]
    have rest : ∀ (r : Nat), r ≤ 10 → ∀ (b : Int) (B : qA) (F : Nat), frm DRW [] A2 B → (∀ i : Int, 0 ≤ i → i < n → B 60 i = cc i) → 30 * (r * p10 m) ≤ F → ∃ F' B', F ≤ F' + 30 * (r * p10 m) ∧ frm DRW [] A2 B' ∧ B' 60 = B 60 ∧ fM_drought_L F 82 [d, w, (n : Int), u, b, z + (10 - (r : Int)) * (p10 m : Int)] B = fM_drought_L F' 82 [d, w, (n : Int), u, (fdD (fun x s => blD d (Wr A1 cc) m (cr10 (n - (m + 1)) K ++ [x]) s) r (b, rw_ (B 61) n 0)).1, z + 10 * (p10 m : Int)] B' ∧ rw_ (B' 61) n 0 = (fdD (fun x s => blD d (Wr A1 cc) m (cr10 (n - (m + 1)) K ++ [x]) s) r (b, rw_ (B 61) n 0)).2 := by
      intro r
      induction r with
      | zero =>
        intro _ b B F f h60 hF
        rw [show (10 : Int) - ((0 : Nat) : Int) = 10 by omega]
        exact ⟨F, B, by omega, f, rfl, rfl, rfl⟩
      | succ r ih =>
        intro hr b B F f h60 hF
        have hsm : (r + 1) * p10 m = r * p10 m + p10 m := by rw [Nat.add_mul, Nat.one_mul]
        have hj := hzj (10 - ((r + 1 : Nat) : Int))
        have hle : (10 - ((r + 1 : Nat) : Int)) * (p10 m : Int) + (p10 m : Int) = (10 - (r : Int)) * (p10 m : Int) := by
          rw [show (10 : Int) - (r : Int) = (10 - ((r + 1 : Nat) : Int)) + 1 by omega, Int.add_mul, Int.one_mul]
        have hle2 : (10 - (r : Int)) * (p10 m : Int) ≤ 10 * (p10 m : Int) := Int.mul_le_mul_of_nonneg_right (by omega) (by omega)
        obtain ⟨F1, B1, g1, g2, g3, g4, g5⟩ := ih0 (by omega) (10 * K + (10 - ((r + 1 : Nat) : Int))) (z + (10 - ((r + 1 : Nat) : Int)) * (p10 m : Int)) b B F (by omega) hj (by omega) f h60 (by omega)
        rw [hcr (10 - ((r + 1 : Nat) : Int)) (by omega) (by omega), show (10 : Int) - ((r + 1 : Nat) : Int) = 9 - (r : Int) by omega] at g4 g5
        rw [show (10 : Int) - ((r + 1 : Nat) : Int) = 9 - (r : Int) by omega] at hle ⊢
        rw [g4, Int.add_assoc, hle]
        obtain ⟨F2, B2, k1, k2, k3, k4, k5⟩ := ih (by omega) (blD d (Wr A1 cc) m (cr10 (n - (m + 1)) K ++ [9 - (r : Int)]) (b, rw_ (B 61) n 0)).1 B1 F1 g2 (by rw [g3]; exact h60) (by omega)
        rw [g5] at k4 k5
        exact ⟨F2, B2, by omega, k2, k3.trans g3, k4, k5⟩
    obtain ⟨F2, B2, k1, k2, k3, k4, k5⟩ := rest 10 (Nat.le_refl _) b B F f h60 (by omega)
    rw [show (10 : Int) - ((10 : Nat) : Int) = 0 by omega, Int.zero_mul, Int.add_zero] at k4
    rw [e1, e2]
    exact ⟨F2, B2, by omega, k2, k3, k4, k5⟩
theorem drought_R (d c w : Int) {A1 A2 : qA} (h : GR A1 A2) (hy : WY A1) : (fC_drought d c w A1).1 = (fM_drought d c w A2).1 := by
  unfold fC_drought fM_drought
  simp only [qlet_e, qlp]
  by_cases h1 : 0 ≤ d ∧ d ≤ 36
  · rw [if_pos h1, if_pos h1]
    by_cases h2 : c < 1
    · rw [if_pos h2, if_neg (show ¬ (1 ≤ c ∧ c ≤ 255) by omega)]
    · rw [if_neg h2]
      by_cases h3 : c < 256
      · rw [if_pos h3, if_pos (show 1 ≤ c ∧ c ≤ 255 by omega), bitsI_is (by omega) h3, bits2_is]
        by_cases h4 : 4 < (bsum c 8 : Int)
        · rw [if_pos h4, if_pos h4]
        · rw [if_neg h4, if_neg h4]
          have hH := WH_of h hy
          obtain ⟨F0, g0⟩ : ∃ F0 : Nat, F0 + 8 + 1 = 100000000 := ⟨99999991, by decide⟩
          obtain ⟨C, c1, c2, c3⟩ := dr20 (d := d) (c := c) (w := w) 8 F0 0 A2 (by decide) (fun j hj => absurd hj (Nat.not_lt_zero j))
          rw [g0, show ((bsum c 0 : Nat) : Int) = 0 from rfl, show ((0 : Nat) : Int) = 0 from rfl] at c3
          rw [c3]
          obtain ⟨s0, hs⟩ := share_is h hH h1.1 (show bsum c 8 ≤ 4 by omega) c2
          have hcb := fun i i0 i1 => (told8_same c2 c2 i i0 i1).2
          have hci := told8_inj c2
          generalize hn : bsum c 8 = n at h4 hs hcb hci ⊢
          by_cases hw : -1 ≤ w ∧ w ≤ (n : Int) - 1
          · rw [if_neg (show ¬ w < -1 by omega), if_pos (show w < (n : Int) by omega), if_pos hw]
            obtain ⟨F1, g1⟩ : ∃ F1 : Nat, F1 + 48 + 1 = F0 := ⟨F0 - 49, by omega⟩
            obtain ⟨D, d1, d2, d3⟩ := dr52 (d := d) (w := w) (y := (n : Int)) 48 F1 0 C (by decide) (by decide)
            rw [g1] at d3
            obtain ⟨F2, g2⟩ : ∃ F2 : Nat, F2 + n + 1 = F1 := ⟨F1 - n - 1, by omega⟩
            have e69 := dr69 (d := d) (w := w) (n := n) (by omega) n F2 0 D (by omega) (by decide)
            rw [g2, Nat.sub_self, show ((p10 0 : Nat) : Int) = 1 from rfl] at e69
            rw [d3, e69]
            have hp := p10_bd (n := n) (by omega)
            have fD0 : frm [59, 60] [] A2 D := frm_c (frm_c (frm_0 _ _ _) c1 rfl) d1 rfl
            have hG : GR A1 D := GR_f h (frm_0 [] [] A1) fD0 rfl rfl
            have hHD : WH A1 D := WH_of hG hy
            have e60 : D 60 = C 60 := frm_a d1 rfl
            obtain ⟨F3, E, k1, k2, k3, k4, k5⟩ := drblk (d := d) (w := w) (u := (p10 n : Int)) (cc := C 60) hG hHD (by omega) hcb hci (by omega) n (Nat.le_refl _) 0 0 (-1) D F2 (by decide) (by rw [Int.zero_mul]) (by omega) (frm_0 _ _ _) (fun i _ _ => by rw [e60]) (by omega)
            rw [Int.zero_add, Nat.sub_self, show cr10 0 0 = [] from rfl] at k4
            rw [Nat.sub_self, show cr10 0 0 = [] from rfl] at k5
            rw [k4]
            obtain ⟨F4, g4⟩ : ∃ F4 : Nat, F3 = (F4 + 48 + 1) + 1 := ⟨F3 - 50, by omega⟩
            rw [g4, fM_drought_L82]
            unfold fM_drought_c82
            rw [if_neg (show ¬ (p10 n : Int) < (p10 n : Int) by omega)]
            have heq := blD_e (d := d) (W := Wr A1 (C 60)) n [] (-1, s0) (-1, rw_ (D 61) n 0) ⟨rfl, fun z => absurd rfl z⟩
            have hpos := blD_pos (d := d) (W := Wr A1 (C 60)) (fun row => WT_nn h _) n [] (-1, rw_ (D 61) n 0) (show sumL [] ≤ d from h1.1)
            rw [← hs] at heq
            generalize blD d (Wr A1 (C 60)) n [] (-1, rw_ (D 61) n 0) = bst at heq hpos k5 ⊢
            obtain ⟨q1, q2⟩ := heq
            have q1 : (fC_share d c A1) 44 (fd 10) = bst.1 := q1
            have q2 : rw_ ((fC_share d c A1) 48) n 0 = bst.2 := q2 (by show (fC_share d c A1) 44 (fd 10) ≠ -1; rw [q1]; omega)
            rw [← k5] at q2
            obtain ⟨H, l1, l2, l3⟩ := dr172 (w := w) (b := bst.1) 48 F4 0 E (by decide) (by decide)
            rw [l3]
            by_cases w1 : w = -1
            · rw [if_pos w1, if_pos w1]
              exact q1
            · rw [if_neg w1, if_neg w1]
              unfold fC_dropsAt
              simp only [qlet_e]
              rw [if_pos (show 0 ≤ w ∧ w ≤ 3 by omega)]
              exact rw_g n 0 q2 w (by omega) (by omega)
          · rw [if_neg hw]
            by_cases w1 : w < -1
            · rw [if_pos w1]
            · rw [if_neg w1, if_neg (show ¬ w < (n : Int) by omega)]
      · rw [if_neg h3, if_neg (show ¬ (1 ≤ c ∧ c ≤ 255) by omega)]
  · rw [if_neg h1, if_neg h1]
