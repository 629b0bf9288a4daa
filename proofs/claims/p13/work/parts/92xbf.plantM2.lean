/-! PLANTING, in the reference: codes -/
def cr : Nat → Int → List Int
  | 0, _ => []
  | m + 1, k => cr m (k / 7) ++ [k % 7 - 1]
theorem cr_len : ∀ (m : Nat) (k : Int), (cr m k).length = m
  | 0, _ => rfl
  | m + 1, k => by
    show (cr m (k / 7) ++ [k % 7 - 1]).length = m + 1
    rw [List.length_append, cr_len m, List.length_singleton]
theorem cr_dgs : ∀ (m : Nat) (k : Int), dgs (cr m k)
  | 0, _ => fun d hd => absurd hd List.not_mem_nil
  | m + 1, k => dgs_a (cr_dgs m (k / 7)) ⟨by omega, by omega⟩
theorem pdig {G : qA} {n : Nat} {A : qA} (hA : plM G n A) (hp : rpos G) {l y b k : Int} : ∀ (m F : Nat) (e s : Int) (B : qA), m ≤ 5 → 0 ≤ e → e < 100000 → 0 ≤ s → s ≤ 19800 * (5 - m) → frm [51, 52, 58] [] A B → ∃ C e', frm [51, 52, 58] [] A C ∧ C 52 = B 52 ∧ rw_ (C 51) m 0 = cr m e ∧ (∀ j, (m : Int) ≤ j → C 51 j = B 51 j) ∧ fM_planted_L (F + m) 67 [l, y, b, k, e, s, (m : Int) - 1] B = fM_planted_L F 67 [l, y, b, k, e', s + wtS (G 1) (G 2) (cr m e), -1] C
  | 0, F, e, s, B, hm, e0, e1, s0, s1, f => ⟨B, e, f, rfl, rfl, fun j _ => rfl, by
    show _ = fM_planted_L F 67 [l, y, b, k, e, s + 0, -1] B
    rw [Int.add_zero]
    rfl⟩
  | m + 1, F, e, s, B, hm, e0, e1, s0, s1, f => by
    rw [show F + (m + 1) = (F + m) + 1 by omega, show (((m + 1 : Nat) : Int) - 1) = (m : Int) by omega, fM_planted_L67]
    unfold fM_planted_c67
    simp only [qlet_e, qlp]
    rw [if_neg (show ¬ (m : Int) < 0 by omega), qm_nn e0, qd_nn e0, show wI (e % 7 - 1) = e % 7 - 1 from wI_id ⟨by omega, by omega⟩, show wI (e / 7) = e / 7 from wI_id ⟨by omega, by omega⟩, show wI ((m : Int) + -1) = (m : Int) - 1 from (wI_id ⟨by omega, by omega⟩).trans (by omega)]
    have f2 : frm [51, 52, 58] [] A (qu B 51 (m : Int) (e % 7 - 1)) := frm_q f rfl
    have nx : ∀ w, w = (if e % 7 - 1 = -1 then 0 else G 2 (e % 7 - 1) * G 1 (e % 7 - 1)) → 0 ≤ w → w ≤ 19800 → ∃ C e', frm [51, 52, 58] [] A C ∧ C 52 = B 52 ∧ rw_ (C 51) (m + 1) 0 = cr (m + 1) e ∧ (∀ j, ((m + 1 : Nat) : Int) ≤ j → C 51 j = B 51 j) ∧ fM_planted_L (F + m) 67 [l, y, b, k, e / 7, s + w, (m : Int) - 1] (qu B 51 (m : Int) (e % 7 - 1)) = fM_planted_L F 67 [l, y, b, k, e', s + wtS (G 1) (G 2) (cr (m + 1) e), -1] C := fun w hw w0 w1 => by
      obtain ⟨C, e', g1, g2, g3, g4, g5⟩ := pdig hA hp (l := l) (y := y) (b := b) (k := k) m F (e / 7) (s + w) (qu B 51 (m : Int) (e % 7 - 1)) (by omega) (by omega) (by omega) (by omega) (by omega) f2
      refine ⟨C, e', g1, by rw [g2, qu_ne (by decide)], ?_, fun j hj => by rw [g4 j (by omega), qu_nj (by omega)], ?_⟩
      · rw [rw_a, g3, Int.zero_add, g4 (m : Int) (Int.le_refl _), qu_at]
        rfl
      · rw [g5]
        show _ = fM_planted_L F 67 [l, y, b, k, e', s + wtS (G 1) (G 2) (cr m (e / 7) ++ [e % 7 - 1]), -1] C
        rw [wtS_a, ← hw, show s + w + wtS (G 1) (G 2) (cr m (e / 7)) = s + (wtS (G 1) (G 2) (cr m (e / 7)) + w) by omega]
    by_cases q : e % 7 - 1 = -1
    · rw [if_pos q, show wI (s + 0) = s + 0 from wI_id ⟨by omega, by omega⟩]
      exact nx 0 (by rw [if_pos q]) (by decide) (by decide)
    · obtain ⟨k1, k2, k3, k4⟩ := hp (e % 7 - 1) (by omega) (by omega)
      obtain ⟨h1, h2⟩ := hA.2.2.1 (e % 7 - 1) (by omega) (by omega)
      have hmb := mul_bd (a := G 2 (e % 7 - 1)) (b := G 1 (e % 7 - 1)) (p := 99) (q := 200) k3 k4 (by omega) k2
      rw [if_neg q, frm_a f2 (r := 13) rfl, frm_a f2 (r := 12) rfl, h1, h2, show wI (s + G 2 (e % 7 - 1) * G 1 (e % 7 - 1)) = s + G 2 (e % 7 - 1) * G 1 (e % 7 - 1) from wI_id ⟨by omega, by omega⟩]
      exact nx _ (by rw [if_neg q]) (by omega) (by omega)
theorem p127 {G : qA} {n : Nat} {A : qA} (hA : plM G n A) {l y b k : Int} (k0 : 0 ≤ k) (k1 : k < 100000) : ∀ (m F : Nat) (q : Int) (B : qA), q + m = n → 0 ≤ q → frm [51, 52, 58] [] A B → ∃ C, frm [52] [] B C ∧ (∀ j, C 52 j = if q ≤ j ∧ j < n then B 51 j else B 52 j) ∧ fM_planted_L (F + m + 1) 127 [l, y, b, k, q] B = fM_planted_L F 55 [l, y, b, k + 1] C
  | 0, F, q, B, hm, q0, f => by
    rw [fM_planted_L127]
    unfold fM_planted_c127
    simp only [qlet_e, qlp]
    rw [frm_f f (r := 0) (j := 63) rfl, hA.1.1, if_neg (show ¬ q < (n : Int) by omega), show wI (k + 1) = k + 1 from wI_id ⟨by omega, by omega⟩]
    exact ⟨B, frm_0 _ _ _, fun j => by rw [if_neg (fun z => by omega)], rfl⟩
  | m + 1, F, q, B, hm, q0, f => by
    have h5 := hA.1.2
    rw [show F + (m + 1) + 1 = (F + m + 1) + 1 by omega, fM_planted_L127]
    unfold fM_planted_c127
    simp only [qlet_e, qlp]
    rw [frm_f f (r := 0) (j := 63) rfl, hA.1.1, if_pos (show q < (n : Int) by omega), show wI (q + 1) = q + 1 from wI_id ⟨by omega, by omega⟩]
    have e51 : (qu B 52 q (B 51 q)) 51 = B 51 := qu_ne (by decide)
    obtain ⟨C, c1, c2, c3⟩ := p127 hA (l := l) (y := y) (b := b) k0 k1 m F (q + 1) (qu B 52 q (B 51 q)) (by omega) (by omega) (frm_q f rfl)
    refine ⟨C, frm_c (frm_q (frm_0 _ _ _) rfl) c1 rfl, fun j => ?_, c3⟩
    rw [c2 j, e51]
    by_cases e : j = q
    · rw [e, if_neg (fun z => by omega), qu_at, if_pos ⟨Int.le_refl _, by omega⟩]
    · rw [qu_nj e]
      by_cases w : q + 1 ≤ j ∧ j < n
      · rw [if_pos w, if_pos ⟨by omega, w.2⟩]
      · rw [if_neg w, if_neg (fun z => w ⟨by omega, z.2⟩)]
/-- one code -/
theorem pone {G : qA} {n : Nat} {A : qA} (hA : plM G n A) (hp : rpos G) {l y b k : Int} {B : qA} (f : frm [51, 52, 58] [] A B) (b0 : -1 ≤ b) (k0 : 0 ≤ k) (ky : k < y) (y1 : y < 100000) (F : Nat) (hF : 13 ≤ F) : ∃ F' B', F ≤ F' + 13 ∧ frm [51, 52, 58] [] A B' ∧ fM_planted_L F 55 [l, y, b, k] B = fM_planted_L F' 55 [l, y, (stp G (cr n k) (b, rw_ (B 52) n 0)).1, k + 1] B' ∧ rw_ (B' 52) n 0 = (stp G (cr n k) (b, rw_ (B 52) n 0)).2 := by
  have h5 := hA.1.2
  obtain ⟨F0, hF0⟩ : ∃ F0, F = (((F0 + n + 1) + 1) + n) + 1 := ⟨F - (2 * n + 3), by omega⟩
  rw [hF0, fM_planted_L55]
  unfold fM_planted_c55
  simp only [qlet_e, qlp]
  rw [if_pos ky, frm_f f (r := 0) (j := 63) rfl, hA.1.1, show wI ((n : Int) - 1) = (n : Int) - 1 from wI_id ⟨by omega, by omega⟩]
  obtain ⟨C, e', c1, c2, c3, _, c5⟩ := pdig hA hp (l := l) (y := y) (b := b) (k := k) n ((F0 + n + 1) + 1) k 0 B h5 k0 (by omega) (by decide) (by omega) f
  rw [c5, Int.zero_add, fM_planted_L67]
  unfold fM_planted_c67
  simp only [qlet_e, qlp]
  rw [if_pos (show (-1 : Int) < 0 by decide), show wI (k + 1) = k + 1 from wI_id ⟨by omega, by omega⟩]
  have hdg := cr_dgs n k
  have hwb := wtS_bd hp (cr n k) hdg
  have hdC : ∀ i : Int, 0 ≤ i → i < n → dig (C 51 i) := fun i i0 i1 => by
    refine hdg _ ?_
    rw [← c3]
    exact rw_in n 0 i i0 (by omega)
  have rej : ¬ (fea G (cr n k) ∧ b < wtS (G 1) (G 2) (cr n k)) → ∀ D, frm [51, 52, 58] [] A D → D 52 = B 52 → ∃ F' B', F0 + n + 1 + 1 + n + 1 ≤ F' + 13 ∧ frm [51, 52, 58] [] A B' ∧ fM_planted_L (F0 + n + 1) 55 [l, y, b, k + 1] D = fM_planted_L F' 55 [l, y, (stp G (cr n k) (b, rw_ (B 52) n 0)).1, k + 1] B' ∧ rw_ (B' 52) n 0 = (stp G (cr n k) (b, rw_ (B 52) n 0)).2 := fun hn D hD e52 => by
    rw [stp_n hn]
    exact ⟨F0 + n + 1, D, by omega, hD, rfl, by rw [e52]⟩
  have hw := whole_is hA hp c1 hdC
  rw [c3] at hw
  obtain ⟨D, d1, d2, d3, d4⟩ := bears_is hA hp c1 hdC
  rw [c3] at d4
  have try_ : b < wtS (G 1) (G 2) (cr n k) → ∃ F' B', F0 + n + 1 + 1 + n + 1 ≤ F' + 13 ∧ frm [51, 52, 58] [] A B' ∧ (if fM_areWhole C = 0 then fM_planted_L (F0 + n + 1) 55 [l, y, b, k + 1] C else if (fM_bearsAll C).1 = 0 then fM_planted_L (F0 + n + 1) 55 [l, y, b, k + 1] (fM_bearsAll C).2 else fM_planted_L (F0 + n + 1) 127 [l, y, wtS (G 1) (G 2) (cr n k), k, 0] (fM_bearsAll C).2) = fM_planted_L F' 55 [l, y, (stp G (cr n k) (b, rw_ (B 52) n 0)).1, k + 1] B' ∧ rw_ (B' 52) n 0 = (stp G (cr n k) (b, rw_ (B 52) n 0)).2 := fun hb => by
    rcases hw with ⟨w1, w2⟩ | ⟨w1, w2⟩
    · rw [w1, if_neg (show ¬ (1 : Int) = 0 by decide)]
      rcases d4 with ⟨x1, x2⟩ | ⟨x1, z, z0, z1, z2, z3⟩
      · rw [x1, if_neg (show ¬ (1 : Int) = 0 by decide)]
        have hfe : fea G (cr n k) := ⟨w2, x2⟩
        rw [stp_y ⟨hfe, hb⟩]
        obtain ⟨E, e1, e2, e3⟩ := p127 hA (l := l) (y := y) (b := wtS (G 1) (G 2) (cr n k)) k0 (by omega) n F0 0 D (by omega) (by decide) d1
        refine ⟨F0, E, by omega, frm_c d1 e1 rfl, e3, ?_⟩
        show rw_ (E 52) n 0 = cr n k
        rw [← c3, ← d2]
        exact rw_e n 0 (fun j j0 j1 => by rw [e2 j, if_pos ⟨j0, by omega⟩])
      · rw [x1, if_pos rfl]
        refine rej (fun v => ?_) D d1 (d3.trans c2)
        have := v.1.2 z z0 z1 z2
        unfold tot at z3
        omega
    · rw [w1, if_pos rfl]
      exact rej (fun v => w2 v.1.1) C c1 c2
  by_cases hb1 : b = -1
  · rw [if_pos hb1]
    exact try_ (by omega)
  · rw [if_neg hb1]
    by_cases hb2 : b < wtS (G 1) (G 2) (cr n k)
    · rw [if_pos hb2]
      exact try_ hb2
    · rw [if_neg hb2]
      exact rej (fun v => hb2 v.2) C c1 c2
def p7 : Nat → Nat
  | 0 => 1
  | m + 1 => 7 * p7 m
/-- a block of codes -/
theorem pblk {G : qA} {n : Nat} {A : qA} (hA : plM G n A) (hp : rpos G) {l y : Int} (y1 : y < 100000) : ∀ (m : Nat), m ≤ n → ∀ (K z b : Int) (B : qA) (F : Nat), 0 ≤ K → z = K * (p7 m : Int) → z + (p7 m : Int) ≤ y → -1 ≤ b → frm [51, 52, 58] [] A B → 13 * p7 m ≤ F → ∃ F' B', F ≤ F' + 13 * p7 m ∧ frm [51, 52, 58] [] A B' ∧ fM_planted_L F 55 [l, y, b, z] B = fM_planted_L F' 55 [l, y, (blk G m (cr (n - m) K) (b, rw_ (B 52) n 0)).1, z + (p7 m : Int)] B' ∧ rw_ (B' 52) n 0 = (blk G m (cr (n - m) K) (b, rw_ (B 52) n 0)).2
  | 0, hm, K, z, b, B, F, K0, hz, hy, b0, f, hF => by
    have e1 : (p7 0 : Int) = 1 := rfl
    have e2 : p7 0 = 1 := rfl
    rw [e1] at hz hy ⊢
    rw [e2] at hF ⊢
    rw [Int.mul_one] at hz
    rw [hz]
    obtain ⟨F', B', g1, g2, g3, g4⟩ := pone hA hp (l := l) (b := b) (k := K) f b0 K0 (by omega) y1 F (by omega)
    exact ⟨F', B', by omega, g2, g3, g4⟩
  | m + 1, hm, K, z, b, B, F, K0, hz, hy, b0, f, hF => by
    have e1 : (p7 (m + 1) : Int) = 7 * (p7 m : Int) := by
      show ((7 * p7 m : Nat) : Int) = _
      omega
    have e2 : p7 (m + 1) = 7 * p7 m := rfl
    have hcr : ∀ j, 0 ≤ j → j < 7 → cr (n - m) (7 * K + j) = cr (n - (m + 1)) K ++ [j - 1] := fun j j0 j1 => by
      rw [show n - m = (n - (m + 1)) + 1 by omega]
      show cr (n - (m + 1)) ((7 * K + j) / 7) ++ [(7 * K + j) % 7 - 1] = _
      rw [show (7 * K + j) / 7 = K by omega, show (7 * K + j) % 7 = j by omega]
    have hzj : ∀ j, z + j * (p7 m : Int) = (7 * K + j) * (p7 m : Int) := fun j => by
      rw [Int.add_mul, hz, e1, Int.mul_comm 7 K, Int.mul_assoc]
    have hlow : ∀ (m : Nat) (pre : List Int) (s : Int × List Int), -1 ≤ s.1 → -1 ≤ (blk G m pre s).1 := fun m pre s h => Int.le_trans h (blk_ge m pre s)
    -- the last r digits
    have rest : ∀ (r : Nat), r ≤ 6 → ∀ (b : Int) (B : qA) (F : Nat), -1 ≤ b → frm [51, 52, 58] [] A B → 13 * (r * p7 m) ≤ F → ∃ F' B', F ≤ F' + 13 * (r * p7 m) ∧ frm [51, 52, 58] [] A B' ∧ fM_planted_L F 55 [l, y, b, z + (7 - (r : Int)) * (p7 m : Int)] B = fM_planted_L F' 55 [l, y, (fdg (fun d s => blk G m (cr (n - (m + 1)) K ++ [d]) s) r (b, rw_ (B 52) n 0)).1, z + 7 * (p7 m : Int)] B' ∧ rw_ (B' 52) n 0 = (fdg (fun d s => blk G m (cr (n - (m + 1)) K ++ [d]) s) r (b, rw_ (B 52) n 0)).2 := by
      intro r
      induction r with
      | zero =>
        intro _ b B F b0 f hF
        rw [show (7 : Int) - ((0 : Nat) : Int) = 7 by omega]
        exact ⟨F, B, by omega, f, rfl, rfl⟩
      | succ r ih =>
        intro hr b B F b0 f hF
        have hsm : (r + 1) * p7 m = r * p7 m + p7 m := by rw [Nat.add_mul, Nat.one_mul]
        have hj := hzj (7 - ((r + 1 : Nat) : Int))
        have hle : (7 - ((r + 1 : Nat) : Int)) * (p7 m : Int) + (p7 m : Int) = (7 - (r : Int)) * (p7 m : Int) := by
          rw [show (7 : Int) - (r : Int) = (7 - ((r + 1 : Nat) : Int)) + 1 by omega, Int.add_mul, Int.one_mul]
        have hle2 : (7 - (r : Int)) * (p7 m : Int) ≤ 7 * (p7 m : Int) := Int.mul_le_mul_of_nonneg_right (by omega) (by omega)
        obtain ⟨F1, B1, g1, g2, g3, g4⟩ := pblk hA hp y1 (l := l) m (by omega) (7 * K + (7 - ((r + 1 : Nat) : Int))) (z + (7 - ((r + 1 : Nat) : Int)) * (p7 m : Int)) b B F (by omega) hj (by omega) b0 f (by omega)
        rw [hcr (7 - ((r + 1 : Nat) : Int)) (by omega) (by omega), show (7 : Int) - ((r + 1 : Nat) : Int) - 1 = 5 - (r : Int) by omega] at g3 g4
        rw [g3, Int.add_assoc, hle]
        have hb1 := hlow m (cr (n - (m + 1)) K ++ [5 - (r : Int)]) (b, rw_ (B 52) n 0) b0
        obtain ⟨F2, B2, k1, k2, k3, k4⟩ := ih (by omega) (blk G m (cr (n - (m + 1)) K ++ [5 - (r : Int)]) (b, rw_ (B 52) n 0)).1 B1 F1 hb1 g2 (by omega)
        rw [g4] at k3 k4
        exact ⟨F2, B2, by omega, k2, k3, k4⟩
    have h0 := hzj 0
    rw [Int.zero_mul, Int.add_zero] at h0
    obtain ⟨F1, B1, g1, g2, g3, g4⟩ := pblk hA hp y1 (l := l) m (by omega) (7 * K + 0) z b B F (by omega) h0 (by omega) b0 f (by omega)
    rw [hcr 0 (by decide) (by decide), show (0 : Int) - 1 = -1 from rfl] at g3 g4
    have hb1 := hlow m (cr (n - (m + 1)) K ++ [-1]) (b, rw_ (B 52) n 0) b0
    obtain ⟨F2, B2, k1, k2, k3, k4⟩ := rest 6 (by omega) (blk G m (cr (n - (m + 1)) K ++ [-1]) (b, rw_ (B 52) n 0)).1 B1 F1 hb1 g2 (by omega)
    rw [show (7 : Int) - ((6 : Nat) : Int) = 1 by omega, Int.one_mul] at k3
    rw [g4] at k3 k4
    rw [e1, e2]
    refine ⟨F2, B2, by omega, k2, ?_, k4⟩
    rw [g3, k3]
    rfl
