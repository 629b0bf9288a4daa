/-! DROUGHT: the class's search -/
def dvA (A1 : qA) (n : Nat) (cc : Int → Int) (d : Int) (B : qA) : Prop := frm DCW DCV A1 B ∧ B 44 (fd 9) = n ∧ (∀ i : Int, 0 ≤ i → i < n → B 47 i = cc i) ∧ ∀ x k, 0 ≤ x → x < 48 → 0 ≤ k → k ≤ min d (fC_needOf x A1) → B 51 (x * 21 + k) = gvv A1 x k
def dvT (n : Nat) (cc : Int → Int) (pre : List Int) (B : qA) : Prop := rw_ (fun j => B 49 (cc j)) pre.length 0 = pre ∧ ∀ x, 0 ≤ x → x < 8 → (∀ j : Int, 0 ≤ j → j < n → x ≠ cc j) → B 49 x = 0
def bsD (n : Nat) (B : qA) : Int × List Int := (B 44 (fd 10), rw_ (B 48) n 0)
def Wr (A1 : qA) (cc : Int → Int) (row : List Int) : Int := WT A1 (vfx cc 0 row)
theorem wei10 {A1 B : qA} {κ : Int → Int} (hB : ∀ c, 0 ≤ c → c < 48 → B 51 (c * 21 + B 50 c) = gvv A1 c (κ c) ∧ 0 ≤ gvv A1 c (κ c) ∧ gvv A1 c (κ c) ≤ 50) : ∀ (m F : Nat) (s k : Int), k + m = 48 → 0 ≤ k → 0 ≤ s → s ≤ 50 * k → fC_weighTrial_L (F + m + 1) 10 [s, k] B = fC_weighTrial_L (F + 1) 10 [s + sumP (fun c => gvv A1 c (κ c)) m k, 48] B
  | 0, F, s, k, hm, k0, s0, s1 => by
    rw [show k = 48 by omega]
    show fC_weighTrial_L (F + 1) 10 [s, 48] B = fC_weighTrial_L (F + 1) 10 [s + 0, 48] B
    rw [Int.add_zero]
  | m + 1, F, s, k, hm, k0, s0, s1 => by
    obtain ⟨h1, h2, h3⟩ := hB k k0 (by omega)
    rw [show F + (m + 1) + 1 = (F + m + 1) + 1 by omega, fC_weighTrial_L10]
    unfold fC_weighTrial_c10
    simp only [qlet_e]
    rw [if_pos (show k < 48 by omega), h1, show wI (s + gvv A1 k (κ k)) = s + gvv A1 k (κ k) from wI_id ⟨by omega, by omega⟩, show wI (k + 1) = k + 1 from wI_id ⟨by omega, by omega⟩, wei10 hB m F _ (k + 1) (by omega) (by omega) (by omega) (by omega)]
    show fC_weighTrial_L (F + 1) 10 [s + gvv A1 k (κ k) + sumP (fun c => gvv A1 c (κ c)) m (k + 1), 48] B = fC_weighTrial_L (F + 1) 10 [s + (gvv A1 k (κ k) + sumP (fun c => gvv A1 c (κ c)) m (k + 1)), 48] B
    rw [Int.add_assoc]
theorem wei38 {n : Nat} (n4 : n ≤ 4) : ∀ (m F : Nat) (k : Int) (B : qA), k + m = n → 0 ≤ k → B 44 (fd 9) = n → ∃ C, fC_weighTrial_L (F + m + 1) 38 [k] B = C ∧ frm [48] [] B C ∧ ∀ j, C 48 j = if k ≤ j ∧ j < n then B 49 (B 47 j) else B 48 j
  | 0, F, k, B, hm, k0, hn => by
    rw [fC_weighTrial_L38]
    unfold fC_weighTrial_c38
    simp only [qlet_e]
    rw [hn, if_neg (show ¬ k < (n : Int) by omega)]
    exact ⟨B, rfl, frm_0 _ _ _, fun j => by rw [if_neg (fun z => by omega)]⟩
  | m + 1, F, k, B, hm, k0, hn => by
    rw [show F + (m + 1) + 1 = (F + m + 1) + 1 by omega, fC_weighTrial_L38]
    unfold fC_weighTrial_c38
    simp only [qlet_e]
    rw [hn, if_pos (show k < (n : Int) by omega), show wI (k + 1) = k + 1 from wI_id ⟨by omega, by omega⟩]
    have f : frm [48] [] B (qu B 48 k (B 49 (B 47 k))) := frm_q (frm_0 _ _ _) rfl
    obtain ⟨C, c1, c2, c3⟩ := wei38 n4 m F (k + 1) (qu B 48 k (B 49 (B 47 k))) (by omega) (by omega) (by rw [frm_f f (r := 44) (j := 9) rfl]; exact hn)
    refine ⟨C, c1, frm_c f c2 rfl, fun j => ?_⟩
    rw [c3 j, frm_a f (r := 49) rfl, frm_a f (r := 47) rfl]
    by_cases q : j = k
    · rw [q, if_neg (fun z => by omega), qu_at, if_pos ⟨Int.le_refl _, by omega⟩]
    · rw [qu_nj q]
      by_cases v : k + 1 ≤ j ∧ j < n
      · rw [if_pos v, if_pos ⟨by omega, v.2⟩]
      · rw [if_neg v, if_neg (fun z => v ⟨by omega, z.2⟩)]
theorem weigh_is {A1 A2 : qA} {n : Nat} {cc : Int → Int} {d : Int} {B : qA} {pre : List Int} (h : GR A1 A2) (hH : WH A1 A2) (n4 : n ≤ 4) (hcb : ∀ i : Int, 0 ≤ i → i < n → 0 ≤ cc i ∧ cc i < 8) (hA : dvA A1 n cc d B) (hT : dvT n cc pre B) (hl : pre.length = n) (hs : sumL pre ≤ d) (hd : d9 pre) : dvA A1 n cc d (fC_weighTrial B) ∧ dvT n cc pre (fC_weighTrial B) ∧ bsD n (fC_weighTrial B) = stD d (Wr A1 cc) pre (bsD n B) := by
  obtain ⟨f, h9, h47, h51⟩ := hA
  obtain ⟨t1, t2⟩ := hT
  rw [hl] at t1
  have hv : ∀ x, 0 ≤ x → x < 8 → B 49 x = vfx cc 0 pre x := fun x x0 x1 => vfx_is n 0 pre x t1 (fun z => t2 x x0 x1 (fun j j0 j1 => z j j0 (by omega)))
  have hvb : ∀ x, 0 ≤ x → x < 8 → B 49 x = vfx cc 0 pre x ∧ 0 ≤ vfx cc 0 pre x ∧ vfx cc 0 pre x ≤ 99 := fun x x0 x1 => by
    have := vfx_bd (cc := cc) pre 0 x hd
    exact ⟨hv x x0 x1, by omega, by omega⟩
  obtain ⟨p1, p2⟩ := keptC2 hH f hvb
  have hnd : ∀ x, fC_needOf x B = fC_needOf x A1 := fun x => need_k x (frm_f f rfl) (frm_a f rfl) (frm_a f rfl)
  have hnn : ∀ x, 0 ≤ fC_needOf x B := fun x => by rw [hnd]; exact (need_bd h.2.1).1
  have hkd := keptC (A1 := B) (T := d) hnn (fun i i0 i1 => by rw [(hvb i i0 i1).1]; exact (hvb i i0 i1).2.1) (by
    have := vfx_sum (cc := cc) pre 0 hd
    rw [sumP_c (g := vfx cc 0 pre) 8 0 (fun i i0 i1 => hv i i0 (by omega))]
    omega)
  have e0 : fC_weighTrial B = fC_weighTrial_L 100000 10 [0, 0] (fC_pourB B) := (fC_weighTrial.eq_1 B).trans (qlet.eq_1 _ _)
  rw [e0]
  generalize fC_pourB B = P at p1 p2 hkd
  have fP : frm DCW DCV A1 P := frm_c f p1 rfl
  have hB : ∀ c, 0 ≤ c → c < 48 → P 51 (c * 21 + P 50 c) = gvv A1 c (P 50 c) ∧ 0 ≤ gvv A1 c (P 50 c) ∧ gvv A1 c (P 50 c) ≤ 50 := fun c c0 c1 => by
    obtain ⟨k1, k2, k3⟩ := hkd c c0 c1
    rw [hnd c] at k2
    rw [frm_a p1 (r := 51) rfl]
    exact ⟨h51 c (P 50 c) c0 c1 k1 (by omega), gvv_bd h c0 c1⟩
  obtain ⟨F, g⟩ : ∃ F : Nat, (F + n + 1 + 1) + 48 + 1 = 100000 := ⟨100000 - 51 - n, by omega⟩
  have key := wei10 hB 48 (F + n + 1 + 1) 0 0 (by decide) (by decide) (by decide) (by decide)
  rw [g, Int.zero_add, WT_eq h (κ := P 50) (v := vfx cc 0 pre) p2] at key
  rw [key, fC_weighTrial_L10 (F + n + 1 + 1) (WT A1 (vfx cc 0 pre)) 48 P]
  unfold fC_weighTrial_c10
  simp only [qlet_e]
  rw [if_neg (show ¬ (48 : Int) < 48 by decide)]
  have e10 : P 44 (fd 10) = B 44 (fd 10) := frm_f p1 rfl
  rw [e10]
  have dP : ∀ C, frm [48] [(44, 10)] P C → dvA A1 n cc d C ∧ dvT n cc pre C := fun C fC => by
    refine ⟨⟨frm_c fP fC rfl, ?_, fun i i0 i1 => ?_, fun x k x0 x1 k0 k1 => ?_⟩, ?_, fun x x0 x1 hx => ?_⟩
    · rw [frm_f fC (r := 44) (j := 9) rfl, frm_f p1 (r := 44) (j := 9) rfl]; exact h9
    · rw [frm_a fC (r := 47) rfl, frm_a p1 (r := 47) rfl]; exact h47 i i0 i1
    · rw [frm_a fC (r := 51) rfl, frm_a p1 (r := 51) rfl]; exact h51 x k x0 x1 k0 k1
    · rw [frm_a fC (r := 49) rfl, frm_a p1 (r := 49) rfl, hl]; exact t1
    · rw [frm_a fC (r := 49) rfl, frm_a p1 (r := 49) rfl]; exact t2 x x0 x1 hx
  have hW : Wr A1 cc pre = WT A1 (vfx cc 0 pre) := rfl
  by_cases q : B 44 (fd 10) < WT A1 (vfx cc 0 pre)
  · rw [if_pos q]
    have fq : frm [48] [(44, 10)] P (qu P 44 (fd 10) (WT A1 (vfx cc 0 pre))) := frm_qf (frm_0 _ _ _) rfl
    obtain ⟨C, c1, c2, c3⟩ := wei38 n4 n (F + 1) 0 (qu P 44 (fd 10) (WT A1 (vfx cc 0 pre))) (by omega) (by decide) (by rw [frm_f fq (r := 44) (j := 9) rfl, frm_f p1 (r := 44) (j := 9) rfl]; exact h9)
    rw [show F + n + 1 + 1 = F + 1 + n + 1 by omega, c1]
    obtain ⟨d1, d2⟩ := dP C (frm_c fq c2 rfl)
    refine ⟨d1, d2, ?_⟩
    unfold stD bsD
    rw [if_pos ⟨hs, by rw [hW]; exact q⟩, hW, frm_f c2 (r := 44) (j := 10) rfl, qu_at]
    have er : rw_ (C 48) n 0 = pre := by
      rw [← t1]
      refine rw_e n 0 (fun j j0 j1 => ?_)
      rw [c3 j, if_pos ⟨j0, by omega⟩, frm_a fq (r := 49) rfl, frm_a fq (r := 47) rfl, frm_a p1 (r := 49) rfl, frm_a p1 (r := 47) rfl, h47 j j0 (by omega)]
    rw [er]
  · rw [if_neg q]
    obtain ⟨d1, d2⟩ := dP P (frm_0 _ _ _)
    refine ⟨d1, d2, ?_⟩
    unfold stD bsD
    rw [if_neg (fun z => q (by rw [← hW]; exact z.2)), e10, frm_a p1 (r := 48) rfl]
theorem tv4_is {A1 A2 : qA} {n : Nat} {cc : Int → Int} {d f : Int} {B : qA} {pre : List Int} (h : GR A1 A2) (hH : WH A1 A2) (n4 : n ≤ 4) (hcb : ∀ i : Int, 0 ≤ i → i < n → 0 ≤ cc i ∧ cc i < 8) (hA : dvA A1 n cc d B) (hT : dvT n cc pre B) (hl : pre.length = 4) (hn : 4 ≤ n) (hs : sumL pre ≤ d) (hd : d9 pre) : dvA A1 n cc d (fC_tryValve4 4 f B) ∧ dvT n cc pre (fC_tryValve4 4 f B) ∧ bsD n (fC_tryValve4 4 f B) = blD d (Wr A1 cc) (n - 4) pre (bsD n B) := by
  rw [show n - 4 = 0 by omega]
  have e : fC_tryValve4 4 f B = fC_weighTrial B := by rw [fC_tryValve4.eq_1]; repeat rw [qlet.eq_1]
  rw [e]
  exact weigh_is h hH n4 hcb hA hT (by omega) hs hd
theorem tv3_L {A1 A2 : qA} {n m : Nat} {cc : Int → Int} {d : Int} {pre : List Int} (h : GR A1 A2) (hH : WH A1 A2) (n4 : n ≤ 4) (hcb : ∀ i : Int, 0 ≤ i → i < n → 0 ≤ cc i ∧ cc i < 8) (hci : ∀ i j : Int, 0 ≤ i → i < j → j < n → cc i < cc j) (hl : pre.length = 3) (hm : n = 3 + 1 + m) (hd : d9 pre) : ∀ (r F : Nat) (k : Int) (B : qA), k + r = 10 → 0 ≤ k → dvA A1 n cc d B → dvT n cc pre B → dvA A1 n cc d (fC_tryValve3_L (F + r + 1) 12 [3, d - sumL pre, k] B) ∧ dvT n cc pre (fC_tryValve3_L (F + r + 1) 12 [3, d - sumL pre, k] B) ∧ bsD n (fC_tryValve3_L (F + r + 1) 12 [3, d - sumL pre, k] B) = fdD (fun x s => blD d (Wr A1 cc) m (pre ++ [x]) s) r (bsD n B)
  | 0, F, k, B, hr, k0, hA, hT => by
    have e : fC_tryValve3_L (F + 0 + 1) 12 [3, d - sumL pre, k] B = B := by
      rw [fC_tryValve3_L12]
      unfold fC_tryValve3_c12
      simp only [qlet_e]
      by_cases q : d - sumL pre < k
      · rw [if_pos q]
      · rw [if_neg q, if_pos (show 9 < k by omega)]
    rw [e]
    exact ⟨hA, hT, rfl⟩
  | r + 1, F, k, B, hr, k0, hA, hT => by
    by_cases q : d - sumL pre < k
    · have e : fC_tryValve3_L (F + (r + 1) + 1) 12 [3, d - sumL pre, k] B = B := by
        rw [fC_tryValve3_L12]
        unfold fC_tryValve3_c12
        simp only [qlet_e]
        rw [if_pos q]
      rw [e, fdD_id (r + 1) (bsD n B) (by omega) (fun x s x0 x1 => blD_bad m (pre ++ [x]) s (by rw [sumL_a]; omega))]
      exact ⟨hA, hT, rfl⟩
    · have hlJ : (pre.length : Int) = 3 := by omega
      obtain ⟨f, h9, h47, h51⟩ := id hA
      obtain ⟨t1, t2⟩ := id hT
      have e47 : B 47 3 = cc 3 := h47 3 (by decide) (by omega)
      have fq : frm [49] [] B (qu B 49 (cc 3) k) := frm_q (frm_0 _ _ _) rfl
      have hA2 : dvA A1 n cc d (qu B 49 (cc 3) k) := ⟨frm_c f fq rfl, by rw [frm_f fq (r := 44) (j := 9) rfl]; exact h9, fun i i0 i1 => by rw [frm_a fq (r := 47) rfl]; exact h47 i i0 i1, fun x y x0 x1 y0 y1 => by rw [frm_a fq (r := 51) rfl]; exact h51 x y x0 x1 y0 y1⟩
      have hT2 : dvT n cc (pre ++ [k]) (qu B 49 (cc 3) k) := by
        refine ⟨?_, fun x x0 x1 hx => ?_⟩
        · rw [List.length_append, List.length_singleton, rw_a, Int.zero_add, hlJ]
          rw [rw_e (g := fun j => B 49 (cc j)) pre.length 0 (fun j j0 j1 => by
            have := hci j 3 j0 (by omega) (by omega)
            exact qu_nj (by omega)), t1]
          show pre ++ [(qu B 49 (cc 3) k) 49 (cc 3)] = pre ++ [k]
          rw [qu_at]
        · rw [qu_nj (hx 3 (by decide) (by omega))]
          exact t2 x x0 x1 hx
      have hbe : bsD n (qu B 49 (cc 3) k) = bsD n B := by
        unfold bsD
        rw [frm_f fq (r := 44) (j := 10) rfl, frm_a fq (r := 48) rfl]
      obtain ⟨u1, u2, u3⟩ := tv4_is (f := d - sumL pre - k) h hH n4 hcb hA2 hT2 (by rw [List.length_append, List.length_singleton, hl]) (by omega) (by rw [sumL_a]; omega) (d9_a hd k0 (by omega))
      rw [show n - 4 = m by omega, hbe] at u3
      have e : fC_tryValve3_L (F + (r + 1) + 1) 12 [3, d - sumL pre, k] B = fC_tryValve3_L (F + r + 1) 12 [3, d - sumL pre, k + 1] (fC_tryValve4 4 (d - sumL pre - k) (qu B 49 (cc 3) k)) := by
        rw [show F + (r + 1) + 1 = (F + r + 1) + 1 by omega, fC_tryValve3_L12]
        unfold fC_tryValve3_c12
        simp only [qlet_e]
        rw [if_neg q, if_neg (show ¬ 9 < k by omega), e47, show (3 : Int) + 1 = 4 by decide]
      rw [e]
      generalize fC_tryValve4 4 (d - sumL pre - k) (qu B 49 (cc 3) k) = D at u1 u2 u3 ⊢
      have hT3 : dvT n cc pre D := by
        refine ⟨?_, u2.2⟩
        have v := u2.1
        rw [List.length_append, List.length_singleton, rw_a] at v
        exact (List.append_inj v (rw_len _ _ _)).1
      obtain ⟨w1, w2, w3⟩ := tv3_L h hH n4 hcb hci hl hm hd r F (k + 1) D (by omega) (by omega) u1 hT3
      refine ⟨w1, w2, ?_⟩
      rw [w3, u3]
      show _ = fdD (fun x s => blD d (Wr A1 cc) m (pre ++ [x]) s) r (blD d (Wr A1 cc) m (pre ++ [9 - (r : Int)]) (bsD n B))
      rw [show 9 - (r : Int) = k by omega]
theorem tv3_is {A1 A2 : qA} {n : Nat} {cc : Int → Int} {d f : Int} {B : qA} {pre : List Int} (h : GR A1 A2) (hH : WH A1 A2) (n4 : n ≤ 4) (hcb : ∀ i : Int, 0 ≤ i → i < n → 0 ≤ cc i ∧ cc i < 8) (hci : ∀ i j : Int, 0 ≤ i → i < j → j < n → cc i < cc j) (hA : dvA A1 n cc d B) (hT : dvT n cc pre B) (hl : pre.length = 3) (hn : 3 ≤ n) (hs : sumL pre ≤ d) (hd : d9 pre) (hf : f = d - sumL pre) : dvA A1 n cc d (fC_tryValve3 3 f B) ∧ dvT n cc pre (fC_tryValve3 3 f B) ∧ bsD n (fC_tryValve3 3 f B) = blD d (Wr A1 cc) (n - 3) pre (bsD n B) := by
  have e : fC_tryValve3 3 f B = if (3 : Int) < n then fC_tryValve3_L 100000 12 [3, f, 0] B else fC_weighTrial B := by
    unfold fC_tryValve3
    simp only [qlet_e]
    rw [hA.2.1]
  rw [e]
  by_cases q : (3 : Int) < n
  · rw [if_pos q]
    obtain ⟨m, hm⟩ : ∃ m, n = 3 + 1 + m := ⟨n - (3 + 1), by omega⟩
    obtain ⟨F, g⟩ : ∃ F : Nat, F + 10 + 1 = 100000 := ⟨99989, by decide⟩
    have key := tv3_L (d := d) h hH n4 hcb hci hl hm hd 10 F 0 B (by decide) (by decide) hA hT
    rw [g, ← hf] at key
    rw [show n - 3 = m + 1 by omega]
    exact key
  · rw [if_neg q, show n - 3 = 0 by omega]
    exact weigh_is h hH n4 hcb hA hT (by omega) hs hd
theorem tv2_L {A1 A2 : qA} {n m : Nat} {cc : Int → Int} {d : Int} {pre : List Int} (h : GR A1 A2) (hH : WH A1 A2) (n4 : n ≤ 4) (hcb : ∀ i : Int, 0 ≤ i → i < n → 0 ≤ cc i ∧ cc i < 8) (hci : ∀ i j : Int, 0 ≤ i → i < j → j < n → cc i < cc j) (hl : pre.length = 2) (hm : n = 2 + 1 + m) (hd : d9 pre) : ∀ (r F : Nat) (k : Int) (B : qA), k + r = 10 → 0 ≤ k → dvA A1 n cc d B → dvT n cc pre B → dvA A1 n cc d (fC_tryValve2_L (F + r + 1) 12 [2, d - sumL pre, k] B) ∧ dvT n cc pre (fC_tryValve2_L (F + r + 1) 12 [2, d - sumL pre, k] B) ∧ bsD n (fC_tryValve2_L (F + r + 1) 12 [2, d - sumL pre, k] B) = fdD (fun x s => blD d (Wr A1 cc) m (pre ++ [x]) s) r (bsD n B)
  | 0, F, k, B, hr, k0, hA, hT => by
    have e : fC_tryValve2_L (F + 0 + 1) 12 [2, d - sumL pre, k] B = B := by
      rw [fC_tryValve2_L12]
      unfold fC_tryValve2_c12
      simp only [qlet_e]
      by_cases q : d - sumL pre < k
      · rw [if_pos q]
      · rw [if_neg q, if_pos (show 9 < k by omega)]
    rw [e]
    exact ⟨hA, hT, rfl⟩
  | r + 1, F, k, B, hr, k0, hA, hT => by
    by_cases q : d - sumL pre < k
    · have e : fC_tryValve2_L (F + (r + 1) + 1) 12 [2, d - sumL pre, k] B = B := by
        rw [fC_tryValve2_L12]
        unfold fC_tryValve2_c12
        simp only [qlet_e]
        rw [if_pos q]
      rw [e, fdD_id (r + 1) (bsD n B) (by omega) (fun x s x0 x1 => blD_bad m (pre ++ [x]) s (by rw [sumL_a]; omega))]
      exact ⟨hA, hT, rfl⟩
    · have hlJ : (pre.length : Int) = 2 := by omega
      obtain ⟨f, h9, h47, h51⟩ := id hA
      obtain ⟨t1, t2⟩ := id hT
      have e47 : B 47 2 = cc 2 := h47 2 (by decide) (by omega)
      have fq : frm [49] [] B (qu B 49 (cc 2) k) := frm_q (frm_0 _ _ _) rfl
      have hA2 : dvA A1 n cc d (qu B 49 (cc 2) k) := ⟨frm_c f fq rfl, by rw [frm_f fq (r := 44) (j := 9) rfl]; exact h9, fun i i0 i1 => by rw [frm_a fq (r := 47) rfl]; exact h47 i i0 i1, fun x y x0 x1 y0 y1 => by rw [frm_a fq (r := 51) rfl]; exact h51 x y x0 x1 y0 y1⟩
      have hT2 : dvT n cc (pre ++ [k]) (qu B 49 (cc 2) k) := by
        refine ⟨?_, fun x x0 x1 hx => ?_⟩
        · rw [List.length_append, List.length_singleton, rw_a, Int.zero_add, hlJ]
          rw [rw_e (g := fun j => B 49 (cc j)) pre.length 0 (fun j j0 j1 => by
            have := hci j 2 j0 (by omega) (by omega)
            exact qu_nj (by omega)), t1]
          show pre ++ [(qu B 49 (cc 2) k) 49 (cc 2)] = pre ++ [k]
          rw [qu_at]
        · rw [qu_nj (hx 2 (by decide) (by omega))]
          exact t2 x x0 x1 hx
      have hbe : bsD n (qu B 49 (cc 2) k) = bsD n B := by
        unfold bsD
        rw [frm_f fq (r := 44) (j := 10) rfl, frm_a fq (r := 48) rfl]
      obtain ⟨u1, u2, u3⟩ := tv3_is (f := d - sumL pre - k) h hH n4 hcb hci hA2 hT2 (by rw [List.length_append, List.length_singleton, hl]) (by omega) (by rw [sumL_a]; omega) (d9_a hd k0 (by omega)) (by rw [sumL_a]; omega)
      rw [show n - 3 = m by omega, hbe] at u3
      have e : fC_tryValve2_L (F + (r + 1) + 1) 12 [2, d - sumL pre, k] B = fC_tryValve2_L (F + r + 1) 12 [2, d - sumL pre, k + 1] (fC_tryValve3 3 (d - sumL pre - k) (qu B 49 (cc 2) k)) := by
        rw [show F + (r + 1) + 1 = (F + r + 1) + 1 by omega, fC_tryValve2_L12]
        unfold fC_tryValve2_c12
        simp only [qlet_e]
        rw [if_neg q, if_neg (show ¬ 9 < k by omega), e47, show (2 : Int) + 1 = 3 by decide]
      rw [e]
      generalize fC_tryValve3 3 (d - sumL pre - k) (qu B 49 (cc 2) k) = D at u1 u2 u3 ⊢
      have hT3 : dvT n cc pre D := by
        refine ⟨?_, u2.2⟩
        have v := u2.1
        rw [List.length_append, List.length_singleton, rw_a] at v
        exact (List.append_inj v (rw_len _ _ _)).1
      obtain ⟨w1, w2, w3⟩ := tv2_L h hH n4 hcb hci hl hm hd r F (k + 1) D (by omega) (by omega) u1 hT3
      refine ⟨w1, w2, ?_⟩
      rw [w3, u3]
      show _ = fdD (fun x s => blD d (Wr A1 cc) m (pre ++ [x]) s) r (blD d (Wr A1 cc) m (pre ++ [9 - (r : Int)]) (bsD n B))
      rw [show 9 - (r : Int) = k by omega]
theorem tv2_is {A1 A2 : qA} {n : Nat} {cc : Int → Int} {d f : Int} {B : qA} {pre : List Int} (h : GR A1 A2) (hH : WH A1 A2) (n4 : n ≤ 4) (hcb : ∀ i : Int, 0 ≤ i → i < n → 0 ≤ cc i ∧ cc i < 8) (hci : ∀ i j : Int, 0 ≤ i → i < j → j < n → cc i < cc j) (hA : dvA A1 n cc d B) (hT : dvT n cc pre B) (hl : pre.length = 2) (hn : 2 ≤ n) (hs : sumL pre ≤ d) (hd : d9 pre) (hf : f = d - sumL pre) : dvA A1 n cc d (fC_tryValve2 2 f B) ∧ dvT n cc pre (fC_tryValve2 2 f B) ∧ bsD n (fC_tryValve2 2 f B) = blD d (Wr A1 cc) (n - 2) pre (bsD n B) := by
  have e : fC_tryValve2 2 f B = if (2 : Int) < n then fC_tryValve2_L 100000 12 [2, f, 0] B else fC_weighTrial B := by
    unfold fC_tryValve2
    simp only [qlet_e]
    rw [hA.2.1]
  rw [e]
  by_cases q : (2 : Int) < n
  · rw [if_pos q]
    obtain ⟨m, hm⟩ : ∃ m, n = 2 + 1 + m := ⟨n - (2 + 1), by omega⟩
    obtain ⟨F, g⟩ : ∃ F : Nat, F + 10 + 1 = 100000 := ⟨99989, by decide⟩
    have key := tv2_L (d := d) h hH n4 hcb hci hl hm hd 10 F 0 B (by decide) (by decide) hA hT
    rw [g, ← hf] at key
    rw [show n - 2 = m + 1 by omega]
    exact key
  · rw [if_neg q, show n - 2 = 0 by omega]
    exact weigh_is h hH n4 hcb hA hT (by omega) hs hd
theorem tv1_L {A1 A2 : qA} {n m : Nat} {cc : Int → Int} {d : Int} {pre : List Int} (h : GR A1 A2) (hH : WH A1 A2) (n4 : n ≤ 4) (hcb : ∀ i : Int, 0 ≤ i → i < n → 0 ≤ cc i ∧ cc i < 8) (hci : ∀ i j : Int, 0 ≤ i → i < j → j < n → cc i < cc j) (hl : pre.length = 1) (hm : n = 1 + 1 + m) (hd : d9 pre) : ∀ (r F : Nat) (k : Int) (B : qA), k + r = 10 → 0 ≤ k → dvA A1 n cc d B → dvT n cc pre B → dvA A1 n cc d (fC_tryValve1_L (F + r + 1) 12 [1, d - sumL pre, k] B) ∧ dvT n cc pre (fC_tryValve1_L (F + r + 1) 12 [1, d - sumL pre, k] B) ∧ bsD n (fC_tryValve1_L (F + r + 1) 12 [1, d - sumL pre, k] B) = fdD (fun x s => blD d (Wr A1 cc) m (pre ++ [x]) s) r (bsD n B)
  | 0, F, k, B, hr, k0, hA, hT => by
    have e : fC_tryValve1_L (F + 0 + 1) 12 [1, d - sumL pre, k] B = B := by
      rw [fC_tryValve1_L12]
      unfold fC_tryValve1_c12
      simp only [qlet_e]
      by_cases q : d - sumL pre < k
      · rw [if_pos q]
      · rw [if_neg q, if_pos (show 9 < k by omega)]
    rw [e]
    exact ⟨hA, hT, rfl⟩
  | r + 1, F, k, B, hr, k0, hA, hT => by
    by_cases q : d - sumL pre < k
    · have e : fC_tryValve1_L (F + (r + 1) + 1) 12 [1, d - sumL pre, k] B = B := by
        rw [fC_tryValve1_L12]
        unfold fC_tryValve1_c12
        simp only [qlet_e]
        rw [if_pos q]
      rw [e, fdD_id (r + 1) (bsD n B) (by omega) (fun x s x0 x1 => blD_bad m (pre ++ [x]) s (by rw [sumL_a]; omega))]
      exact ⟨hA, hT, rfl⟩
    · have hlJ : (pre.length : Int) = 1 := by omega
      obtain ⟨f, h9, h47, h51⟩ := id hA
      obtain ⟨t1, t2⟩ := id hT
      have e47 : B 47 1 = cc 1 := h47 1 (by decide) (by omega)
      have fq : frm [49] [] B (qu B 49 (cc 1) k) := frm_q (frm_0 _ _ _) rfl
      have hA2 : dvA A1 n cc d (qu B 49 (cc 1) k) := ⟨frm_c f fq rfl, by rw [frm_f fq (r := 44) (j := 9) rfl]; exact h9, fun i i0 i1 => by rw [frm_a fq (r := 47) rfl]; exact h47 i i0 i1, fun x y x0 x1 y0 y1 => by rw [frm_a fq (r := 51) rfl]; exact h51 x y x0 x1 y0 y1⟩
      have hT2 : dvT n cc (pre ++ [k]) (qu B 49 (cc 1) k) := by
        refine ⟨?_, fun x x0 x1 hx => ?_⟩
        · rw [List.length_append, List.length_singleton, rw_a, Int.zero_add, hlJ]
          rw [rw_e (g := fun j => B 49 (cc j)) pre.length 0 (fun j j0 j1 => by
            have := hci j 1 j0 (by omega) (by omega)
            exact qu_nj (by omega)), t1]
          show pre ++ [(qu B 49 (cc 1) k) 49 (cc 1)] = pre ++ [k]
          rw [qu_at]
        · rw [qu_nj (hx 1 (by decide) (by omega))]
          exact t2 x x0 x1 hx
      have hbe : bsD n (qu B 49 (cc 1) k) = bsD n B := by
        unfold bsD
        rw [frm_f fq (r := 44) (j := 10) rfl, frm_a fq (r := 48) rfl]
      obtain ⟨u1, u2, u3⟩ := tv2_is (f := d - sumL pre - k) h hH n4 hcb hci hA2 hT2 (by rw [List.length_append, List.length_singleton, hl]) (by omega) (by rw [sumL_a]; omega) (d9_a hd k0 (by omega)) (by rw [sumL_a]; omega)
      rw [show n - 2 = m by omega, hbe] at u3
      have e : fC_tryValve1_L (F + (r + 1) + 1) 12 [1, d - sumL pre, k] B = fC_tryValve1_L (F + r + 1) 12 [1, d - sumL pre, k + 1] (fC_tryValve2 2 (d - sumL pre - k) (qu B 49 (cc 1) k)) := by
        rw [show F + (r + 1) + 1 = (F + r + 1) + 1 by omega, fC_tryValve1_L12]
        unfold fC_tryValve1_c12
        simp only [qlet_e]
        rw [if_neg q, if_neg (show ¬ 9 < k by omega), e47, show (1 : Int) + 1 = 2 by decide]
      rw [e]
      generalize fC_tryValve2 2 (d - sumL pre - k) (qu B 49 (cc 1) k) = D at u1 u2 u3 ⊢
      have hT3 : dvT n cc pre D := by
        refine ⟨?_, u2.2⟩
        have v := u2.1
        rw [List.length_append, List.length_singleton, rw_a] at v
        exact (List.append_inj v (rw_len _ _ _)).1
      obtain ⟨w1, w2, w3⟩ := tv1_L h hH n4 hcb hci hl hm hd r F (k + 1) D (by omega) (by omega) u1 hT3
      refine ⟨w1, w2, ?_⟩
      rw [w3, u3]
      show _ = fdD (fun x s => blD d (Wr A1 cc) m (pre ++ [x]) s) r (blD d (Wr A1 cc) m (pre ++ [9 - (r : Int)]) (bsD n B))
      rw [show 9 - (r : Int) = k by omega]
theorem tv1_is {A1 A2 : qA} {n : Nat} {cc : Int → Int} {d f : Int} {B : qA} {pre : List Int} (h : GR A1 A2) (hH : WH A1 A2) (n4 : n ≤ 4) (hcb : ∀ i : Int, 0 ≤ i → i < n → 0 ≤ cc i ∧ cc i < 8) (hci : ∀ i j : Int, 0 ≤ i → i < j → j < n → cc i < cc j) (hA : dvA A1 n cc d B) (hT : dvT n cc pre B) (hl : pre.length = 1) (hn : 1 ≤ n) (hs : sumL pre ≤ d) (hd : d9 pre) (hf : f = d - sumL pre) : dvA A1 n cc d (fC_tryValve1 1 f B) ∧ dvT n cc pre (fC_tryValve1 1 f B) ∧ bsD n (fC_tryValve1 1 f B) = blD d (Wr A1 cc) (n - 1) pre (bsD n B) := by
  have e : fC_tryValve1 1 f B = if (1 : Int) < n then fC_tryValve1_L 100000 12 [1, f, 0] B else fC_weighTrial B := by
    unfold fC_tryValve1
    simp only [qlet_e]
    rw [hA.2.1]
  rw [e]
  by_cases q : (1 : Int) < n
  · rw [if_pos q]
    obtain ⟨m, hm⟩ : ∃ m, n = 1 + 1 + m := ⟨n - (1 + 1), by omega⟩
    obtain ⟨F, g⟩ : ∃ F : Nat, F + 10 + 1 = 100000 := ⟨99989, by decide⟩
    have key := tv1_L (d := d) h hH n4 hcb hci hl hm hd 10 F 0 B (by decide) (by decide) hA hT
    rw [g, ← hf] at key
    rw [show n - 1 = m + 1 by omega]
    exact key
  · rw [if_neg q, show n - 1 = 0 by omega]
    exact weigh_is h hH n4 hcb hA hT (by omega) hs hd
theorem tv0_L {A1 A2 : qA} {n m : Nat} {cc : Int → Int} {d : Int} {pre : List Int} (h : GR A1 A2) (hH : WH A1 A2) (n4 : n ≤ 4) (hcb : ∀ i : Int, 0 ≤ i → i < n → 0 ≤ cc i ∧ cc i < 8) (hci : ∀ i j : Int, 0 ≤ i → i < j → j < n → cc i < cc j) (hl : pre.length = 0) (hm : n = 0 + 1 + m) (hd : d9 pre) : ∀ (r F : Nat) (k : Int) (B : qA), k + r = 10 → 0 ≤ k → dvA A1 n cc d B → dvT n cc pre B → dvA A1 n cc d (fC_tryValve0_L (F + r + 1) 12 [0, d - sumL pre, k] B) ∧ dvT n cc pre (fC_tryValve0_L (F + r + 1) 12 [0, d - sumL pre, k] B) ∧ bsD n (fC_tryValve0_L (F + r + 1) 12 [0, d - sumL pre, k] B) = fdD (fun x s => blD d (Wr A1 cc) m (pre ++ [x]) s) r (bsD n B)
  | 0, F, k, B, hr, k0, hA, hT => by
    have e : fC_tryValve0_L (F + 0 + 1) 12 [0, d - sumL pre, k] B = B := by
      rw [fC_tryValve0_L12]
      unfold fC_tryValve0_c12
      simp only [qlet_e]
      by_cases q : d - sumL pre < k
      · rw [if_pos q]
      · rw [if_neg q, if_pos (show 9 < k by omega)]
    rw [e]
    exact ⟨hA, hT, rfl⟩
  | r + 1, F, k, B, hr, k0, hA, hT => by
    by_cases q : d - sumL pre < k
    · have e : fC_tryValve0_L (F + (r + 1) + 1) 12 [0, d - sumL pre, k] B = B := by
        rw [fC_tryValve0_L12]
        unfold fC_tryValve0_c12
        simp only [qlet_e]
        rw [if_pos q]
      rw [e, fdD_id (r + 1) (bsD n B) (by omega) (fun x s x0 x1 => blD_bad m (pre ++ [x]) s (by rw [sumL_a]; omega))]
      exact ⟨hA, hT, rfl⟩
    · have hlJ : (pre.length : Int) = 0 := by omega
      obtain ⟨f, h9, h47, h51⟩ := id hA
      obtain ⟨t1, t2⟩ := id hT
      have e47 : B 47 0 = cc 0 := h47 0 (by decide) (by omega)
      have fq : frm [49] [] B (qu B 49 (cc 0) k) := frm_q (frm_0 _ _ _) rfl
      have hA2 : dvA A1 n cc d (qu B 49 (cc 0) k) := ⟨frm_c f fq rfl, by rw [frm_f fq (r := 44) (j := 9) rfl]; exact h9, fun i i0 i1 => by rw [frm_a fq (r := 47) rfl]; exact h47 i i0 i1, fun x y x0 x1 y0 y1 => by rw [frm_a fq (r := 51) rfl]; exact h51 x y x0 x1 y0 y1⟩
      have hT2 : dvT n cc (pre ++ [k]) (qu B 49 (cc 0) k) := by
        refine ⟨?_, fun x x0 x1 hx => ?_⟩
        · rw [List.length_append, List.length_singleton, rw_a, Int.zero_add, hlJ]
          rw [rw_e (g := fun j => B 49 (cc j)) pre.length 0 (fun j j0 j1 => by
            have := hci j 0 j0 (by omega) (by omega)
            exact qu_nj (by omega)), t1]
          show pre ++ [(qu B 49 (cc 0) k) 49 (cc 0)] = pre ++ [k]
          rw [qu_at]
        · rw [qu_nj (hx 0 (by decide) (by omega))]
          exact t2 x x0 x1 hx
      have hbe : bsD n (qu B 49 (cc 0) k) = bsD n B := by
        unfold bsD
        rw [frm_f fq (r := 44) (j := 10) rfl, frm_a fq (r := 48) rfl]
      obtain ⟨u1, u2, u3⟩ := tv1_is (f := d - sumL pre - k) h hH n4 hcb hci hA2 hT2 (by rw [List.length_append, List.length_singleton, hl]) (by omega) (by rw [sumL_a]; omega) (d9_a hd k0 (by omega)) (by rw [sumL_a]; omega)
      rw [show n - 1 = m by omega, hbe] at u3
      have e : fC_tryValve0_L (F + (r + 1) + 1) 12 [0, d - sumL pre, k] B = fC_tryValve0_L (F + r + 1) 12 [0, d - sumL pre, k + 1] (fC_tryValve1 1 (d - sumL pre - k) (qu B 49 (cc 0) k)) := by
        rw [show F + (r + 1) + 1 = (F + r + 1) + 1 by omega, fC_tryValve0_L12]
        unfold fC_tryValve0_c12
        simp only [qlet_e]
        rw [if_neg q, if_neg (show ¬ 9 < k by omega), e47, show (0 : Int) + 1 = 1 by decide]
      rw [e]
      generalize fC_tryValve1 1 (d - sumL pre - k) (qu B 49 (cc 0) k) = D at u1 u2 u3 ⊢
      have hT3 : dvT n cc pre D := by
        refine ⟨?_, u2.2⟩
        have v := u2.1
        rw [List.length_append, List.length_singleton, rw_a] at v
        exact (List.append_inj v (rw_len _ _ _)).1
      obtain ⟨w1, w2, w3⟩ := tv0_L h hH n4 hcb hci hl hm hd r F (k + 1) D (by omega) (by omega) u1 hT3
      refine ⟨w1, w2, ?_⟩
      rw [w3, u3]
      show _ = fdD (fun x s => blD d (Wr A1 cc) m (pre ++ [x]) s) r (blD d (Wr A1 cc) m (pre ++ [9 - (r : Int)]) (bsD n B))
      rw [show 9 - (r : Int) = k by omega]
theorem tv0_is {A1 A2 : qA} {n : Nat} {cc : Int → Int} {d f : Int} {B : qA} {pre : List Int} (h : GR A1 A2) (hH : WH A1 A2) (n4 : n ≤ 4) (hcb : ∀ i : Int, 0 ≤ i → i < n → 0 ≤ cc i ∧ cc i < 8) (hci : ∀ i j : Int, 0 ≤ i → i < j → j < n → cc i < cc j) (hA : dvA A1 n cc d B) (hT : dvT n cc pre B) (hl : pre.length = 0) (hn : 0 ≤ n) (hs : sumL pre ≤ d) (hd : d9 pre) (hf : f = d - sumL pre) : dvA A1 n cc d (fC_tryValve0 0 f B) ∧ dvT n cc pre (fC_tryValve0 0 f B) ∧ bsD n (fC_tryValve0 0 f B) = blD d (Wr A1 cc) (n - 0) pre (bsD n B) := by
  have e : fC_tryValve0 0 f B = if (0 : Int) < n then fC_tryValve0_L 100000 12 [0, f, 0] B else fC_weighTrial B := by
    unfold fC_tryValve0
    simp only [qlet_e]
    rw [hA.2.1]
  rw [e]
  by_cases q : (0 : Int) < n
  · rw [if_pos q]
    obtain ⟨m, hm⟩ : ∃ m, n = 0 + 1 + m := ⟨n - (0 + 1), by omega⟩
    obtain ⟨F, g⟩ : ∃ F : Nat, F + 10 + 1 = 100000 := ⟨99989, by decide⟩
    have key := tv0_L (d := d) h hH n4 hcb hci hl hm hd 10 F 0 B (by decide) (by decide) hA hT
    rw [g, ← hf] at key
    rw [show n - 0 = m + 1 by omega]
    exact key
  · rw [if_neg q, show n - 0 = 0 by omega]
    exact weigh_is h hH n4 hcb hA hT (by omega) hs hd
