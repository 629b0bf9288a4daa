theorem try4_L {G : qA} {n m : Nat} {A : qA} (hA : plA G n A) (hp : rpos G) {pre : List Int} (hl : pre.length = 4) (hm : n = 4 + 1 + m) (hf : fea G pre) (hd : dgs pre) : ∀ (r F : Nat) (k : Int) (B : qA), k + r = 6 → 0 ≤ k → plI G A B pre → plI G A (fC_tryCell4_L (F + r + 1) 36 [4, wtS (G 1) (G 2) pre, k] B) pre ∧ bs n (fC_tryCell4_L (F + r + 1) 36 [4, wtS (G 1) (G 2) pre, k] B) = fdg (fun d s => blk G m (pre ++ [d]) s) r (bs n B)
  | 0, F, k, B, hr, k0, hI => by
    rw [fC_tryCell4_L36]
    unfold fC_tryCell4_c36
    simp only [qlet]
    rw [if_neg (show ¬ k < 6 by omega)]
    exact ⟨hI, rfl⟩
  | r + 1, F, k, B, hr, k0, hI => by
    rw [show F + (r + 1) + 1 = (F + r + 1) + 1 by omega, fC_tryCell4_L36]
    unfold fC_tryCell4_c36
    simp only [qlet]
    have hk5 : (5 : Int) - r = k := by omega
    obtain ⟨⟨a1, a2⟩, a3, a4, a5, a6⟩ := id hA
    obtain ⟨i1, i2, i3⟩ := id hI
    have hlJ : (pre.length : Int) = 4 := by omega
    obtain ⟨e65, c0, c1, hup⟩ := a3 4 (by omega) (by omega)
    have b12 : B 12 k = G 1 k := by rw [frm_a i1 (r := 12) rfl]; exact (a4 k k0 (by omega)).1
    have b65 : B 65 4 = G 0 4 := by rw [frm_a i1 (r := 65) rfl]; exact e65
    rw [if_pos (show k < 6 by omega), b12, b65, show wI (k + 1) = k + 1 from wI_id ⟨by omega, by omega⟩]
    show _ ∧ _ = fdg (fun d s => blk G m (pre ++ [d]) s) r (blk G m (pre ++ [5 - (r : Int)]) (bs n B))
    rw [hk5]
    have hfit := fits_is hA hp hI (by omega) hf k0 (show k ≤ 5 by omega)
    rw [hlJ] at hfit
    rcases hfit with ⟨q, hfk⟩ | ⟨q, hfk⟩
    · rw [q, if_neg (show ¬ (1 : Int) = 0 by decide)]
      have hk := hp k k0 (by omega)
      have hdk : dig k := ⟨by omega, by omega⟩
      have b13 : ∀ D : qA, frm [64, 66, 67] [(63, 7)] A D → D 13 k = G 2 k := fun D f => by rw [frm_a f (r := 13) rfl]; exact (a4 k k0 (by omega)).2
      have sp : ∀ i, G 0 4 - G 0 4 % 6 ≤ i → i ≤ G 0 4 → B 64 i = G 5 i - (G 4 i + plS (G 0) (G 1) i 0 pre) ∧ 0 ≤ B 64 i - G 1 k ∧ B 64 i ≤ 2147483647 := fun i j0 j1 => by
        have hz := hup i j0 j1
        have u1 := i3 i (by omega) (by omega) hz
        have u2 := hfk.2 i (by omega) (by omega) hz
        have u3 := a6 i (by omega) (by omega) hz
        have u4 := plS_bd hp i pre 0 hd
        rw [plS_a, Int.zero_add, hlJ, if_pos ⟨by omega, j1, by omega⟩] at u2
        omega
      have f52 : frm [64, 66, 67] [(63, 7)] A (qu B 66 4 k) := frm_q i1 rfl
      have e52 : (qu B 66 4 k) 64 = B 64 := qu_ne (by decide)
      obtain ⟨g1, g2⟩ := burden_is (c := G 0 4) (h := G 1 k) (B := qu B 66 4 k) c0 c1 (fun i j0 j1 => by
        rw [e52]
        have := sp i j0 j1
        exact ⟨by omega, by omega⟩)
      rw [e52] at g2
      have f61 : frm [64, 66, 67] [(63, 7)] A (fC_burden (G 0 4) (G 1 k) (qu B 66 4 k)) := frm_c f52 g1 rfl
      have e66 : (fC_burden (G 0 4) (G 1 k) (qu B 66 4 k)) 66 = (qu B 66 4 k) 66 := frm_a g1 rfl
      rw [b13 _ f61]
      have hI2 : plI G A (fC_burden (G 0 4) (G 1 k) (qu B 66 4 k)) (pre ++ [k]) := by
        refine ⟨f61, ?_, fun c d0 d1 z => ?_⟩
        · rw [List.length_append, List.length_singleton, rw_a, e66, Int.zero_add, hlJ, qu_at, rw_e (g := B 66) pre.length 0 (fun j j0 j1 => qu_nj (by omega)), i2]
        · rw [g2 c, plS_a, Int.zero_add, hlJ]
          have u1 := i3 c d0 d1 z
          by_cases w : G 0 4 - G 0 4 % 6 ≤ c ∧ c ≤ G 0 4
          · rw [if_pos w, if_pos ⟨by omega, w.2, by omega⟩]; omega
          · rw [if_neg w, if_neg (fun v => w ⟨by omega, v.2.1⟩)]; omega
      have hbe : bs n (fC_burden (G 0 4) (G 1 k) (qu B 66 4 k)) = bs n B := by
        unfold bs
        rw [frm_f g1 (r := 63) (j := 7) rfl, frm_a g1 (r := 67) rfl, qu_ne (show (63 : Nat) ≠ 66 by decide), qu_ne (show (67 : Nat) ≠ 66 by decide)]
      have hwb := wtS_bd hp pre hd
      have hmb := mul_bd (a := G 1 k) (b := G 2 k) (p := 200) (q := 99) (by omega) hk.2.1 hk.2.2.1 hk.2.2.2
      have hws : wI (wtS (G 1) (G 2) pre + G 1 k * G 2 k) = wtS (G 1) (G 2) (pre ++ [k]) := by
        rw [wtS_a, if_neg (show ¬ k = -1 by omega), Int.mul_comm (G 2 k) (G 1 k)]
        exact wI_id ⟨by omega, by omega⟩
      rw [hws, show wI (4 + 1) = 5 from wI_id ⟨by decide, by decide⟩]
      obtain ⟨t1, t2⟩ := try5_is hA hI2 (by rw [List.length_append, List.length_singleton, hl]) (by omega) hfk
      rw [show n - 5 = m by omega, hbe] at t2
      generalize fC_burden (G 0 4) (G 1 k) (qu B 66 4 k) = D1 at g1 g2 f61 e66 hI2 hbe t1 t2 ⊢
      generalize fC_tryCell5 5 (wtS (G 1) (G 2) (pre ++ [k])) D1 = D2 at t1 t2 ⊢
      obtain ⟨v1, v2, v3⟩ := t1
      have w64 : ∀ i, G 0 4 - G 0 4 % 6 ≤ i → i ≤ G 0 4 → D2 64 i = B 64 i - G 1 k := fun i j0 j1 => by
        have u1 := v3 i (by omega) (by omega) (hup i j0 j1)
        have u2 := sp i j0 j1
        rw [plS_a, Int.zero_add, hlJ, if_pos ⟨by omega, j1, by omega⟩] at u1
        omega
      rw [show wI (-G 1 k) = -G 1 k from wI_id ⟨by omega, by omega⟩]
      obtain ⟨p1, p2⟩ := burden_is (c := G 0 4) (h := -G 1 k) (B := D2) c0 c1 (fun i j0 j1 => by
        have := sp i j0 j1
        rw [w64 i j0 j1]
        exact ⟨by omega, by omega⟩)
      have hI3 : plI G A (fC_burden (G 0 4) (-G 1 k) D2) pre := by
        refine ⟨frm_c v1 p1 rfl, ?_, fun c d0 d1 z => ?_⟩
        · rw [frm_a p1 (r := 66) rfl]
          rw [List.length_append, List.length_singleton, rw_a] at v2
          exact (List.append_inj v2 (rw_len _ _ _)).1
        · rw [p2 c]
          have u1 := v3 c d0 d1 z
          rw [plS_a, Int.zero_add, hlJ] at u1
          by_cases w : G 0 4 - G 0 4 % 6 ≤ c ∧ c ≤ G 0 4
          · rw [if_pos ⟨by omega, w.2, by omega⟩] at u1
            rw [if_pos w]; omega
          · rw [if_neg (fun v => w ⟨by omega, v.2.1⟩)] at u1
            rw [if_neg w]; omega
      have hb3 : bs n (fC_burden (G 0 4) (-G 1 k) D2) = blk G m (pre ++ [k]) (bs n B) := by
        rw [← t2]
        unfold bs
        rw [frm_f p1 (r := 63) (j := 7) rfl, frm_a p1 (r := 67) rfl]
      rw [← hb3]
      exact try4_L hA hp hl hm hf hd r F (k + 1) _ (by omega) (by omega) hI3
    · rw [q, if_pos (rfl : (0 : Int) = 0), blk_bad hp m (pre ++ [k]) (bs n B) hfk]
      exact try4_L hA hp hl hm hf hd r F (k + 1) B (by omega) (by omega) hI
theorem try4_is {G : qA} {n : Nat} {A B : qA} {pre : List Int} (hA : plA G n A) (hp : rpos G) (hI : plI G A B pre) (hl : pre.length = 4) (hn : 4 ≤ n) (hf : fea G pre) (hd : dgs pre) : plI G A (fC_tryCell4 4 (wtS (G 1) (G 2) pre) B) pre ∧ bs n (fC_tryCell4 4 (wtS (G 1) (G 2) pre) B) = blk G (n - 4) pre (bs n B) := by
  have h63 : B 63 (fd 6) = n := by rw [frm_f hI.1 (r := 63) (j := 6) rfl]; exact hA.1.1
  unfold fC_tryCell4
  simp only [qlet_e]
  rw [h63]
  by_cases q : (4 : Int) < n
  · rw [if_pos q, show wI (4 + 1) = 5 from wI_id ⟨by decide, by decide⟩]
    obtain ⟨m, hm⟩ : ∃ m, n = 4 + 1 + m := ⟨n - (4 + 1), by omega⟩
    have hfn : fea G (pre ++ [-1]) := fea_n.mpr hf
    have hdn : dgs (pre ++ [-1]) := dgs_a hd ⟨by decide, by decide⟩
    have hlJ : (pre.length : Int) = 4 := by omega
    have hI2 : plI G A (qu B 66 4 (-1)) (pre ++ [-1]) := by
      obtain ⟨i1, i2, i3⟩ := hI
      refine ⟨frm_q i1 rfl, ?_, fun c d0 d1 z => ?_⟩
      · rw [List.length_append, List.length_singleton, rw_a, Int.zero_add, hlJ, qu_at, rw_e (g := B 66) pre.length 0 (fun j j0 j1 => qu_nj (by omega)), i2]
      · rw [qu_ne (by decide), plS_a, if_neg (fun w => w.1 rfl), Int.add_zero]
        exact i3 c d0 d1 z
    have hw : wtS (G 1) (G 2) pre = wtS (G 1) (G 2) (pre ++ [-1]) := by rw [wtS_a, if_pos rfl, Int.add_zero]
    have hb : bs n (qu B 66 4 (-1)) = bs n B := by
      unfold bs
      rw [qu_ne (show (63 : Nat) ≠ 66 by decide), qu_ne (show (67 : Nat) ≠ 66 by decide)]
    obtain ⟨t1, t2⟩ := try5_is hA hI2 (by rw [List.length_append, List.length_singleton, hl]) (by omega) hfn
    rw [← hw] at t1 t2
    rw [show n - 5 = m by omega, hb] at t2
    generalize fC_tryCell5 5 (wtS (G 1) (G 2) pre) (qu B 66 4 (-1)) = D at t1 t2 ⊢
    have hI3 : plI G A D pre := by
      obtain ⟨v1, v2, v3⟩ := t1
      refine ⟨v1, ?_, fun c d0 d1 z => ?_⟩
      · rw [List.length_append, List.length_singleton, rw_a] at v2
        exact (List.append_inj v2 (rw_len _ _ _)).1
      · have := v3 c d0 d1 z
        rw [plS_a, if_neg (fun w => w.1 rfl), Int.add_zero] at this
        exact this
    obtain ⟨F, g⟩ : ∃ F : Nat, F + 6 + 1 = 100000 := ⟨99993, by decide⟩
    obtain ⟨l1, l2⟩ := try4_L hA hp hl hm hf hd 6 F 0 D (by decide) (by decide) hI3
    rw [g] at l1 l2
    rw [t2] at l2
    rw [show n - 4 = m + 1 by omega]
    exact ⟨l1, l2⟩
  · rw [if_neg q, show n - 4 = 0 by omega]
    exact leaf_is hA hI (by omega) hf _ rfl
theorem try3_L {G : qA} {n m : Nat} {A : qA} (hA : plA G n A) (hp : rpos G) {pre : List Int} (hl : pre.length = 3) (hm : n = 3 + 1 + m) (hf : fea G pre) (hd : dgs pre) : ∀ (r F : Nat) (k : Int) (B : qA), k + r = 6 → 0 ≤ k → plI G A B pre → plI G A (fC_tryCell3_L (F + r + 1) 36 [3, wtS (G 1) (G 2) pre, k] B) pre ∧ bs n (fC_tryCell3_L (F + r + 1) 36 [3, wtS (G 1) (G 2) pre, k] B) = fdg (fun d s => blk G m (pre ++ [d]) s) r (bs n B)
  | 0, F, k, B, hr, k0, hI => by
    rw [fC_tryCell3_L36]
    unfold fC_tryCell3_c36
    simp only [qlet]
    rw [if_neg (show ¬ k < 6 by omega)]
    exact ⟨hI, rfl⟩
  | r + 1, F, k, B, hr, k0, hI => by
    rw [show F + (r + 1) + 1 = (F + r + 1) + 1 by omega, fC_tryCell3_L36]
    unfold fC_tryCell3_c36
    simp only [qlet]
    have hk5 : (5 : Int) - r = k := by omega
    obtain ⟨⟨a1, a2⟩, a3, a4, a5, a6⟩ := id hA
    obtain ⟨i1, i2, i3⟩ := id hI
    have hlJ : (pre.length : Int) = 3 := by omega
    obtain ⟨e65, c0, c1, hup⟩ := a3 3 (by omega) (by omega)
    have b12 : B 12 k = G 1 k := by rw [frm_a i1 (r := 12) rfl]; exact (a4 k k0 (by omega)).1
    have b65 : B 65 3 = G 0 3 := by rw [frm_a i1 (r := 65) rfl]; exact e65
    rw [if_pos (show k < 6 by omega), b12, b65, show wI (k + 1) = k + 1 from wI_id ⟨by omega, by omega⟩]
    show _ ∧ _ = fdg (fun d s => blk G m (pre ++ [d]) s) r (blk G m (pre ++ [5 - (r : Int)]) (bs n B))
    rw [hk5]
    have hfit := fits_is hA hp hI (by omega) hf k0 (show k ≤ 5 by omega)
    rw [hlJ] at hfit
    rcases hfit with ⟨q, hfk⟩ | ⟨q, hfk⟩
    · rw [q, if_neg (show ¬ (1 : Int) = 0 by decide)]
      have hk := hp k k0 (by omega)
      have hdk : dig k := ⟨by omega, by omega⟩
      have b13 : ∀ D : qA, frm [64, 66, 67] [(63, 7)] A D → D 13 k = G 2 k := fun D f => by rw [frm_a f (r := 13) rfl]; exact (a4 k k0 (by omega)).2
      have sp : ∀ i, G 0 3 - G 0 3 % 6 ≤ i → i ≤ G 0 3 → B 64 i = G 5 i - (G 4 i + plS (G 0) (G 1) i 0 pre) ∧ 0 ≤ B 64 i - G 1 k ∧ B 64 i ≤ 2147483647 := fun i j0 j1 => by
        have hz := hup i j0 j1
        have u1 := i3 i (by omega) (by omega) hz
        have u2 := hfk.2 i (by omega) (by omega) hz
        have u3 := a6 i (by omega) (by omega) hz
        have u4 := plS_bd hp i pre 0 hd
        rw [plS_a, Int.zero_add, hlJ, if_pos ⟨by omega, j1, by omega⟩] at u2
        omega
      have f52 : frm [64, 66, 67] [(63, 7)] A (qu B 66 3 k) := frm_q i1 rfl
      have e52 : (qu B 66 3 k) 64 = B 64 := qu_ne (by decide)
      obtain ⟨g1, g2⟩ := burden_is (c := G 0 3) (h := G 1 k) (B := qu B 66 3 k) c0 c1 (fun i j0 j1 => by
        rw [e52]
        have := sp i j0 j1
        exact ⟨by omega, by omega⟩)
      rw [e52] at g2
      have f61 : frm [64, 66, 67] [(63, 7)] A (fC_burden (G 0 3) (G 1 k) (qu B 66 3 k)) := frm_c f52 g1 rfl
      have e66 : (fC_burden (G 0 3) (G 1 k) (qu B 66 3 k)) 66 = (qu B 66 3 k) 66 := frm_a g1 rfl
      rw [b13 _ f61]
      have hI2 : plI G A (fC_burden (G 0 3) (G 1 k) (qu B 66 3 k)) (pre ++ [k]) := by
        refine ⟨f61, ?_, fun c d0 d1 z => ?_⟩
        · rw [List.length_append, List.length_singleton, rw_a, e66, Int.zero_add, hlJ, qu_at, rw_e (g := B 66) pre.length 0 (fun j j0 j1 => qu_nj (by omega)), i2]
        · rw [g2 c, plS_a, Int.zero_add, hlJ]
          have u1 := i3 c d0 d1 z
          by_cases w : G 0 3 - G 0 3 % 6 ≤ c ∧ c ≤ G 0 3
          · rw [if_pos w, if_pos ⟨by omega, w.2, by omega⟩]; omega
          · rw [if_neg w, if_neg (fun v => w ⟨by omega, v.2.1⟩)]; omega
      have hbe : bs n (fC_burden (G 0 3) (G 1 k) (qu B 66 3 k)) = bs n B := by
        unfold bs
        rw [frm_f g1 (r := 63) (j := 7) rfl, frm_a g1 (r := 67) rfl, qu_ne (show (63 : Nat) ≠ 66 by decide), qu_ne (show (67 : Nat) ≠ 66 by decide)]
      have hwb := wtS_bd hp pre hd
      have hmb := mul_bd (a := G 1 k) (b := G 2 k) (p := 200) (q := 99) (by omega) hk.2.1 hk.2.2.1 hk.2.2.2
      have hws : wI (wtS (G 1) (G 2) pre + G 1 k * G 2 k) = wtS (G 1) (G 2) (pre ++ [k]) := by
        rw [wtS_a, if_neg (show ¬ k = -1 by omega), Int.mul_comm (G 2 k) (G 1 k)]
        exact wI_id ⟨by omega, by omega⟩
      rw [hws, show wI (3 + 1) = 4 from wI_id ⟨by decide, by decide⟩]
      obtain ⟨t1, t2⟩ := try4_is hA hp hI2 (by rw [List.length_append, List.length_singleton, hl]) (by omega) hfk (dgs_a hd hdk)
      rw [show n - 4 = m by omega, hbe] at t2
      generalize fC_burden (G 0 3) (G 1 k) (qu B 66 3 k) = D1 at g1 g2 f61 e66 hI2 hbe t1 t2 ⊢
      generalize fC_tryCell4 4 (wtS (G 1) (G 2) (pre ++ [k])) D1 = D2 at t1 t2 ⊢
      obtain ⟨v1, v2, v3⟩ := t1
      have w64 : ∀ i, G 0 3 - G 0 3 % 6 ≤ i → i ≤ G 0 3 → D2 64 i = B 64 i - G 1 k := fun i j0 j1 => by
        have u1 := v3 i (by omega) (by omega) (hup i j0 j1)
        have u2 := sp i j0 j1
        rw [plS_a, Int.zero_add, hlJ, if_pos ⟨by omega, j1, by omega⟩] at u1
        omega
      rw [show wI (-G 1 k) = -G 1 k from wI_id ⟨by omega, by omega⟩]
      obtain ⟨p1, p2⟩ := burden_is (c := G 0 3) (h := -G 1 k) (B := D2) c0 c1 (fun i j0 j1 => by
        have := sp i j0 j1
        rw [w64 i j0 j1]
        exact ⟨by omega, by omega⟩)
      have hI3 : plI G A (fC_burden (G 0 3) (-G 1 k) D2) pre := by
        refine ⟨frm_c v1 p1 rfl, ?_, fun c d0 d1 z => ?_⟩
        · rw [frm_a p1 (r := 66) rfl]
          rw [List.length_append, List.length_singleton, rw_a] at v2
          exact (List.append_inj v2 (rw_len _ _ _)).1
        · rw [p2 c]
          have u1 := v3 c d0 d1 z
          rw [plS_a, Int.zero_add, hlJ] at u1
          by_cases w : G 0 3 - G 0 3 % 6 ≤ c ∧ c ≤ G 0 3
          · rw [if_pos ⟨by omega, w.2, by omega⟩] at u1
            rw [if_pos w]; omega
          · rw [if_neg (fun v => w ⟨by omega, v.2.1⟩)] at u1
            rw [if_neg w]; omega
      have hb3 : bs n (fC_burden (G 0 3) (-G 1 k) D2) = blk G m (pre ++ [k]) (bs n B) := by
        rw [← t2]
        unfold bs
        rw [frm_f p1 (r := 63) (j := 7) rfl, frm_a p1 (r := 67) rfl]
      rw [← hb3]
      exact try3_L hA hp hl hm hf hd r F (k + 1) _ (by omega) (by omega) hI3
    · rw [q, if_pos (rfl : (0 : Int) = 0), blk_bad hp m (pre ++ [k]) (bs n B) hfk]
      exact try3_L hA hp hl hm hf hd r F (k + 1) B (by omega) (by omega) hI
theorem try3_is {G : qA} {n : Nat} {A B : qA} {pre : List Int} (hA : plA G n A) (hp : rpos G) (hI : plI G A B pre) (hl : pre.length = 3) (hn : 3 ≤ n) (hf : fea G pre) (hd : dgs pre) : plI G A (fC_tryCell3 3 (wtS (G 1) (G 2) pre) B) pre ∧ bs n (fC_tryCell3 3 (wtS (G 1) (G 2) pre) B) = blk G (n - 3) pre (bs n B) := by
  have h63 : B 63 (fd 6) = n := by rw [frm_f hI.1 (r := 63) (j := 6) rfl]; exact hA.1.1
  unfold fC_tryCell3
  simp only [qlet_e]
  rw [h63]
  by_cases q : (3 : Int) < n
  · rw [if_pos q, show wI (3 + 1) = 4 from wI_id ⟨by decide, by decide⟩]
    obtain ⟨m, hm⟩ : ∃ m, n = 3 + 1 + m := ⟨n - (3 + 1), by omega⟩
    have hfn : fea G (pre ++ [-1]) := fea_n.mpr hf
    have hdn : dgs (pre ++ [-1]) := dgs_a hd ⟨by decide, by decide⟩
    have hlJ : (pre.length : Int) = 3 := by omega
    have hI2 : plI G A (qu B 66 3 (-1)) (pre ++ [-1]) := by
      obtain ⟨i1, i2, i3⟩ := hI
      refine ⟨frm_q i1 rfl, ?_, fun c d0 d1 z => ?_⟩
      · rw [List.length_append, List.length_singleton, rw_a, Int.zero_add, hlJ, qu_at, rw_e (g := B 66) pre.length 0 (fun j j0 j1 => qu_nj (by omega)), i2]
      · rw [qu_ne (by decide), plS_a, if_neg (fun w => w.1 rfl), Int.add_zero]
        exact i3 c d0 d1 z
    have hw : wtS (G 1) (G 2) pre = wtS (G 1) (G 2) (pre ++ [-1]) := by rw [wtS_a, if_pos rfl, Int.add_zero]
    have hb : bs n (qu B 66 3 (-1)) = bs n B := by
      unfold bs
      rw [qu_ne (show (63 : Nat) ≠ 66 by decide), qu_ne (show (67 : Nat) ≠ 66 by decide)]
    obtain ⟨t1, t2⟩ := try4_is hA hp hI2 (by rw [List.length_append, List.length_singleton, hl]) (by omega) hfn hdn
    rw [← hw] at t1 t2
    rw [show n - 4 = m by omega, hb] at t2
    generalize fC_tryCell4 4 (wtS (G 1) (G 2) pre) (qu B 66 3 (-1)) = D at t1 t2 ⊢
    have hI3 : plI G A D pre := by
      obtain ⟨v1, v2, v3⟩ := t1
      refine ⟨v1, ?_, fun c d0 d1 z => ?_⟩
      · rw [List.length_append, List.length_singleton, rw_a] at v2
        exact (List.append_inj v2 (rw_len _ _ _)).1
      · have := v3 c d0 d1 z
        rw [plS_a, if_neg (fun w => w.1 rfl), Int.add_zero] at this
        exact this
    obtain ⟨F, g⟩ : ∃ F : Nat, F + 6 + 1 = 100000 := ⟨99993, by decide⟩
    obtain ⟨l1, l2⟩ := try3_L hA hp hl hm hf hd 6 F 0 D (by decide) (by decide) hI3
    rw [g] at l1 l2
    rw [t2] at l2
    rw [show n - 3 = m + 1 by omega]
    exact ⟨l1, l2⟩
  · rw [if_neg q, show n - 3 = 0 by omega]
    exact leaf_is hA hI (by omega) hf _ rfl
theorem try2_L {G : qA} {n m : Nat} {A : qA} (hA : plA G n A) (hp : rpos G) {pre : List Int} (hl : pre.length = 2) (hm : n = 2 + 1 + m) (hf : fea G pre) (hd : dgs pre) : ∀ (r F : Nat) (k : Int) (B : qA), k + r = 6 → 0 ≤ k → plI G A B pre → plI G A (fC_tryCell2_L (F + r + 1) 36 [2, wtS (G 1) (G 2) pre, k] B) pre ∧ bs n (fC_tryCell2_L (F + r + 1) 36 [2, wtS (G 1) (G 2) pre, k] B) = fdg (fun d s => blk G m (pre ++ [d]) s) r (bs n B)
  | 0, F, k, B, hr, k0, hI => by
    rw [fC_tryCell2_L36]
    unfold fC_tryCell2_c36
    simp only [qlet]
    rw [if_neg (show ¬ k < 6 by omega)]
    exact ⟨hI, rfl⟩
  | r + 1, F, k, B, hr, k0, hI => by
    rw [show F + (r + 1) + 1 = (F + r + 1) + 1 by omega, fC_tryCell2_L36]
    unfold fC_tryCell2_c36
    simp only [qlet]
    have hk5 : (5 : Int) - r = k := by omega
    obtain ⟨⟨a1, a2⟩, a3, a4, a5, a6⟩ := id hA
    obtain ⟨i1, i2, i3⟩ := id hI
    have hlJ : (pre.length : Int) = 2 := by omega
    obtain ⟨e65, c0, c1, hup⟩ := a3 2 (by omega) (by omega)
    have b12 : B 12 k = G 1 k := by rw [frm_a i1 (r := 12) rfl]; exact (a4 k k0 (by omega)).1
    have b65 : B 65 2 = G 0 2 := by rw [frm_a i1 (r := 65) rfl]; exact e65
    rw [if_pos (show k < 6 by omega), b12, b65, show wI (k + 1) = k + 1 from wI_id ⟨by omega, by omega⟩]
    show _ ∧ _ = fdg (fun d s => blk G m (pre ++ [d]) s) r (blk G m (pre ++ [5 - (r : Int)]) (bs n B))
    rw [hk5]
    have hfit := fits_is hA hp hI (by omega) hf k0 (show k ≤ 5 by omega)
    rw [hlJ] at hfit
    rcases hfit with ⟨q, hfk⟩ | ⟨q, hfk⟩
    · rw [q, if_neg (show ¬ (1 : Int) = 0 by decide)]
      have hk := hp k k0 (by omega)
      have hdk : dig k := ⟨by omega, by omega⟩
      have b13 : ∀ D : qA, frm [64, 66, 67] [(63, 7)] A D → D 13 k = G 2 k := fun D f => by rw [frm_a f (r := 13) rfl]; exact (a4 k k0 (by omega)).2
      have sp : ∀ i, G 0 2 - G 0 2 % 6 ≤ i → i ≤ G 0 2 → B 64 i = G 5 i - (G 4 i + plS (G 0) (G 1) i 0 pre) ∧ 0 ≤ B 64 i - G 1 k ∧ B 64 i ≤ 2147483647 := fun i j0 j1 => by
        have hz := hup i j0 j1
        have u1 := i3 i (by omega) (by omega) hz
        have u2 := hfk.2 i (by omega) (by omega) hz
        have u3 := a6 i (by omega) (by omega) hz
        have u4 := plS_bd hp i pre 0 hd
        rw [plS_a, Int.zero_add, hlJ, if_pos ⟨by omega, j1, by omega⟩] at u2
        omega
      have f52 : frm [64, 66, 67] [(63, 7)] A (qu B 66 2 k) := frm_q i1 rfl
      have e52 : (qu B 66 2 k) 64 = B 64 := qu_ne (by decide)
      obtain ⟨g1, g2⟩ := burden_is (c := G 0 2) (h := G 1 k) (B := qu B 66 2 k) c0 c1 (fun i j0 j1 => by
        rw [e52]
        have := sp i j0 j1
        exact ⟨by omega, by omega⟩)
      rw [e52] at g2
      have f61 : frm [64, 66, 67] [(63, 7)] A (fC_burden (G 0 2) (G 1 k) (qu B 66 2 k)) := frm_c f52 g1 rfl
      have e66 : (fC_burden (G 0 2) (G 1 k) (qu B 66 2 k)) 66 = (qu B 66 2 k) 66 := frm_a g1 rfl
      rw [b13 _ f61]
      have hI2 : plI G A (fC_burden (G 0 2) (G 1 k) (qu B 66 2 k)) (pre ++ [k]) := by
        refine ⟨f61, ?_, fun c d0 d1 z => ?_⟩
        · rw [List.length_append, List.length_singleton, rw_a, e66, Int.zero_add, hlJ, qu_at, rw_e (g := B 66) pre.length 0 (fun j j0 j1 => qu_nj (by omega)), i2]
        · rw [g2 c, plS_a, Int.zero_add, hlJ]
          have u1 := i3 c d0 d1 z
          by_cases w : G 0 2 - G 0 2 % 6 ≤ c ∧ c ≤ G 0 2
          · rw [if_pos w, if_pos ⟨by omega, w.2, by omega⟩]; omega
          · rw [if_neg w, if_neg (fun v => w ⟨by omega, v.2.1⟩)]; omega
      have hbe : bs n (fC_burden (G 0 2) (G 1 k) (qu B 66 2 k)) = bs n B := by
        unfold bs
        rw [frm_f g1 (r := 63) (j := 7) rfl, frm_a g1 (r := 67) rfl, qu_ne (show (63 : Nat) ≠ 66 by decide), qu_ne (show (67 : Nat) ≠ 66 by decide)]
      have hwb := wtS_bd hp pre hd
      have hmb := mul_bd (a := G 1 k) (b := G 2 k) (p := 200) (q := 99) (by omega) hk.2.1 hk.2.2.1 hk.2.2.2
      have hws : wI (wtS (G 1) (G 2) pre + G 1 k * G 2 k) = wtS (G 1) (G 2) (pre ++ [k]) := by
        rw [wtS_a, if_neg (show ¬ k = -1 by omega), Int.mul_comm (G 2 k) (G 1 k)]
        exact wI_id ⟨by omega, by omega⟩
      rw [hws, show wI (2 + 1) = 3 from wI_id ⟨by decide, by decide⟩]
      obtain ⟨t1, t2⟩ := try3_is hA hp hI2 (by rw [List.length_append, List.length_singleton, hl]) (by omega) hfk (dgs_a hd hdk)
      rw [show n - 3 = m by omega, hbe] at t2
      generalize fC_burden (G 0 2) (G 1 k) (qu B 66 2 k) = D1 at g1 g2 f61 e66 hI2 hbe t1 t2 ⊢
      generalize fC_tryCell3 3 (wtS (G 1) (G 2) (pre ++ [k])) D1 = D2 at t1 t2 ⊢
      obtain ⟨v1, v2, v3⟩ := t1
      have w64 : ∀ i, G 0 2 - G 0 2 % 6 ≤ i → i ≤ G 0 2 → D2 64 i = B 64 i - G 1 k := fun i j0 j1 => by
        have u1 := v3 i (by omega) (by omega) (hup i j0 j1)
        have u2 := sp i j0 j1
        rw [plS_a, Int.zero_add, hlJ, if_pos ⟨by omega, j1, by omega⟩] at u1
        omega
      rw [show wI (-G 1 k) = -G 1 k from wI_id ⟨by omega, by omega⟩]
      obtain ⟨p1, p2⟩ := burden_is (c := G 0 2) (h := -G 1 k) (B := D2) c0 c1 (fun i j0 j1 => by
        have := sp i j0 j1
        rw [w64 i j0 j1]
        exact ⟨by omega, by omega⟩)
      have hI3 : plI G A (fC_burden (G 0 2) (-G 1 k) D2) pre := by
        refine ⟨frm_c v1 p1 rfl, ?_, fun c d0 d1 z => ?_⟩
        · rw [frm_a p1 (r := 66) rfl]
          rw [List.length_append, List.length_singleton, rw_a] at v2
          exact (List.append_inj v2 (rw_len _ _ _)).1
        · rw [p2 c]
          have u1 := v3 c d0 d1 z
          rw [plS_a, Int.zero_add, hlJ] at u1
          by_cases w : G 0 2 - G 0 2 % 6 ≤ c ∧ c ≤ G 0 2
          · rw [if_pos ⟨by omega, w.2, by omega⟩] at u1
            rw [if_pos w]; omega
          · rw [if_neg (fun v => w ⟨by omega, v.2.1⟩)] at u1
            rw [if_neg w]; omega
      have hb3 : bs n (fC_burden (G 0 2) (-G 1 k) D2) = blk G m (pre ++ [k]) (bs n B) := by
        rw [← t2]
        unfold bs
        rw [frm_f p1 (r := 63) (j := 7) rfl, frm_a p1 (r := 67) rfl]
      rw [← hb3]
      exact try2_L hA hp hl hm hf hd r F (k + 1) _ (by omega) (by omega) hI3
    · rw [q, if_pos (rfl : (0 : Int) = 0), blk_bad hp m (pre ++ [k]) (bs n B) hfk]
      exact try2_L hA hp hl hm hf hd r F (k + 1) B (by omega) (by omega) hI
theorem try2_is {G : qA} {n : Nat} {A B : qA} {pre : List Int} (hA : plA G n A) (hp : rpos G) (hI : plI G A B pre) (hl : pre.length = 2) (hn : 2 ≤ n) (hf : fea G pre) (hd : dgs pre) : plI G A (fC_tryCell2 2 (wtS (G 1) (G 2) pre) B) pre ∧ bs n (fC_tryCell2 2 (wtS (G 1) (G 2) pre) B) = blk G (n - 2) pre (bs n B) := by
  have h63 : B 63 (fd 6) = n := by rw [frm_f hI.1 (r := 63) (j := 6) rfl]; exact hA.1.1
  unfold fC_tryCell2
  simp only [qlet_e]
  rw [h63]
  by_cases q : (2 : Int) < n
  · rw [if_pos q, show wI (2 + 1) = 3 from wI_id ⟨by decide, by decide⟩]
    obtain ⟨m, hm⟩ : ∃ m, n = 2 + 1 + m := ⟨n - (2 + 1), by omega⟩
    have hfn : fea G (pre ++ [-1]) := fea_n.mpr hf
    have hdn : dgs (pre ++ [-1]) := dgs_a hd ⟨by decide, by decide⟩
    have hlJ : (pre.length : Int) = 2 := by omega
    have hI2 : plI G A (qu B 66 2 (-1)) (pre ++ [-1]) := by
      obtain ⟨i1, i2, i3⟩ := hI
      refine ⟨frm_q i1 rfl, ?_, fun c d0 d1 z => ?_⟩
      · rw [List.length_append, List.length_singleton, rw_a, Int.zero_add, hlJ, qu_at, rw_e (g := B 66) pre.length 0 (fun j j0 j1 => qu_nj (by omega)), i2]
      · rw [qu_ne (by decide), plS_a, if_neg (fun w => w.1 rfl), Int.add_zero]
        exact i3 c d0 d1 z
    have hw : wtS (G 1) (G 2) pre = wtS (G 1) (G 2) (pre ++ [-1]) := by rw [wtS_a, if_pos rfl, Int.add_zero]
    have hb : bs n (qu B 66 2 (-1)) = bs n B := by
      unfold bs
      rw [qu_ne (show (63 : Nat) ≠ 66 by decide), qu_ne (show (67 : Nat) ≠ 66 by decide)]
    obtain ⟨t1, t2⟩ := try3_is hA hp hI2 (by rw [List.length_append, List.length_singleton, hl]) (by omega) hfn hdn
    rw [← hw] at t1 t2
    rw [show n - 3 = m by omega, hb] at t2
    generalize fC_tryCell3 3 (wtS (G 1) (G 2) pre) (qu B 66 2 (-1)) = D at t1 t2 ⊢
    have hI3 : plI G A D pre := by
      obtain ⟨v1, v2, v3⟩ := t1
      refine ⟨v1, ?_, fun c d0 d1 z => ?_⟩
      · rw [List.length_append, List.length_singleton, rw_a] at v2
        exact (List.append_inj v2 (rw_len _ _ _)).1
      · have := v3 c d0 d1 z
        rw [plS_a, if_neg (fun w => w.1 rfl), Int.add_zero] at this
        exact this
    obtain ⟨F, g⟩ : ∃ F : Nat, F + 6 + 1 = 100000 := ⟨99993, by decide⟩
    obtain ⟨l1, l2⟩ := try2_L hA hp hl hm hf hd 6 F 0 D (by decide) (by decide) hI3
    rw [g] at l1 l2
    rw [t2] at l2
    rw [show n - 2 = m + 1 by omega]
    exact ⟨l1, l2⟩
  · rw [if_neg q, show n - 2 = 0 by omega]
    exact leaf_is hA hI (by omega) hf _ rfl
theorem try1_L {G : qA} {n m : Nat} {A : qA} (hA : plA G n A) (hp : rpos G) {pre : List Int} (hl : pre.length = 1) (hm : n = 1 + 1 + m) (hf : fea G pre) (hd : dgs pre) : ∀ (r F : Nat) (k : Int) (B : qA), k + r = 6 → 0 ≤ k → plI G A B pre → plI G A (fC_tryCell1_L (F + r + 1) 36 [1, wtS (G 1) (G 2) pre, k] B) pre ∧ bs n (fC_tryCell1_L (F + r + 1) 36 [1, wtS (G 1) (G 2) pre, k] B) = fdg (fun d s => blk G m (pre ++ [d]) s) r (bs n B)
  | 0, F, k, B, hr, k0, hI => by
    rw [fC_tryCell1_L36]
    unfold fC_tryCell1_c36
    simp only [qlet]
    rw [if_neg (show ¬ k < 6 by omega)]
    exact ⟨hI, rfl⟩
  | r + 1, F, k, B, hr, k0, hI => by
    rw [show F + (r + 1) + 1 = (F + r + 1) + 1 by omega, fC_tryCell1_L36]
    unfold fC_tryCell1_c36
    simp only [qlet]
    have hk5 : (5 : Int) - r = k := by omega
    obtain ⟨⟨a1, a2⟩, a3, a4, a5, a6⟩ := id hA
    obtain ⟨i1, i2, i3⟩ := id hI
    have hlJ : (pre.length : Int) = 1 := by omega
    obtain ⟨e65, c0, c1, hup⟩ := a3 1 (by omega) (by omega)
    have b12 : B 12 k = G 1 k := by rw [frm_a i1 (r := 12) rfl]; exact (a4 k k0 (by omega)).1
    have b65 : B 65 1 = G 0 1 := by rw [frm_a i1 (r := 65) rfl]; exact e65
    rw [if_pos (show k < 6 by omega), b12, b65, show wI (k + 1) = k + 1 from wI_id ⟨by omega, by omega⟩]
    show _ ∧ _ = fdg (fun d s => blk G m (pre ++ [d]) s) r (blk G m (pre ++ [5 - (r : Int)]) (bs n B))
    rw [hk5]
    have hfit := fits_is hA hp hI (by omega) hf k0 (show k ≤ 5 by omega)
    rw [hlJ] at hfit
    rcases hfit with ⟨q, hfk⟩ | ⟨q, hfk⟩
    · rw [q, if_neg (show ¬ (1 : Int) = 0 by decide)]
      have hk := hp k k0 (by omega)
      have hdk : dig k := ⟨by omega, by omega⟩
      have b13 : ∀ D : qA, frm [64, 66, 67] [(63, 7)] A D → D 13 k = G 2 k := fun D f => by rw [frm_a f (r := 13) rfl]; exact (a4 k k0 (by omega)).2
      have sp : ∀ i, G 0 1 - G 0 1 % 6 ≤ i → i ≤ G 0 1 → B 64 i = G 5 i - (G 4 i + plS (G 0) (G 1) i 0 pre) ∧ 0 ≤ B 64 i - G 1 k ∧ B 64 i ≤ 2147483647 := fun i j0 j1 => by
        have hz := hup i j0 j1
        have u1 := i3 i (by omega) (by omega) hz
        have u2 := hfk.2 i (by omega) (by omega) hz
        have u3 := a6 i (by omega) (by omega) hz
        have u4 := plS_bd hp i pre 0 hd
        rw [plS_a, Int.zero_add, hlJ, if_pos ⟨by omega, j1, by omega⟩] at u2
        omega
      have f52 : frm [64, 66, 67] [(63, 7)] A (qu B 66 1 k) := frm_q i1 rfl
      have e52 : (qu B 66 1 k) 64 = B 64 := qu_ne (by decide)
      obtain ⟨g1, g2⟩ := burden_is (c := G 0 1) (h := G 1 k) (B := qu B 66 1 k) c0 c1 (fun i j0 j1 => by
        rw [e52]
        have := sp i j0 j1
        exact ⟨by omega, by omega⟩)
      rw [e52] at g2
      have f61 : frm [64, 66, 67] [(63, 7)] A (fC_burden (G 0 1) (G 1 k) (qu B 66 1 k)) := frm_c f52 g1 rfl
      have e66 : (fC_burden (G 0 1) (G 1 k) (qu B 66 1 k)) 66 = (qu B 66 1 k) 66 := frm_a g1 rfl
      rw [b13 _ f61]
      have hI2 : plI G A (fC_burden (G 0 1) (G 1 k) (qu B 66 1 k)) (pre ++ [k]) := by
        refine ⟨f61, ?_, fun c d0 d1 z => ?_⟩
        · rw [List.length_append, List.length_singleton, rw_a, e66, Int.zero_add, hlJ, qu_at, rw_e (g := B 66) pre.length 0 (fun j j0 j1 => qu_nj (by omega)), i2]
        · rw [g2 c, plS_a, Int.zero_add, hlJ]
          have u1 := i3 c d0 d1 z
          by_cases w : G 0 1 - G 0 1 % 6 ≤ c ∧ c ≤ G 0 1
          · rw [if_pos w, if_pos ⟨by omega, w.2, by omega⟩]; omega
          · rw [if_neg w, if_neg (fun v => w ⟨by omega, v.2.1⟩)]; omega
      have hbe : bs n (fC_burden (G 0 1) (G 1 k) (qu B 66 1 k)) = bs n B := by
        unfold bs
        rw [frm_f g1 (r := 63) (j := 7) rfl, frm_a g1 (r := 67) rfl, qu_ne (show (63 : Nat) ≠ 66 by decide), qu_ne (show (67 : Nat) ≠ 66 by decide)]
      have hwb := wtS_bd hp pre hd
      have hmb := mul_bd (a := G 1 k) (b := G 2 k) (p := 200) (q := 99) (by omega) hk.2.1 hk.2.2.1 hk.2.2.2
      have hws : wI (wtS (G 1) (G 2) pre + G 1 k * G 2 k) = wtS (G 1) (G 2) (pre ++ [k]) := by
        rw [wtS_a, if_neg (show ¬ k = -1 by omega), Int.mul_comm (G 2 k) (G 1 k)]
        exact wI_id ⟨by omega, by omega⟩
      rw [hws, show wI (1 + 1) = 2 from wI_id ⟨by decide, by decide⟩]
      obtain ⟨t1, t2⟩ := try2_is hA hp hI2 (by rw [List.length_append, List.length_singleton, hl]) (by omega) hfk (dgs_a hd hdk)
      rw [show n - 2 = m by omega, hbe] at t2
      generalize fC_burden (G 0 1) (G 1 k) (qu B 66 1 k) = D1 at g1 g2 f61 e66 hI2 hbe t1 t2 ⊢
      generalize fC_tryCell2 2 (wtS (G 1) (G 2) (pre ++ [k])) D1 = D2 at t1 t2 ⊢
      obtain ⟨v1, v2, v3⟩ := t1
      have w64 : ∀ i, G 0 1 - G 0 1 % 6 ≤ i → i ≤ G 0 1 → D2 64 i = B 64 i - G 1 k := fun i j0 j1 => by
        have u1 := v3 i (by omega) (by omega) (hup i j0 j1)
        have u2 := sp i j0 j1
        rw [plS_a, Int.zero_add, hlJ, if_pos ⟨by omega, j1, by omega⟩] at u1
        omega
      rw [show wI (-G 1 k) = -G 1 k from wI_id ⟨by omega, by omega⟩]
      obtain ⟨p1, p2⟩ := burden_is (c := G 0 1) (h := -G 1 k) (B := D2) c0 c1 (fun i j0 j1 => by
        have := sp i j0 j1
        rw [w64 i j0 j1]
        exact ⟨by omega, by omega⟩)
      have hI3 : plI G A (fC_burden (G 0 1) (-G 1 k) D2) pre := by
        refine ⟨frm_c v1 p1 rfl, ?_, fun c d0 d1 z => ?_⟩
        · rw [frm_a p1 (r := 66) rfl]
          rw [List.length_append, List.length_singleton, rw_a] at v2
          exact (List.append_inj v2 (rw_len _ _ _)).1
        · rw [p2 c]
          have u1 := v3 c d0 d1 z
          rw [plS_a, Int.zero_add, hlJ] at u1
          by_cases w : G 0 1 - G 0 1 % 6 ≤ c ∧ c ≤ G 0 1
          · rw [if_pos ⟨by omega, w.2, by omega⟩] at u1
            rw [if_pos w]; omega
          · rw [if_neg (fun v => w ⟨by omega, v.2.1⟩)] at u1
            rw [if_neg w]; omega
      have hb3 : bs n (fC_burden (G 0 1) (-G 1 k) D2) = blk G m (pre ++ [k]) (bs n B) := by
        rw [← t2]
        unfold bs
        rw [frm_f p1 (r := 63) (j := 7) rfl, frm_a p1 (r := 67) rfl]
      rw [← hb3]
      exact try1_L hA hp hl hm hf hd r F (k + 1) _ (by omega) (by omega) hI3
    · rw [q, if_pos (rfl : (0 : Int) = 0), blk_bad hp m (pre ++ [k]) (bs n B) hfk]
      exact try1_L hA hp hl hm hf hd r F (k + 1) B (by omega) (by omega) hI
theorem try1_is {G : qA} {n : Nat} {A B : qA} {pre : List Int} (hA : plA G n A) (hp : rpos G) (hI : plI G A B pre) (hl : pre.length = 1) (hn : 1 ≤ n) (hf : fea G pre) (hd : dgs pre) : plI G A (fC_tryCell1 1 (wtS (G 1) (G 2) pre) B) pre ∧ bs n (fC_tryCell1 1 (wtS (G 1) (G 2) pre) B) = blk G (n - 1) pre (bs n B) := by
  have h63 : B 63 (fd 6) = n := by rw [frm_f hI.1 (r := 63) (j := 6) rfl]; exact hA.1.1
  unfold fC_tryCell1
  simp only [qlet_e]
  rw [h63]
  by_cases q : (1 : Int) < n
  · rw [if_pos q, show wI (1 + 1) = 2 from wI_id ⟨by decide, by decide⟩]
    obtain ⟨m, hm⟩ : ∃ m, n = 1 + 1 + m := ⟨n - (1 + 1), by omega⟩
    have hfn : fea G (pre ++ [-1]) := fea_n.mpr hf
    have hdn : dgs (pre ++ [-1]) := dgs_a hd ⟨by decide, by decide⟩
    have hlJ : (pre.length : Int) = 1 := by omega
    have hI2 : plI G A (qu B 66 1 (-1)) (pre ++ [-1]) := by
      obtain ⟨i1, i2, i3⟩ := hI
      refine ⟨frm_q i1 rfl, ?_, fun c d0 d1 z => ?_⟩
      · rw [List.length_append, List.length_singleton, rw_a, Int.zero_add, hlJ, qu_at, rw_e (g := B 66) pre.length 0 (fun j j0 j1 => qu_nj (by omega)), i2]
      · rw [qu_ne (by decide), plS_a, if_neg (fun w => w.1 rfl), Int.add_zero]
        exact i3 c d0 d1 z
    have hw : wtS (G 1) (G 2) pre = wtS (G 1) (G 2) (pre ++ [-1]) := by rw [wtS_a, if_pos rfl, Int.add_zero]
    have hb : bs n (qu B 66 1 (-1)) = bs n B := by
      unfold bs
      rw [qu_ne (show (63 : Nat) ≠ 66 by decide), qu_ne (show (67 : Nat) ≠ 66 by decide)]
    obtain ⟨t1, t2⟩ := try2_is hA hp hI2 (by rw [List.length_append, List.length_singleton, hl]) (by omega) hfn hdn
    rw [← hw] at t1 t2
    rw [show n - 2 = m by omega, hb] at t2
    generalize fC_tryCell2 2 (wtS (G 1) (G 2) pre) (qu B 66 1 (-1)) = D at t1 t2 ⊢
    have hI3 : plI G A D pre := by
      obtain ⟨v1, v2, v3⟩ := t1
      refine ⟨v1, ?_, fun c d0 d1 z => ?_⟩
      · rw [List.length_append, List.length_singleton, rw_a] at v2
        exact (List.append_inj v2 (rw_len _ _ _)).1
      · have := v3 c d0 d1 z
        rw [plS_a, if_neg (fun w => w.1 rfl), Int.add_zero] at this
        exact this
    obtain ⟨F, g⟩ : ∃ F : Nat, F + 6 + 1 = 100000 := ⟨99993, by decide⟩
    obtain ⟨l1, l2⟩ := try1_L hA hp hl hm hf hd 6 F 0 D (by decide) (by decide) hI3
    rw [g] at l1 l2
    rw [t2] at l2
    rw [show n - 1 = m + 1 by omega]
    exact ⟨l1, l2⟩
  · rw [if_neg q, show n - 1 = 0 by omega]
    exact leaf_is hA hI (by omega) hf _ rfl
theorem try0_L {G : qA} {n m : Nat} {A : qA} (hA : plA G n A) (hp : rpos G) {pre : List Int} (hl : pre.length = 0) (hm : n = 0 + 1 + m) (hf : fea G pre) (hd : dgs pre) : ∀ (r F : Nat) (k : Int) (B : qA), k + r = 6 → 0 ≤ k → plI G A B pre → plI G A (fC_tryCell0_L (F + r + 1) 36 [0, wtS (G 1) (G 2) pre, k] B) pre ∧ bs n (fC_tryCell0_L (F + r + 1) 36 [0, wtS (G 1) (G 2) pre, k] B) = fdg (fun d s => blk G m (pre ++ [d]) s) r (bs n B)
  | 0, F, k, B, hr, k0, hI => by
    rw [fC_tryCell0_L36]
    unfold fC_tryCell0_c36
    simp only [qlet]
    rw [if_neg (show ¬ k < 6 by omega)]
    exact ⟨hI, rfl⟩
  | r + 1, F, k, B, hr, k0, hI => by
    rw [show F + (r + 1) + 1 = (F + r + 1) + 1 by omega, fC_tryCell0_L36]
    unfold fC_tryCell0_c36
    simp only [qlet]
    have hk5 : (5 : Int) - r = k := by omega
    obtain ⟨⟨a1, a2⟩, a3, a4, a5, a6⟩ := id hA
    obtain ⟨i1, i2, i3⟩ := id hI
    have hlJ : (pre.length : Int) = 0 := by omega
    obtain ⟨e65, c0, c1, hup⟩ := a3 0 (by omega) (by omega)
    have b12 : B 12 k = G 1 k := by rw [frm_a i1 (r := 12) rfl]; exact (a4 k k0 (by omega)).1
    have b65 : B 65 0 = G 0 0 := by rw [frm_a i1 (r := 65) rfl]; exact e65
    rw [if_pos (show k < 6 by omega), b12, b65, show wI (k + 1) = k + 1 from wI_id ⟨by omega, by omega⟩]
    show _ ∧ _ = fdg (fun d s => blk G m (pre ++ [d]) s) r (blk G m (pre ++ [5 - (r : Int)]) (bs n B))
    rw [hk5]
    have hfit := fits_is hA hp hI (by omega) hf k0 (show k ≤ 5 by omega)
    rw [hlJ] at hfit
    rcases hfit with ⟨q, hfk⟩ | ⟨q, hfk⟩
    · rw [q, if_neg (show ¬ (1 : Int) = 0 by decide)]
      have hk := hp k k0 (by omega)
      have hdk : dig k := ⟨by omega, by omega⟩
      have b13 : ∀ D : qA, frm [64, 66, 67] [(63, 7)] A D → D 13 k = G 2 k := fun D f => by rw [frm_a f (r := 13) rfl]; exact (a4 k k0 (by omega)).2
      have sp : ∀ i, G 0 0 - G 0 0 % 6 ≤ i → i ≤ G 0 0 → B 64 i = G 5 i - (G 4 i + plS (G 0) (G 1) i 0 pre) ∧ 0 ≤ B 64 i - G 1 k ∧ B 64 i ≤ 2147483647 := fun i j0 j1 => by
        have hz := hup i j0 j1
        have u1 := i3 i (by omega) (by omega) hz
        have u2 := hfk.2 i (by omega) (by omega) hz
        have u3 := a6 i (by omega) (by omega) hz
        have u4 := plS_bd hp i pre 0 hd
        rw [plS_a, Int.zero_add, hlJ, if_pos ⟨by omega, j1, by omega⟩] at u2
        omega
      have f52 : frm [64, 66, 67] [(63, 7)] A (qu B 66 0 k) := frm_q i1 rfl
      have e52 : (qu B 66 0 k) 64 = B 64 := qu_ne (by decide)
      obtain ⟨g1, g2⟩ := burden_is (c := G 0 0) (h := G 1 k) (B := qu B 66 0 k) c0 c1 (fun i j0 j1 => by
        rw [e52]
        have := sp i j0 j1
        exact ⟨by omega, by omega⟩)
      rw [e52] at g2
      have f61 : frm [64, 66, 67] [(63, 7)] A (fC_burden (G 0 0) (G 1 k) (qu B 66 0 k)) := frm_c f52 g1 rfl
      have e66 : (fC_burden (G 0 0) (G 1 k) (qu B 66 0 k)) 66 = (qu B 66 0 k) 66 := frm_a g1 rfl
      rw [b13 _ f61]
      have hI2 : plI G A (fC_burden (G 0 0) (G 1 k) (qu B 66 0 k)) (pre ++ [k]) := by
        refine ⟨f61, ?_, fun c d0 d1 z => ?_⟩
        · rw [List.length_append, List.length_singleton, rw_a, e66, Int.zero_add, hlJ, qu_at, rw_e (g := B 66) pre.length 0 (fun j j0 j1 => qu_nj (by omega)), i2]
        · rw [g2 c, plS_a, Int.zero_add, hlJ]
          have u1 := i3 c d0 d1 z
          by_cases w : G 0 0 - G 0 0 % 6 ≤ c ∧ c ≤ G 0 0
          · rw [if_pos w, if_pos ⟨by omega, w.2, by omega⟩]; omega
          · rw [if_neg w, if_neg (fun v => w ⟨by omega, v.2.1⟩)]; omega
      have hbe : bs n (fC_burden (G 0 0) (G 1 k) (qu B 66 0 k)) = bs n B := by
        unfold bs
        rw [frm_f g1 (r := 63) (j := 7) rfl, frm_a g1 (r := 67) rfl, qu_ne (show (63 : Nat) ≠ 66 by decide), qu_ne (show (67 : Nat) ≠ 66 by decide)]
      have hwb := wtS_bd hp pre hd
      have hmb := mul_bd (a := G 1 k) (b := G 2 k) (p := 200) (q := 99) (by omega) hk.2.1 hk.2.2.1 hk.2.2.2
      have hws : wI (wtS (G 1) (G 2) pre + G 1 k * G 2 k) = wtS (G 1) (G 2) (pre ++ [k]) := by
        rw [wtS_a, if_neg (show ¬ k = -1 by omega), Int.mul_comm (G 2 k) (G 1 k)]
        exact wI_id ⟨by omega, by omega⟩
      rw [hws, show wI (0 + 1) = 1 from wI_id ⟨by decide, by decide⟩]
      obtain ⟨t1, t2⟩ := try1_is hA hp hI2 (by rw [List.length_append, List.length_singleton, hl]) (by omega) hfk (dgs_a hd hdk)
      rw [show n - 1 = m by omega, hbe] at t2
      generalize fC_burden (G 0 0) (G 1 k) (qu B 66 0 k) = D1 at g1 g2 f61 e66 hI2 hbe t1 t2 ⊢
      generalize fC_tryCell1 1 (wtS (G 1) (G 2) (pre ++ [k])) D1 = D2 at t1 t2 ⊢
      obtain ⟨v1, v2, v3⟩ := t1
      have w64 : ∀ i, G 0 0 - G 0 0 % 6 ≤ i → i ≤ G 0 0 → D2 64 i = B 64 i - G 1 k := fun i j0 j1 => by
        have u1 := v3 i (by omega) (by omega) (hup i j0 j1)
        have u2 := sp i j0 j1
        rw [plS_a, Int.zero_add, hlJ, if_pos ⟨by omega, j1, by omega⟩] at u1
        omega
      rw [show wI (-G 1 k) = -G 1 k from wI_id ⟨by omega, by omega⟩]
      obtain ⟨p1, p2⟩ := burden_is (c := G 0 0) (h := -G 1 k) (B := D2) c0 c1 (fun i j0 j1 => by
        have := sp i j0 j1
        rw [w64 i j0 j1]
        exact ⟨by omega, by omega⟩)
      have hI3 : plI G A (fC_burden (G 0 0) (-G 1 k) D2) pre := by
        refine ⟨frm_c v1 p1 rfl, ?_, fun c d0 d1 z => ?_⟩
        · rw [frm_a p1 (r := 66) rfl]
          rw [List.length_append, List.length_singleton, rw_a] at v2
          exact (List.append_inj v2 (rw_len _ _ _)).1
        · rw [p2 c]
          have u1 := v3 c d0 d1 z
          rw [plS_a, Int.zero_add, hlJ] at u1
          by_cases w : G 0 0 - G 0 0 % 6 ≤ c ∧ c ≤ G 0 0
          · rw [if_pos ⟨by omega, w.2, by omega⟩] at u1
            rw [if_pos w]; omega
          · rw [if_neg (fun v => w ⟨by omega, v.2.1⟩)] at u1
            rw [if_neg w]; omega
      have hb3 : bs n (fC_burden (G 0 0) (-G 1 k) D2) = blk G m (pre ++ [k]) (bs n B) := by
        rw [← t2]
        unfold bs
        rw [frm_f p1 (r := 63) (j := 7) rfl, frm_a p1 (r := 67) rfl]
      rw [← hb3]
      exact try0_L hA hp hl hm hf hd r F (k + 1) _ (by omega) (by omega) hI3
    · rw [q, if_pos (rfl : (0 : Int) = 0), blk_bad hp m (pre ++ [k]) (bs n B) hfk]
      exact try0_L hA hp hl hm hf hd r F (k + 1) B (by omega) (by omega) hI
theorem try0_is {G : qA} {n : Nat} {A B : qA} {pre : List Int} (hA : plA G n A) (hp : rpos G) (hI : plI G A B pre) (hl : pre.length = 0) (hn : 0 ≤ n) (hf : fea G pre) (hd : dgs pre) : plI G A (fC_tryCell0 0 (wtS (G 1) (G 2) pre) B) pre ∧ bs n (fC_tryCell0 0 (wtS (G 1) (G 2) pre) B) = blk G (n - 0) pre (bs n B) := by
  have h63 : B 63 (fd 6) = n := by rw [frm_f hI.1 (r := 63) (j := 6) rfl]; exact hA.1.1
  unfold fC_tryCell0
  simp only [qlet_e]
  rw [h63]
  by_cases q : (0 : Int) < n
  · rw [if_pos q, show wI (0 + 1) = 1 from wI_id ⟨by decide, by decide⟩]
    obtain ⟨m, hm⟩ : ∃ m, n = 0 + 1 + m := ⟨n - (0 + 1), by omega⟩
    have hfn : fea G (pre ++ [-1]) := fea_n.mpr hf
    have hdn : dgs (pre ++ [-1]) := dgs_a hd ⟨by decide, by decide⟩
    have hlJ : (pre.length : Int) = 0 := by omega
    have hI2 : plI G A (qu B 66 0 (-1)) (pre ++ [-1]) := by
      obtain ⟨i1, i2, i3⟩ := hI
      refine ⟨frm_q i1 rfl, ?_, fun c d0 d1 z => ?_⟩
      · rw [List.length_append, List.length_singleton, rw_a, Int.zero_add, hlJ, qu_at, rw_e (g := B 66) pre.length 0 (fun j j0 j1 => qu_nj (by omega)), i2]
      · rw [qu_ne (by decide), plS_a, if_neg (fun w => w.1 rfl), Int.add_zero]
        exact i3 c d0 d1 z
    have hw : wtS (G 1) (G 2) pre = wtS (G 1) (G 2) (pre ++ [-1]) := by rw [wtS_a, if_pos rfl, Int.add_zero]
    have hb : bs n (qu B 66 0 (-1)) = bs n B := by
      unfold bs
      rw [qu_ne (show (63 : Nat) ≠ 66 by decide), qu_ne (show (67 : Nat) ≠ 66 by decide)]
    obtain ⟨t1, t2⟩ := try1_is hA hp hI2 (by rw [List.length_append, List.length_singleton, hl]) (by omega) hfn hdn
    rw [← hw] at t1 t2
    rw [show n - 1 = m by omega, hb] at t2
    generalize fC_tryCell1 1 (wtS (G 1) (G 2) pre) (qu B 66 0 (-1)) = D at t1 t2 ⊢
    have hI3 : plI G A D pre := by
      obtain ⟨v1, v2, v3⟩ := t1
      refine ⟨v1, ?_, fun c d0 d1 z => ?_⟩
      · rw [List.length_append, List.length_singleton, rw_a] at v2
        exact (List.append_inj v2 (rw_len _ _ _)).1
      · have := v3 c d0 d1 z
        rw [plS_a, if_neg (fun w => w.1 rfl), Int.add_zero] at this
        exact this
    obtain ⟨F, g⟩ : ∃ F : Nat, F + 6 + 1 = 100000 := ⟨99993, by decide⟩
    obtain ⟨l1, l2⟩ := try0_L hA hp hl hm hf hd 6 F 0 D (by decide) (by decide) hI3
    rw [g] at l1 l2
    rw [t2] at l2
    rw [show n - 0 = m + 1 by omega]
    exact ⟨l1, l2⟩
  · rw [if_neg q, show n - 0 = 0 by omega]
    exact leaf_is hA hI (by omega) hf _ rfl
