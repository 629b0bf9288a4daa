section PVU
variable {p : Program} {l : Launch} {e : Env} {R : Room} {s : State} {m : MethodId} {args : Array Value} {below : List Frame} {meth : Method} {c : Code} {H : Heap} {locs : List Loc} {cells slots : Nat} {Q : State → Prop}
variable {LK : List (List Nat)} {pr : List pv_M} {o : Nat} {rows : List pv_R} {own mn : String} {cc : ByteArray} {nL k pc len : Nat} {xs ps : List Nat} {lo : pv_L} {st : List Value} {h : pv_H} {ls : Array Slot} {c' : pv_C} {D : va_G} {cA : Nat → ClassId} {B : Nat} {A : Nat → Prop}
theorem pv_arr : Cond.arrayClass .int ∈ pv_T ∧ Cond.arrayClass .boolean ∈ pv_T ∧ Cond.arrayClass .byte ∈ pv_T ∧ Cond.arrayClass .long ∈ pv_T := by
  refine ⟨List.mem_filter.mpr ⟨?_, rfl⟩, List.mem_filter.mpr ⟨?_, rfl⟩, List.mem_filter.mpr ⟨?_, rfl⟩, List.mem_filter.mpr ⟨?_, rfl⟩⟩ <;> decide +kernel
set_option maxHeartbeats 8000000 in
theorem pv_step {i : Instr} (hLK : pv_LKs pr LK) (ho : pv_cn[o]? = some own) (S : pv_St p s m args meth c R cc own mn nL D cA B A) (hI : pv_I D cA B A s h H locs) (hl : lv_has ls nL (pv_l B lo)) (hd : decode cc pc = .ok (i, len)) (hok : pv_okx LK rows o mn nL k pc len i xs ps = true) (hx : pv_x i xs k lo st h = some c') (hB : h.length < c'.2.2.2.length → s.heap.size + cells = B + h.length) (hc : cells + c'.2.2.2.length ≤ R.cells + h.length) (hs : slots + pv_sl c'.2.2.2 ≤ R.slots + pv_sl h) (kk : pv_KK p l e R s m args below meth c cells slots Q rows nL D cA B A h c') : W p l e R s m args below meth c H locs cells slots Q (F0 m pc ls (st.map (pv_v B))) := by
  obtain ⟨⟨hex, hb, hml, hown, hts⟩, hmn, hK, hBs, hfr, hlo, hG9⟩ := id S
  obtain ⟨hP, hS, hAk⟩ := id hI
  cases i with
  | iconst n =>
    have hok : pv_nx rows k pc len 1 = true := hok
    obtain ⟨rfl, hn⟩ := pv_nx_inv hok
    obtain rfl : ((k + 1, lo, .int (Int32.ofInt n) :: st, h) : pv_C) = c' := Option.some.inj hx
    exact lv_iconst hex hb hd rfl (kk H locs ls cells slots _ hn hI hl rfl rfl)
  | bipush n =>
    have hok : pv_nx rows k pc len 2 = true := hok
    obtain ⟨rfl, hn⟩ := pv_nx_inv hok
    obtain rfl : ((k + 1, lo, .int (Int8.ofInt n).toInt32 :: st, h) : pv_C) = c' := Option.some.inj hx
    exact lv_bipush hex hb hd rfl (kk H locs ls cells slots _ hn hI hl rfl rfl)
  | sipush n =>
    have hok : pv_nx rows k pc len 3 = true := hok
    obtain ⟨rfl, hn⟩ := pv_nx_inv hok
    obtain rfl : ((k + 1, lo, .int (Int16.ofInt n).toInt32 :: st, h) : pv_C) = c' := Option.some.inj hx
    exact lv_sipush hex hb hd rfl (kk H locs ls cells slots _ hn hI hl rfl rfl)
  | lconst n =>
    have hok : pv_nx rows k pc len 1 = true := hok
    obtain ⟨rfl, hn⟩ := pv_nx_inv hok
    obtain rfl : ((k + 1, lo, .long (Int64.ofNat n) :: st, h) : pv_C) = c' := Option.some.inj hx
    exact lv_lconst hex hb hd rfl (kk H locs ls cells slots _ hn hI hl rfl rfl)
  | ldc idx =>
    rcases xs with _ | ⟨v, _ | ⟨x1, xr⟩⟩
    · simp [pv_okx] at hok
    · simp only [pv_x] at hx
      cases hx
      simp only [pv_okx] at hok
      split at hok
      · next v2 p0 e1 =>
        cases e1
        simp only [Bool.and_eq_true] at hok
        obtain ⟨rfl, hn⟩ := pv_nx_inv hok.1
        exact lv_ldc hex hb hown (hts _ (hLK.1 _ (pv_lk_inv hok.2) own ho)) hd (kk H locs ls cells slots _ hn hI hl rfl rfl)
      · cases hok
    · simp [pv_okx] at hok
  | ldc_w idx =>
    simp only [pv_x] at hx
    split at hx
    · next v =>
      cases hx
      simp only [pv_okx] at hok
      split at hok
      · next v2 p0 e1 =>
        cases e1
        simp only [Bool.and_eq_true] at hok
        obtain ⟨rfl, hn⟩ := pv_nx_inv hok.1
        exact lv_ldcw hex hb hown (hts _ (hLK.1 _ (pv_lk_inv hok.2) own ho)) hd (kk H locs ls cells slots _ hn hI hl rfl rfl)
      · cases hok
    · cases hx
  | ldc2_w idx =>
    simp only [pv_x] at hx
    split at hx
    · next v =>
      cases hx
      simp only [pv_okx] at hok
      split at hok
      · next v2 p0 e1 =>
        cases e1
        simp only [Bool.and_eq_true] at hok
        obtain ⟨rfl, hn⟩ := pv_nx_inv hok.1
        exact lv_ldc2 hex hb hown (hts _ (hLK.1 _ (pv_lk_inv hok.2) own ho)) hd (kk H locs ls cells slots _ hn hI hl rfl rfl)
      · cases hok
    · cases hx
  | iload i =>
    have hok : pv_nx rows k pc len 2 = true := hok
    obtain ⟨rfl, hn⟩ := pv_nx_inv hok
    obtain ⟨x, hg, rfl⟩ := pv_lod0 hx
    exact lv_iload hex hb hd (hl.2.2 _ (pv_l_get hg)) (kk H locs ls cells slots _ hn hI hl rfl rfl)
  | iload_n i =>
    have hok : pv_nx rows k pc len 1 = true := hok
    obtain ⟨rfl, hn⟩ := pv_nx_inv hok
    obtain ⟨x, hg, rfl⟩ := pv_lod0 hx
    exact lv_iload_n hex hb hd rfl (hl.2.2 _ (pv_l_get hg)) (kk H locs ls cells slots _ hn hI hl rfl rfl)
  | lload i =>
    have hok : pv_nx rows k pc len 2 = true := hok
    obtain ⟨rfl, hn⟩ := pv_nx_inv hok
    obtain ⟨x, hg, rfl⟩ := pv_lod1 hx
    exact lv_lload hex hb hd (hl.2.2 _ (pv_l_get hg)) (kk H locs ls cells slots _ hn hI hl rfl rfl)
  | lload_n i =>
    have hok : pv_nx rows k pc len 1 = true := hok
    obtain ⟨rfl, hn⟩ := pv_nx_inv hok
    obtain ⟨x, hg, rfl⟩ := pv_lod1 hx
    exact lv_lload_n hex hb hd rfl (hl.2.2 _ (pv_l_get hg)) (kk H locs ls cells slots _ hn hI hl rfl rfl)
  | aload i =>
    have hok : pv_nx rows k pc len 2 = true := hok
    obtain ⟨rfl, hn⟩ := pv_nx_inv hok
    obtain ⟨x, hg, rfl⟩ := pv_lod2 hx
    exact lv_aload hex hb hd (hl.2.2 _ (pv_l_get hg)) (kk H locs ls cells slots _ hn hI hl rfl rfl)
  | aload_n i =>
    have hok : pv_nx rows k pc len 1 = true := hok
    obtain ⟨rfl, hn⟩ := pv_nx_inv hok
    obtain ⟨x, hg, rfl⟩ := pv_lod2 hx
    exact lv_aload_n hex hb hd rfl (hl.2.2 _ (pv_l_get hg)) (kk H locs ls cells slots _ hn hI hl rfl rfl)
  | istore i =>
    have hok : (pv_nx rows k pc len 2 && decide (i < nL)) = true := hok
    simp only [Bool.and_eq_true, decide_eq_true_eq] at hok
    obtain ⟨rfl, hn⟩ := pv_nx_inv hok.1
    obtain ⟨x, r, rfl, rfl⟩ := pv_sto0 hx
    exact lv_istore hex hb hd hl hok.2 (pv_l_set1 B lo i (.int x)) (fun ls9 hl9 => kk H locs ls9 cells slots _ hn hI hl9 rfl rfl)
  | istore_n i =>
    have hok : (pv_nx rows k pc len 1 && decide (i.val < nL)) = true := hok
    simp only [Bool.and_eq_true, decide_eq_true_eq] at hok
    obtain ⟨rfl, hn⟩ := pv_nx_inv hok.1
    obtain ⟨x, r, rfl, rfl⟩ := pv_sto0 hx
    exact lv_istore_n hex hb hd rfl hl hok.2 (pv_l_set1 B lo i (.int x)) (fun ls9 hl9 => kk H locs ls9 cells slots _ hn hI hl9 rfl rfl)
  | lstore i =>
    have hok : (pv_nx rows k pc len 2 && decide (i + 1 < nL)) = true := hok
    simp only [Bool.and_eq_true, decide_eq_true_eq] at hok
    obtain ⟨rfl, hn⟩ := pv_nx_inv hok.1
    obtain ⟨x, r, rfl, rfl⟩ := pv_sto1 hx
    exact lv_lstore hex hb hd hl hok.2 (pv_l_set2 B lo i (.long x)) (fun ls9 hl9 => kk H locs ls9 cells slots _ hn hI hl9 rfl rfl)
  | lstore_n i =>
    have hok : (pv_nx rows k pc len 1 && decide (i.val + 1 < nL)) = true := hok
    simp only [Bool.and_eq_true, decide_eq_true_eq] at hok
    obtain ⟨rfl, hn⟩ := pv_nx_inv hok.1
    obtain ⟨x, r, rfl, rfl⟩ := pv_sto1 hx
    exact lv_lstore_n hex hb hd rfl hl hok.2 (pv_l_set2 B lo i (.long x)) (fun ls9 hl9 => kk H locs ls9 cells slots _ hn hI hl9 rfl rfl)
  | astore i =>
    have hok : (pv_nx rows k pc len 2 && decide (i < nL)) = true := hok
    simp only [Bool.and_eq_true, decide_eq_true_eq] at hok
    obtain ⟨rfl, hn⟩ := pv_nx_inv hok.1
    obtain ⟨x, r, rfl, rfl⟩ := pv_sto2 hx
    exact lv_astore hex hb hd hl hok.2 (pv_l_set1 B lo i (.ref x)) (fun ls9 hl9 => kk H locs ls9 cells slots _ hn hI hl9 rfl rfl)
  | astore_n i =>
    have hok : (pv_nx rows k pc len 1 && decide (i.val < nL)) = true := hok
    simp only [Bool.and_eq_true, decide_eq_true_eq] at hok
    obtain ⟨rfl, hn⟩ := pv_nx_inv hok.1
    obtain ⟨x, r, rfl, rfl⟩ := pv_sto2 hx
    exact lv_astore_n hex hb hd rfl hl hok.2 (pv_l_set1 B lo i (.ref x)) (fun ls9 hl9 => kk H locs ls9 cells slots _ hn hI hl9 rfl rfl)
  | iinc i n =>
    have hok : (pv_nx rows k pc len 3 && decide (i < nL)) = true := hok
    simp only [Bool.and_eq_true, decide_eq_true_eq] at hok
    obtain ⟨rfl, hn⟩ := pv_nx_inv hok.1
    simp only [pv_x] at hx
    split at hx
    · next x hg =>
      cases hx
      obtain ⟨k0, hk0⟩ := List.getElem?_of_mem (pv_l_get (B := B) hg)
      exact lv_iinc hex hb hd hl hk0 rfl hok.2 (pv_l_set1 B lo i (.int (x + Int32.ofInt n))) (fun ls9 hl9 => kk H locs ls9 cells slots _ hn hI hl9 rfl rfl)
    · cases hx
  | iadd =>
    have hok : pv_nx rows k pc len 1 = true := hok
    obtain ⟨rfl, hn⟩ := pv_nx_inv hok
    obtain ⟨x, y, r, rfl, rfl⟩ := pv_i2_inv hx
    exact lv_iadd hex hb hd (kk H locs ls cells slots _ hn hI hl rfl rfl)
  | isub =>
    have hok : pv_nx rows k pc len 1 = true := hok
    obtain ⟨rfl, hn⟩ := pv_nx_inv hok
    obtain ⟨x, y, r, rfl, rfl⟩ := pv_i2_inv hx
    exact lv_isub hex hb hd (kk H locs ls cells slots _ hn hI hl rfl rfl)
  | imul =>
    have hok : pv_nx rows k pc len 1 = true := hok
    obtain ⟨rfl, hn⟩ := pv_nx_inv hok
    obtain ⟨x, y, r, rfl, rfl⟩ := pv_i2_inv hx
    exact lv_imul hex hb hd (kk H locs ls cells slots _ hn hI hl rfl rfl)
  | iand =>
    have hok : pv_nx rows k pc len 1 = true := hok
    obtain ⟨rfl, hn⟩ := pv_nx_inv hok
    obtain ⟨x, y, r, rfl, rfl⟩ := pv_i2_inv hx
    exact lv_iand hex hb hd (kk H locs ls cells slots _ hn hI hl rfl rfl)
  | ior =>
    have hok : pv_nx rows k pc len 1 = true := hok
    obtain ⟨rfl, hn⟩ := pv_nx_inv hok
    obtain ⟨x, y, r, rfl, rfl⟩ := pv_i2_inv hx
    exact lv_ior hex hb hd (kk H locs ls cells slots _ hn hI hl rfl rfl)
  | ixor =>
    have hok : pv_nx rows k pc len 1 = true := hok
    obtain ⟨rfl, hn⟩ := pv_nx_inv hok
    obtain ⟨x, y, r, rfl, rfl⟩ := pv_i2_inv hx
    exact lv_ixor hex hb hd (kk H locs ls cells slots _ hn hI hl rfl rfl)
  | ishl =>
    have hok : pv_nx rows k pc len 1 = true := hok
    obtain ⟨rfl, hn⟩ := pv_nx_inv hok
    obtain ⟨x, y, r, rfl, rfl⟩ := pv_i2_inv hx
    exact lv_ishl hex hb hd (kk H locs ls cells slots _ hn hI hl rfl rfl)
  | ishr =>
    have hok : pv_nx rows k pc len 1 = true := hok
    obtain ⟨rfl, hn⟩ := pv_nx_inv hok
    obtain ⟨x, y, r, rfl, rfl⟩ := pv_i2_inv hx
    exact lv_ishr hex hb hd (kk H locs ls cells slots _ hn hI hl rfl rfl)
  | iushr =>
    have hok : pv_nx rows k pc len 1 = true := hok
    obtain ⟨rfl, hn⟩ := pv_nx_inv hok
    obtain ⟨x, y, r, rfl, rfl⟩ := pv_i2_inv hx
    exact lv_iushr hex hb hd rfl (kk H locs ls cells slots _ hn hI hl rfl rfl)
  | ladd =>
    have hok : pv_nx rows k pc len 1 = true := hok
    obtain ⟨rfl, hn⟩ := pv_nx_inv hok
    obtain ⟨x, y, r, rfl, rfl⟩ := pv_l2_inv hx
    exact lv_ladd hex hb hd (kk H locs ls cells slots _ hn hI hl rfl rfl)
  | lsub =>
    have hok : pv_nx rows k pc len 1 = true := hok
    obtain ⟨rfl, hn⟩ := pv_nx_inv hok
    obtain ⟨x, y, r, rfl, rfl⟩ := pv_l2_inv hx
    exact lv_lsub hex hb hd (kk H locs ls cells slots _ hn hI hl rfl rfl)
  | lmul =>
    have hok : pv_nx rows k pc len 1 = true := hok
    obtain ⟨rfl, hn⟩ := pv_nx_inv hok
    obtain ⟨x, y, r, rfl, rfl⟩ := pv_l2_inv hx
    exact lv_lmul hex hb hd (kk H locs ls cells slots _ hn hI hl rfl rfl)
  | land =>
    have hok : pv_nx rows k pc len 1 = true := hok
    obtain ⟨rfl, hn⟩ := pv_nx_inv hok
    obtain ⟨x, y, r, rfl, rfl⟩ := pv_l2_inv hx
    exact lv_land hex hb hd (kk H locs ls cells slots _ hn hI hl rfl rfl)
  | lor =>
    have hok : pv_nx rows k pc len 1 = true := hok
    obtain ⟨rfl, hn⟩ := pv_nx_inv hok
    obtain ⟨x, y, r, rfl, rfl⟩ := pv_l2_inv hx
    exact lv_lor hex hb hd (kk H locs ls cells slots _ hn hI hl rfl rfl)
  | lxor =>
    have hok : pv_nx rows k pc len 1 = true := hok
    obtain ⟨rfl, hn⟩ := pv_nx_inv hok
    obtain ⟨x, y, r, rfl, rfl⟩ := pv_l2_inv hx
    exact lv_lxor hex hb hd (kk H locs ls cells slots _ hn hI hl rfl rfl)
  | lshl =>
    have hok : pv_nx rows k pc len 1 = true := hok
    obtain ⟨rfl, hn⟩ := pv_nx_inv hok
    obtain ⟨x, y, r, rfl, rfl⟩ := pv_lsh_inv hx
    exact lv_lshl hex hb hd rfl (kk H locs ls cells slots _ hn hI hl rfl rfl)
  | lshr =>
    have hok : pv_nx rows k pc len 1 = true := hok
    obtain ⟨rfl, hn⟩ := pv_nx_inv hok
    obtain ⟨x, y, r, rfl, rfl⟩ := pv_lsh_inv hx
    exact lv_lshr hex hb hd rfl (kk H locs ls cells slots _ hn hI hl rfl rfl)
  | lushr =>
    have hok : pv_nx rows k pc len 1 = true := hok
    obtain ⟨rfl, hn⟩ := pv_nx_inv hok
    obtain ⟨x, y, r, rfl, rfl⟩ := pv_lsh_inv hx
    exact lv_lushr hex hb hd rfl (kk H locs ls cells slots _ hn hI hl rfl rfl)
  | idiv =>
    have hok : pv_nx rows k pc len 1 = true := hok
    obtain ⟨rfl, hn⟩ := pv_nx_inv hok
    simp only [pv_x] at hx
    split at hx
    · next y x r =>
      by_cases hy : y = 0
      · rw [if_pos hy] at hx; cases hx
      · rw [if_neg hy] at hx; cases hx
        exact lv_idiv hex hb hd hy (kk H locs ls cells slots _ hn hI hl rfl rfl)
    · cases hx
  | irem =>
    have hok : pv_nx rows k pc len 1 = true := hok
    obtain ⟨rfl, hn⟩ := pv_nx_inv hok
    simp only [pv_x] at hx
    split at hx
    · next y x r =>
      by_cases hy : y = 0
      · rw [if_pos hy] at hx; cases hx
      · rw [if_neg hy] at hx; cases hx
        exact lv_irem hex hb hd hy (kk H locs ls cells slots _ hn hI hl rfl rfl)
    · cases hx
  | ldiv =>
    have hok : pv_nx rows k pc len 1 = true := hok
    obtain ⟨rfl, hn⟩ := pv_nx_inv hok
    simp only [pv_x] at hx
    split at hx
    · next y x r =>
      by_cases hy : y = 0
      · rw [if_pos hy] at hx; cases hx
      · rw [if_neg hy] at hx; cases hx
        exact lv_ldiv hex hb hd hy (kk H locs ls cells slots _ hn hI hl rfl rfl)
    · cases hx
  | lrem =>
    have hok : pv_nx rows k pc len 1 = true := hok
    obtain ⟨rfl, hn⟩ := pv_nx_inv hok
    simp only [pv_x] at hx
    split at hx
    · next y x r =>
      by_cases hy : y = 0
      · rw [if_pos hy] at hx; cases hx
      · rw [if_neg hy] at hx; cases hx
        exact lv_lrem hex hb hd hy (kk H locs ls cells slots _ hn hI hl rfl rfl)
    · cases hx
  | ineg =>
    have hok : pv_nx rows k pc len 1 = true := hok
    obtain ⟨rfl, hn⟩ := pv_nx_inv hok
    simp only [pv_x] at hx
    split at hx
    · next x r =>
      cases hx
      exact lv_ineg hex hb hd (kk H locs ls cells slots _ hn hI hl rfl rfl)
    · cases hx
  | i2l =>
    have hok : pv_nx rows k pc len 1 = true := hok
    obtain ⟨rfl, hn⟩ := pv_nx_inv hok
    simp only [pv_x] at hx
    split at hx
    · next x r =>
      cases hx
      exact lv_i2l hex hb hd rfl (kk H locs ls cells slots _ hn hI hl rfl rfl)
    · cases hx
  | l2i =>
    have hok : pv_nx rows k pc len 1 = true := hok
    obtain ⟨rfl, hn⟩ := pv_nx_inv hok
    simp only [pv_x] at hx
    split at hx
    · next x r =>
      cases hx
      exact lv_l2i hex hb hd rfl (kk H locs ls cells slots _ hn hI hl rfl rfl)
    · cases hx
  | i2b =>
    have hok : pv_nx rows k pc len 1 = true := hok
    obtain ⟨rfl, hn⟩ := pv_nx_inv hok
    simp only [pv_x] at hx
    split at hx
    · next x r =>
      cases hx
      exact lv_i2b hex hb hd rfl (kk H locs ls cells slots _ hn hI hl rfl rfl)
    · cases hx
  | i2c =>
    have hok : pv_nx rows k pc len 1 = true := hok
    obtain ⟨rfl, hn⟩ := pv_nx_inv hok
    simp only [pv_x] at hx
    split at hx
    · next x r =>
      cases hx
      exact lv_i2c hex hb hd rfl (kk H locs ls cells slots _ hn hI hl rfl rfl)
    · cases hx
  | lcmp =>
    have hok : pv_nx rows k pc len 1 = true := hok
    obtain ⟨rfl, hn⟩ := pv_nx_inv hok
    simp only [pv_x] at hx
    split at hx
    · next y x r =>
      cases hx
      exact W.lcmp hex hb hd (kk H locs ls cells slots _ hn hI hl rfl rfl)
    · cases hx
  | dup =>
    have hok : pv_nx rows k pc len 1 = true := hok
    obtain ⟨rfl, hn⟩ := pv_nx_inv hok
    simp only [pv_x] at hx
    split at hx
    · next v r =>
      by_cases hv : v.category = 1
      · rw [if_pos hv] at hx; cases hx
        exact lv_dup hex hb hd ((pv_v_cat B v).trans hv) (kk H locs ls cells slots _ hn hI hl rfl rfl)
      · rw [if_neg hv] at hx; cases hx
    · cases hx
  | pop =>
    have hok : pv_nx rows k pc len 1 = true := hok
    obtain ⟨rfl, hn⟩ := pv_nx_inv hok
    simp only [pv_x] at hx
    split at hx
    · next v r =>
      by_cases hv : v.category = 1
      · rw [if_pos hv] at hx; cases hx
        exact lv_pop hex hb hd ((pv_v_cat B v).trans hv) (kk H locs ls cells slots _ hn hI hl rfl rfl)
      · rw [if_neg hv] at hx; cases hx
    · cases hx
  | dup2 =>
    have hok : pv_nx rows k pc len 1 = true := hok
    obtain ⟨rfl, hn⟩ := pv_nx_inv hok
    simp only [pv_x] at hx
    split at hx
    · next v w r =>
      by_cases hv : v.category = 1 ∧ w.category = 1
      · rw [if_pos hv] at hx; cases hx
        exact lv_dup2_11 hex hb hd ((pv_v_cat B v).trans hv.1) ((pv_v_cat B w).trans hv.2) (kk H locs ls cells slots _ hn hI hl rfl rfl)
      · rw [if_neg hv] at hx; cases hx
    · cases hx
  | goto off =>
    simp only [pv_x] at hx
    split at hx
    · next t =>
      cases hx
      have hok : (len == 3 && pv_jp rows pc off t) = true := hok
      simp only [Bool.and_eq_true, beq_iff_eq] at hok
      obtain ⟨rfl, hj⟩ := hok
      exact lv_goto hex hb hd (pv_jp_inv hj) (kk H locs ls cells slots _ rfl hI hl rfl rfl)
    · cases hx
  | ifCond cd off =>
    exact pv_stepB1 S hI hl hd hok hx kk
  | if_icmp cd off =>
    exact pv_stepB2 S hI hl hd hok hx kk
  | getfield idx =>
    exact pv_stepGet hLK ho S hI hl hd hok hx kk
  | putfield idx =>
    exact pv_stepPut hLK ho S hI hl hd hok hx kk
  | tableswitch d lo9 hi9 offs =>
    simp only [pv_x] at hx
    split at hx
    · next t ts x r =>
      have hok : (pv_jp rows pc d t && decide (ts.length = offs.size) && (offs.toList.zip ts).all (fun q => pv_jp rows pc q.1 q.2)) = true := hok
      simp only [Bool.and_eq_true, decide_eq_true_eq] at hok
      obtain ⟨⟨hj, hsz⟩, hal⟩ := hok
      by_cases hr9 : x.toInt < lo9 ∨ hi9 < x.toInt
      · rw [if_pos hr9] at hx; cases hx
        exact lv_tableOut hex hb hd hr9 (pv_jp_inv hj) (kk H locs ls cells slots _ rfl hI hl rfl rfl)
      · rw [if_neg hr9] at hx
        split at hx
        · next t1 ht1 =>
          cases hx
          have hlt : (x.toInt - lo9).toNat < ts.length := (List.getElem?_eq_some_iff.mp ht1).1
          have hlt2 : (x.toInt - lo9).toNat < offs.size := by omega
          have hmem : (offs[(x.toInt - lo9).toNat], t1) ∈ offs.toList.zip ts := by
            apply List.mem_of_getElem? (i := (x.toInt - lo9).toNat)
            rw [List.getElem?_zip_eq_some]
            exact ⟨by simp [hlt2], ht1⟩
          have hj1 := pv_jp_inv (List.all_eq_true.mp hal _ hmem)
          exact lv_tableIn hex hb hd (fun q => hr9 (Or.inl q)) (fun q => hr9 (Or.inr q)) (by simp [hlt2]) hj1 (kk H locs ls cells slots _ rfl hI hl rfl rfl)
        · cases hx
    · cases hx
  | iaload =>
    have hok : pv_nx rows k pc len 1 = true := hok
    obtain ⟨rfl, hn⟩ := pv_nx_inv hok
    obtain ⟨i, a, r, n, f, rfl, ha, hin, rfl⟩ := pv_ald_inv hx
    exact va_iald hex hb hK.1 hP a 0 (pv_w_get ha) rfl hin hd (kk H locs ls cells slots _ hn hI hl rfl rfl)
  | baload =>
    have hok : pv_nx rows k pc len 1 = true := hok
    obtain ⟨rfl, hn⟩ := pv_nx_inv hok
    simp only [pv_x] at hx
    split at hx
    · next t =>
      by_cases ht : t = 1 ∨ t = 2
      · rw [if_pos ht] at hx
        obtain ⟨i, a, r, n, f, rfl, ha, hin, rfl⟩ := pv_ald_inv hx
        rcases ht with rfl | rfl
        · exact va_zald hex hb hK.1 hP a 1 (pv_w_get ha) rfl hin hd (kk H locs ls cells slots _ hn hI hl rfl rfl)
        · exact va_bald hex hb hK.1 hP a 2 (pv_w_get ha) rfl hin hd (kk H locs ls cells slots _ hn hI hl rfl rfl)
      · rw [if_neg ht] at hx; cases hx
    · cases hx
  | iastore =>
    have hok : pv_nx rows k pc len 1 = true := hok
    obtain ⟨rfl, hn⟩ := pv_nx_inv hok
    exact pv_stepAst (i9 := .iastore) 0 (fun x => x) hI hl hn hx (fun x i a r n f ha hin k9 => va_iast hex hb hK.1 hP (pv_D cA B h hAk) hS a 0 ha rfl hin hd k9) kk
  | bastore =>
    have hok : pv_nx rows k pc len 1 = true := hok
    obtain ⟨rfl, hn⟩ := pv_nx_inv hok
    simp only [pv_x] at hx
    split at hx
    · exact pv_stepAst (i9 := .bastore) 1 (vp_nar .boolean) hI hl hn hx (fun x i a r n f ha hin k9 => va_zast hex hb hK.1 hP (pv_D cA B h hAk) hS a 1 ha rfl hin hd k9) kk
    · exact pv_stepAst (i9 := .bastore) 2 (vp_nar .byte) hI hl hn hx (fun x i a r n f ha hin k9 => va_bast hex hb hK.1 hP (pv_D cA B h hAk) hS a 2 ha rfl hin hd k9) kk
    · cases hx
  | laload =>
    have hok : pv_nx rows k pc len 1 = true := hok
    obtain ⟨rfl, hn⟩ := pv_nx_inv hok
    simp only [pv_x] at hx
    split at hx
    · next i a r =>
      split at hx
      · next t9 n f ha =>
        by_cases ht : t9 = 3
        · rw [if_pos ht] at hx
          subst ht
          by_cases hi : i < 0 ∨ n ≤ i.toNatClampNeg
          · rw [if_pos hi] at hx; cases hx
          · rw [if_neg hi] at hx; cases hx
            exact va_lald hex hb hK.1 hP a 3 (pv_w_get ha) rfl hi hd (kk H locs ls cells slots _ hn hI hl rfl rfl)
        · rw [if_neg ht] at hx; cases hx
      · cases hx
    · cases hx
  | lastore =>
    have hok : pv_nx rows k pc len 1 = true := hok
    obtain ⟨rfl, hn⟩ := pv_nx_inv hok
    simp only [pv_x] at hx
    split at hx
    · next x i a r =>
      split at hx
      · next t9 n f ha =>
        by_cases ht : t9 = 3
        · rw [if_pos ht] at hx
          subst ht
          by_cases hi : i < 0 ∨ n ≤ i.toNatClampNeg
          · rw [if_pos hi] at hx; cases hx
          · rw [if_neg hi] at hx; cases hx
            refine va_last hex hb hK.1 hP (pv_D cA B h hAk) hS a 3 (pv_w_get ha) rfl hi hd (fun H1 locs1 hP1 _ hS1 => ?_)
            have hset : (pv_w cA B h).set a (B + a, .inl (cA 3, n, .inr (.inl (vp_updL f i.toNatClampNeg x)))) = pv_w cA B (h.set a (.inl (3, n, .inr (.inl (vp_updL f i.toNatClampNeg x))))) := by
              rw [pv_w_set]; rfl
            rw [hset] at hP1
            exact kk H1 locs1 ls cells slots _ hn ⟨hP1, hS1, fun k9 h9 => hAk k9 (by simpa using h9)⟩ hl (by simp) (by rw [pv_sl_set ha (by rfl)])
        · rw [if_neg ht] at hx; cases hx
      · cases hx
    · cases hx
  | arraylength =>
    have hok : pv_nx rows k pc len 1 = true := hok
    obtain ⟨rfl, hn⟩ := pv_nx_inv hok
    simp only [pv_x] at hx
    split at hx
    · next a r =>
      split at hx
      · next t9 n f ha =>
        by_cases ht : t9 < 4
        · rw [if_pos ht] at hx; cases hx
          have h4 : ∃ ty, (pv_ty cA)[t9]? = some (cA t9, ty) := by
            match t9, ht with
            | 0, _ => exact ⟨_, rfl⟩
            | 1, _ => exact ⟨_, rfl⟩
            | 2, _ => exact ⟨_, rfl⟩
            | 3, _ => exact ⟨_, rfl⟩
          obtain ⟨ty, hty⟩ := h4
          exact va_alen hex hb hK.1 hP a t9 (x := (n, f)) (pv_w_get ha) hty rfl hd (kk H locs ls cells slots _ hn hI hl rfl rfl)
        · rw [if_neg ht] at hx; cases hx
      · cases hx
    · cases hx
  | newarray ty9 =>
    have hok : pv_nx rows k pc len 2 = true := hok
    obtain ⟨rfl, hn⟩ := pv_nx_inv hok
    simp only [pv_x] at hx
    split at hx
    · next n r =>
      by_cases hcn : n < 0 ∨ 100000 < n.toNatClampNeg
      · rw [if_pos hcn] at hx; cases hx
      · rw [if_neg hcn] at hx; cases hx
        exact pv_newa 0 .int .int (fun N => (N, .inl (fun _ => 0))) S hI hl rfl (fun C q => by cases q) rfl pv_arr.1 (fun N cX => rfl) (fun N => rfl) (by decide) hd hn hcn (hB (by simp)) hc hs kk
    · next n r =>
      by_cases hcn : n < 0 ∨ 100000 < n.toNatClampNeg
      · rw [if_pos hcn] at hx; cases hx
      · rw [if_neg hcn] at hx; cases hx
        exact pv_newa 1 .boolean .boolean (fun N => (N, .inl (fun _ => 0))) S hI hl rfl (fun C q => by cases q) rfl pv_arr.2.1 (fun N cX => rfl) (fun N => rfl) (by decide) hd hn hcn (hB (by simp)) hc hs kk
    · next n r =>
      by_cases hcn : n < 0 ∨ 100000 < n.toNatClampNeg
      · rw [if_pos hcn] at hx; cases hx
      · rw [if_neg hcn] at hx; cases hx
        exact pv_newa 2 .byte .byte (fun N => (N, .inl (fun _ => 0))) S hI hl rfl (fun C q => by cases q) rfl pv_arr.2.2.1 (fun N cX => rfl) (fun N => rfl) (by decide) hd hn hcn (hB (by simp)) hc hs kk
    · next n r =>
      by_cases hcn : n < 0 ∨ 100000 < n.toNatClampNeg
      · rw [if_pos hcn] at hx; cases hx
      · rw [if_neg hcn] at hx; cases hx
        exact pv_newa 3 .long .long (fun N => (N, .inr (.inl (fun _ => 0)))) S hI hl rfl (fun C q => by cases q) rfl pv_arr.2.2.2 (fun N cX => rfl) (fun N => rfl) (by decide) hd hn hcn (hB (by simp)) hc hs kk
    · cases hx
  | new idx =>
    simp only [pv_x] at hx
    split at hx
    · next ci =>
      cases hx
      simp only [pv_okx] at hok
      split at hok
      · next ci2 p0 e1 =>
        cases e1
        simp only [Bool.and_eq_true] at hok
        obtain ⟨rfl, hn⟩ := pv_nx_inv hok.1
        replace hok := hok.2
        split at hok
        · next q hq =>
          obtain ⟨w1, w2, w3⟩ : Cond.classLink own idx q.1 ∈ pv_T ∧ Cond.instantiable q.1 q.2.2 ∈ pv_T ∧ Cond.initialized q.1 ∈ pv_T := hLK.1 _ (pv_lk_inv hok) own q ho hq
          exact pv_new S hI hl hq hd hn w1 w2 w3 (hB (by simp)) hc hs kk
        · cases hok
      · cases hok
    · cases hx
  | invokespecial idx =>
    simp only [pv_x] at hx
    split at hx
    · next a r =>
      by_cases hr9 : pv_cat r ≤ 8
      · rw [if_pos hr9] at hx; cases hx
        simp only [pv_okx] at hok
        split at hok
        · next p0 e1 =>
          simp only [Bool.and_eq_true] at hok
          obtain ⟨hnx, hlk⟩ := hok
          obtain ⟨rfl, hn⟩ := pv_nx_inv hnx
          obtain ⟨w1, w2, w3⟩ : Cond.methodLink own idx Lib.objectInit ∈ pv_T ∧ Cond.instanceMethod Lib.objectInit ∈ pv_T ∧ Cond.code Lib.objectInit ⟨#[0xb1]⟩ 1 none ∈ pv_T := hLK.1 _ (pv_lk_inv hlk) own ho
          refine W.objInit hex hb hown (hts _ w1) (hts _ w2) (hts _ w3) rfl (by rw [hml]; exact hl.1) rfl hd hfr ?_ ?_
          · show 2 * 0 + (((r.map (pv_v B)).map fun v => v.category)).sum + 12 ≤ R.locals
            rw [pv_cat_map]; omega
          · exact W.eq (g2 := F0 m (pc + 3) ls (r.map (pv_v B))) rfl (kk H locs ls cells slots _ hn hI hl rfl rfl)
        · cases hok
      · rw [if_neg hr9] at hx; cases hx
    · cases hx
  | invokestatic idx =>
    simp only [pv_x] at hx
    split at hx
    · next y x r =>
      by_cases hr9 : pv_cat r ≤ 8
      · rw [if_pos hr9] at hx; cases hx
        rcases ps with _ | ⟨p0, _ | ⟨p1, pr9⟩⟩ <;> try (cases hok; done)
        have hok : (pv_nx rows k pc len 3 && pv_lk LK p0 [6, o, idx, 0]) = true := hok
        dsimp only at hc hs
        simp only [Bool.and_eq_true] at hok
        obtain ⟨hnx, hlk⟩ := hok
        obtain ⟨rfl, hn⟩ := pv_nx_inv hnx
        obtain ⟨w1, w2, w3, w4⟩ : Cond.methodLink own idx Lib.Math.max.name ∈ pv_T ∧ Cond.static Lib.Math.max.name ∈ pv_T ∧ Cond.initialized "java/lang/Math" ∈ pv_T ∧ Cond.code Lib.Math.max.name Lib.Math.max.code 2 (some .int) ∈ pv_T := hLK.1 _ (pv_lk_inv hlk) own ho
        exact va_mmax hex hb (by rw [hml]; exact hl.1.symm) hown (hts _ w1) (hts _ w2) (hts _ w3) (hts _ w4) hfr (by rw [pv_cat_map]; omega) (by omega) (by omega) hd (kk H locs ls cells slots _ hn hI hl rfl rfl)
      · rw [if_neg hr9] at hx; cases hx
    · next y x r =>
      by_cases hr9 : pv_cat r ≤ 8
      · rw [if_pos hr9] at hx; cases hx
        rcases ps with _ | ⟨p0, _ | ⟨p1, pr9⟩⟩ <;> try (cases hok; done)
        have hok : (pv_nx rows k pc len 3 && pv_lk LK p0 [6, o, idx, 1]) = true := hok
        dsimp only at hc hs
        simp only [Bool.and_eq_true] at hok
        obtain ⟨hnx, hlk⟩ := hok
        obtain ⟨rfl, hn⟩ := pv_nx_inv hnx
        obtain ⟨w1, w2, w3, w4⟩ : Cond.methodLink own idx Lib.Math.min.name ∈ pv_T ∧ Cond.static Lib.Math.min.name ∈ pv_T ∧ Cond.initialized "java/lang/Math" ∈ pv_T ∧ Cond.code Lib.Math.min.name Lib.Math.min.code 2 (some .int) ∈ pv_T := hLK.1 _ (pv_lk_inv hlk) own ho
        exact va_mmin hex hb (by rw [hml]; exact hl.1.symm) hown (hts _ w1) (hts _ w2) (hts _ w3) (hts _ w4) hfr (by rw [pv_cat_map]; omega) (by omega) (by omega) hd (kk H locs ls cells slots _ hn hI hl rfl rfl)
      · rw [if_neg hr9] at hx; cases hx
    · next x r =>
      by_cases hr9 : pv_cat r ≤ 8
      · rw [if_pos hr9] at hx; cases hx
        rcases ps with _ | ⟨p0, _ | ⟨p1, pr9⟩⟩ <;> try (cases hok; done)
        have hok : (pv_nx rows k pc len 3 && pv_lk LK p0 [6, o, idx, 2]) = true := hok
        dsimp only at hc hs
        simp only [Bool.and_eq_true] at hok
        obtain ⟨hnx, hlk⟩ := hok
        obtain ⟨rfl, hn⟩ := pv_nx_inv hnx
        obtain ⟨w1, w2, w3, w4⟩ : Cond.methodLink own idx Lib.Math.abs.name ∈ pv_T ∧ Cond.static Lib.Math.abs.name ∈ pv_T ∧ Cond.initialized "java/lang/Math" ∈ pv_T ∧ Cond.code Lib.Math.abs.name Lib.Math.abs.code 1 (some .int) ∈ pv_T := hLK.1 _ (pv_lk_inv hlk) own ho
        exact va_mabs hex hb (by rw [hml]; exact hl.1.symm) hown (hts _ w1) (hts _ w2) (hts _ w3) (hts _ w4) hfr (by rw [pv_cat_map]; omega) (by omega) (by omega) hd (kk H locs ls cells slots _ hn hI hl rfl rfl)
      · rw [if_neg hr9] at hx; cases hx
    · next n dp a sp a0 r =>
      split at hx
      · next t0 n0 f t1 n1 g ha0 ha1 =>
        split at hx
        · next hq =>
          obtain ⟨rfl, rfl, hr9, h1, h2, h3, h4, h5⟩ := hq
          cases hx
          rcases ps with _ | ⟨p0, _ | ⟨p1, pr9⟩⟩ <;> try (cases hok; done)
          have hok : (pv_nx rows k pc len 3 && pv_lk LK p0 [6, o, idx, 3]) = true := hok
          simp only [Bool.and_eq_true] at hok
          obtain ⟨hnx, hlk⟩ := hok
          obtain ⟨rfl, hn⟩ := pv_nx_inv hnx
          obtain ⟨w1, w2, w3, w4⟩ : Cond.methodLink own idx arraycopyName ∈ pv_T ∧ Cond.static arraycopyName ∈ pv_T ∧ Cond.initialized "java/lang/System" ∈ pv_T ∧ Cond.native arraycopyName ∈ pv_T := hLK.1 _ (pv_lk_inv hlk) own ho
          refine va_copyi (ty := .int) hex hb (by rw [hml]; exact hl.1.symm) hown (hts _ w1) (hts _ w4) (hts _ w2) (hts _ w3) hK.1 hP (pv_D cA B h hAk) hS a0 a 0 0 (pv_w_get ha0) (pv_w_get ha1) rfl rfl rfl h1 h2 h3 h4 h5 (fun _ _ => rfl) hfr ?_ hd (fun H1 locs1 hP1 _ hS1 => ?_)
          · rw [pv_cat_map]
            have : nativeFrameWords "java/lang/System" "arraycopy" 5 ≤ 30 := by decide +kernel
            omega
          · have hset : (pv_w cA B h).set a (B + a, .inl (cA 0, n1, .inl (va_cpy f g sp.toNatClampNeg dp.toNatClampNeg n.toNatClampNeg))) = pv_w cA B (h.set a (.inl (0, n1, .inl (va_cpy f g sp.toNatClampNeg dp.toNatClampNeg n.toNatClampNeg)))) := by
              rw [pv_w_set]; rfl
            rw [hset] at hP1
            exact kk H1 locs1 ls cells slots _ hn ⟨hP1, hS1, fun k9 h9 => hAk k9 (by simpa using h9)⟩ hl (by simp) (by rw [pv_sl_set ha1 (by rfl)])
        · cases hx
      · cases hx
    · cases hx
  | lookupswitch d9 prs9 => cases hok
  | _ =>
    cases hx
end PVU
