theorem ab_x_ok {g k : Nat} {s : ab_S} {lo : pv_L} {st : List Value} {h : pv_H} {i : Instr} {xs : List Nat} (hs : ab_gs g s lo st h) : ab_ok g (ab_x i xs k s) (pv_x i xs k lo st h) := by
  cases i
  case iconst n => exact ab_psh_ok hs (ab_con_ok _) hs.2.2.1
  case bipush n => exact ab_psh_ok hs (ab_con_ok _) hs.2.2.1
  case sipush n => exact ab_psh_ok hs (ab_con_ok _) hs.2.2.1
  case lconst n => exact ab_psh_ok hs (ab_con64_ok _) hs.2.2.1
  case ldc c =>
    simp only [ab_x]
    split
    · exact ab_psh_ok hs (ab_con_ok _) hs.2.2.1
    · exact ab_no
  case ldc_w c =>
    simp only [ab_x]
    split
    · exact ab_psh_ok hs (ab_con_ok _) hs.2.2.1
    · exact ab_no
  case ldc2_w c =>
    simp only [ab_x]
    split
    · exact ab_psh_ok hs (ab_con64_ok _) hs.2.2.1
    · exact ab_no
  case iload i => exact ab_lod_ok hs
  case iload_n i => exact ab_lod_ok hs
  case lload i => exact ab_lod_ok hs
  case lload_n i => exact ab_lod_ok hs
  case aload i => exact ab_lod_ok hs
  case aload_n i => exact ab_lod_ok hs
  case istore i => exact ab_st10_ok hs
  case istore_n i => exact ab_st10_ok hs
  case lstore i => exact ab_st2_ok hs
  case lstore_n i => exact ab_st2_ok hs
  case astore i => exact ab_st12_ok hs
  case astore_n i => exact ab_st12_ok hs
  case iinc i n =>
    simp only [ab_x]
    split
    · next a ha =>
      split
      · next b hb =>
        obtain ⟨v, h1, h2⟩ := hs.2.1 i a ha
        have h3 : ∃ x, v = .int x := by
          rcases ab_kd_all h2 with ⟨q, x, rfl⟩ | ⟨q, x, rfl⟩ | ⟨q, x, rfl⟩ | q
          · exact ⟨x, rfl⟩
          · exact (ab_inc_kd hb (by rw [q]; decide)).elim
          · exact (ab_inc_kd hb (by rw [q]; decide)).elim
          · exact (ab_inc_kd hb (by rw [q]; decide)).elim
        obtain ⟨x, rfl⟩ := h3
        intro L hL
        cases hL
        exact ⟨_, _, _, _, _, by simp only [pv_x, h1], List.mem_singleton_self _, hs.1, ab_set1_ok hs.2.1 (ab_inc_ok hs.1 h2 hb), hs.2.2.1, hs.2.2.2⟩
      · exact ab_no
    · exact ab_no
  case iadd => exact ab_i2_ok ab_add_ok hs
  case isub => exact ab_i2_ok ab_sub_ok hs
  case imul => exact ab_i2_ok ab_mul_ok hs
  case iand => exact ab_i2_ok ab_and_ok hs
  case ior => exact ab_i2_ok (ab_ex_ok (fun x y => x ||| y)) hs
  case ixor => exact ab_i2_ok (ab_ex_ok (fun x y => x ^^^ y)) hs
  case ishl => exact ab_i2_ok (ab_ex_ok (fun x y => x <<< (y &&& 31))) hs
  case ishr => exact ab_i2_ok (ab_ex_ok (fun x y => x >>> (y &&& 31))) hs
  case iushr => exact ab_i2_ok (ab_ex_ok (fun x y => (x.toUInt32 >>> (y.toUInt32 &&& Int32.toUInt32 31)).toInt32)) hs
  case idiv =>
    simp only [ab_x]
    split
    · next y x r hst =>
      obtain ⟨vy, vx, st2, rfl, hy, hx, h4⟩ := ab_st_2 hs hst
      split
      · next p q hp hq =>
        obtain ⟨x', rfl, hx'⟩ := ab_iv_ok hs.1 hx hp
        obtain ⟨y', rfl, hy'⟩ := ab_iv_ok hs.1 hy hq
        cases hc : Nat.blt 2147483648 q.1 with
        | false => exact ab_no
        | true =>
          rw [cond_true]
          simp only [pv_x, if_neg (ab_nz hy' hc)]
          exact ab_psh_ok hs (ab_gv0 (ab_div_ok hx' hy')) h4
      · exact ab_no
    · exact ab_no
  case irem =>
    simp only [ab_x]
    split
    · next y x r hst =>
      obtain ⟨vy, vx, st2, rfl, hy, hx, h4⟩ := ab_st_2 hs hst
      split
      · next p q hp hq =>
        obtain ⟨x', rfl, hx'⟩ := ab_iv_ok hs.1 hx hp
        obtain ⟨y', rfl, hy'⟩ := ab_iv_ok hs.1 hy hq
        cases hc : Nat.blt 2147483648 q.1 with
        | false => exact ab_no
        | true =>
          rw [cond_true]
          simp only [pv_x, if_neg (ab_nz hy' hc)]
          exact ab_psh_ok hs (ab_gv0 (ab_rem_ok hx' hy')) h4
      · exact ab_no
    · exact ab_no
  case ineg =>
    simp only [ab_x, ab_i1]
    split
    · next x r hst =>
      obtain ⟨vx, st2, rfl, hx, h4⟩ := ab_st_1 hs hst
      split
      · next p hp =>
        obtain ⟨x', rfl, hx'⟩ := ab_iv_ok hs.1 hx hp
        exact ab_psh_ok hs (ab_gv0 (ab_e1_ok (f := fun x => -x) (ab_in_top _) hx')) h4
      · exact ab_no
    · exact ab_no
  case ladd => exact ab_l2_ok (ab_ex64_ok (fun x y => x + y)) hs
  case lsub => exact ab_l2_ok (ab_ex64_ok (fun x y => x - y)) hs
  case lmul => exact ab_l2_ok (ab_ex64_ok (fun x y => x * y)) hs
  case land => exact ab_l2_ok ab_lnd_ok hs
  case lor => exact ab_l2_ok (ab_ex64_ok (fun x y => x ||| y)) hs
  case lxor => exact ab_l2_ok (ab_ex64_ok (fun x y => x ^^^ y)) hs
  case ldiv =>
    simp only [ab_x]
    split
    · next y x r hst =>
      obtain ⟨vy, vx, st2, rfl, hy, hx, h4⟩ := ab_st_2 hs hst
      split
      · next p q hp hq =>
        obtain ⟨x', rfl, hx'⟩ := ab_lv_ok hx hp
        obtain ⟨y', rfl, hy'⟩ := ab_lv_ok hy hq
        cases hc : Nat.blt 0 q.1 with
        | false => exact ab_no
        | true =>
          rw [cond_true]
          simp only [pv_x, if_neg (ab_nz64 hy' hc)]
          exact ab_psh_ok hs (ab_gv2 (ab_ex64_ok (fun x y => x / y) hx' hy')) h4
      · exact ab_no
    · exact ab_no
  case lrem =>
    simp only [ab_x]
    split
    · next y x r hst =>
      obtain ⟨vy, vx, st2, rfl, hy, hx, h4⟩ := ab_st_2 hs hst
      split
      · next p q hp hq =>
        obtain ⟨x', rfl, hx'⟩ := ab_lv_ok hx hp
        obtain ⟨y', rfl, hy'⟩ := ab_lv_ok hy hq
        cases hc : Nat.blt 0 q.1 with
        | false => exact ab_no
        | true =>
          rw [cond_true]
          simp only [pv_x, if_neg (ab_nz64 hy' hc)]
          exact ab_psh_ok hs (ab_gv2 (ab_ex64_ok (fun x y => x - x / y * y) hx' hy')) h4
      · exact ab_no
    · exact ab_no
  case lshl => exact ab_ls_ok ab_z1 hs
  case lshr => exact ab_ls_ok ab_z2 hs
  case lushr => exact ab_ls_ok ab_z3 hs
  case lcmp =>
    simp only [ab_x, ab_l2]
    split
    · next y x r hst =>
      obtain ⟨vy, vx, st2, rfl, hy, hx, h4⟩ := ab_st_2 hs hst
      split
      · next p q hp hq =>
        obtain ⟨x', rfl, hx'⟩ := ab_lv_ok hx hp
        obtain ⟨y', rfl, hy'⟩ := ab_lv_ok hy hq
        exact ab_psh_ok hs (ab_gv0 (ab_lcm_ok hx' hy')) h4
      · exact ab_no
    · exact ab_no
  case i2l =>
    simp only [ab_x, ab_i1]
    split
    · next x r hst =>
      obtain ⟨vx, st2, rfl, hx, h4⟩ := ab_st_1 hs hst
      split
      · next p hp =>
        obtain ⟨x', rfl, hx'⟩ := ab_iv_ok hs.1 hx hp
        exact ab_psh_ok hs (ab_gv2 (ab_i2l_ok hx')) h4
      · exact ab_no
    · exact ab_no
  case l2i =>
    simp only [ab_x, ab_l1]
    split
    · next x r hst =>
      obtain ⟨vx, st2, rfl, hx, h4⟩ := ab_st_1 hs hst
      split
      · next p hp =>
        obtain ⟨x', rfl, hx'⟩ := ab_lv_ok hx hp
        exact ab_psh_ok hs (ab_gv0 (ab_l2i_ok hx')) h4
      · exact ab_no
    · exact ab_no
  case i2b =>
    simp only [ab_x, ab_i1]
    split
    · next x r hst =>
      obtain ⟨vx, st2, rfl, hx, h4⟩ := ab_st_1 hs hst
      split
      · next p hp =>
        obtain ⟨x', rfl, hx'⟩ := ab_iv_ok hs.1 hx hp
        exact ab_psh_ok hs (ab_gv0 (ab_e1_ok (f := fun x => x.toInt8.toInt32) (ab_in_top _) hx')) h4
      · exact ab_no
    · exact ab_no
  case i2c =>
    simp only [ab_x, ab_i1]
    split
    · next x r hst =>
      obtain ⟨vx, st2, rfl, hx, h4⟩ := ab_st_1 hs hst
      split
      · next p hp =>
        obtain ⟨x', rfl, hx'⟩ := ab_iv_ok hs.1 hx hp
        exact ab_psh_ok hs (ab_gv0 (ab_e1_ok (f := fun x => (x.toUInt32 % 65536).toInt32) (ab_in_top _) hx')) h4
      · exact ab_no
    · exact ab_no
  case dup =>
    simp only [ab_x]
    split
    · next v r hst =>
      obtain ⟨vx, st2, rfl, hx, h4⟩ := ab_st_1 hs hst
      cases hc : (ab_ct v == 1) with
      | false => exact ab_no
      | true =>
        have h9 : vx.category = 1 := by rw [ab_ct_ok hx]; simpa using hc
        rw [cond_true]
        simp only [pv_x, if_pos h9]
        exact ab_psh_ok hs hx ⟨hx, h4⟩
    · exact ab_no
  case pop =>
    simp only [ab_x]
    split
    · next v r hst =>
      obtain ⟨vx, st2, rfl, hx, h4⟩ := ab_st_1 hs hst
      cases hc : (ab_ct v == 1) with
      | false => exact ab_no
      | true =>
        have h9 : vx.category = 1 := by rw [ab_ct_ok hx]; simpa using hc
        intro L hL
        cases hL
        exact ⟨_, _, _, _, _, by simp only [pv_x, if_pos h9], List.mem_singleton_self _, hs.1, hs.2.1, h4, hs.2.2.2⟩
    · exact ab_no
  case dup2 =>
    simp only [ab_x]
    split
    · next v w r hst =>
      obtain ⟨vx, vw, st2, rfl, hx, hw, h4⟩ := ab_st_2 hs hst
      cases hc : (ab_ct v == 1 && ab_ct w == 1) with
      | false => exact ab_no
      | true =>
        simp only [Bool.and_eq_true, beq_iff_eq] at hc
        have h9 : vx.category = 1 ∧ vw.category = 1 := ⟨by rw [ab_ct_ok hx]; exact hc.1, by rw [ab_ct_ok hw]; exact hc.2⟩
        rw [cond_true]
        simp only [pv_x, if_pos h9]
        exact ab_psh_ok hs hx ⟨hw, hx, hw, h4⟩
    · exact ab_no
  case goto o =>
    simp only [ab_x]
    split
    · intro L hL
      cases hL
      exact ⟨_, _, _, _, _, rfl, List.mem_singleton_self _, hs⟩
    · exact ab_no
  case ifCond c o =>
    simp only [ab_x]
    split
    · next xs t x r hst =>
      obtain ⟨vx, st2, rfl, hx, h4⟩ := ab_st_1 hs hst
      rcases ab_kd_all hx with ⟨q, x', rfl⟩ | ⟨q, x', rfl⟩ | ⟨q, x', rfl⟩ | q
      · exact ab_br_ok hs hx (y := 0) ⟨0, rfl, by unfold ab_in; rw [ab_z]; exact ⟨Nat.le_refl _, Nat.le_refl _⟩⟩ h4
      · exact ab_br_no (by rw [q]; decide)
      · exact ab_br_no (by rw [q]; decide)
      · exact ab_br_no (by rw [q]; decide)
    · exact ab_no
  case if_icmp c o =>
    simp only [ab_x]
    split
    · next xs t y x r hst =>
      obtain ⟨vy, vx, st2, rfl, hy, hx, h4⟩ := ab_st_2 hs hst
      rcases ab_kd_all hx with ⟨q, x', rfl⟩ | ⟨q, x', rfl⟩ | ⟨q, x', rfl⟩ | q
      · rcases ab_kd_all hy with ⟨q, y', rfl⟩ | ⟨q, y', rfl⟩ | ⟨q, y', rfl⟩ | q
        · exact ab_br_ok hs hx hy h4
        · exact ab_br_no2 (by rw [q]; decide)
        · exact ab_br_no2 (by rw [q]; decide)
        · exact ab_br_no2 (by rw [q]; decide)
      · exact ab_br_no (by rw [q]; decide)
      · exact ab_br_no (by rw [q]; decide)
      · exact ab_br_no (by rw [q]; decide)
    · exact ab_no
  case tableswitch a b c d => exact ab_tsx_ok hs
  case getfield c => exact ab_gf_ok hs
  case putfield c => exact ab_pf_ok hs
  case iaload => exact ab_ald_ok (by decide) hs
  case baload =>
    simp only [ab_x]
    split
    · next t =>
      cases hc : (t == 1 || t == 2) with
      | false => exact ab_no
      | true =>
        simp only [Bool.or_eq_true, beq_iff_eq] at hc
        rw [cond_true]
        simp only [pv_x, if_pos hc]
        exact ab_ald_ok (by omega) hs
    · exact ab_no
  case laload => exact ab_lald_ok hs
  case iastore => exact ab_ast_ok (f9 := fun x => x) (by decide) (fun h => h) hs
  case bastore =>
    simp only [ab_x]
    split
    · exact ab_ast_ok (f9 := vp_nar .boolean) (by decide) ab_bool_ok hs
    · exact ab_ast_ok (f9 := vp_nar .byte) (by decide) ab_byte_ok hs
    · exact ab_no
  case lastore => exact ab_lst_ok hs
  case arraylength => exact ab_al_ok hs
  case invokespecial c =>
    simp only [ab_x]
    split
    · next xs a r hst =>
      obtain ⟨vx, st2, rfl, hx, h4⟩ := ab_st_1 hs hst
      cases hc : (ab_kd a == 2 && Nat.ble ((r.map ab_ct).sum) 8) with
      | false => exact ab_no
      | true =>
        simp only [Bool.and_eq_true, beq_iff_eq] at hc
        obtain ⟨x, rfl⟩ := ab_kd2 hx hc.1
        intro L hL
        cases hL
        exact ⟨_, _, _, _, _, by simp only [pv_x, if_pos (ab_cat_ok h4 hc.2)], List.mem_singleton_self _, hs.1, hs.2.1, h4, hs.2.2.2⟩
    · exact ab_no
  case invokestatic c => exact ab_cpx_ok hs
  all_goals exact ab_no
