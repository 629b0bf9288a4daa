theorem lw_dT : decode code 1444 = .ok (.iinc 3 7, 3) ∧ decode code 1447 = .ok (.goto (-1429), 3) ∧ decode code 18 = .ok (.iload_n 3, 1) ∧ decode code 19 = .ok (.aload_n 0, 1) ∧ decode code 20 = .ok (.arraylength, 1) ∧ decode code 21 = .ok (.bipush 7, 2) ∧ decode code 23 = .ok (.isub, 1) ∧ decode code 24 = .ok (.if_icmp .gt 1426, 3) ∧ decode code 1450 = .ok (.iconst 1, 1) ∧ decode code 1451 = .ok (.ireturn, 1) := by decide +kernel
section LAW5
variable {p : Program} {l : Launch} {e : Env} {s : State} {m : MethodId} {below : List Frame} {meth : Method} {c : Code} {cells slots : Nat} {b L : Nat} {xs : Nat → Int32} {D : va_G} {cA : Nat → ClassId}
/-- out with true -/
theorem lw_true {H : Heap} {locs : List Loc} {ls : Array Slot} (hx : p.tables.exec = Jvm.exec) (hb : c.code = code) (hr : meth.sig.returnType = ret) (hlocks : meth.locks = false) (hS : va_S (lw_A s) s.heap H locs) (hc : cells ≤ 600000) (hs : slots ≤ 7302250) : W p l e room_1 s m #[.ref b] below meth c H locs cells slots (lw_Z below #[.ref b] s) (F0 m 1450 ls []) := by
  refine lv_iconst (v := 1) hx hb lw_dT.2.2.2.2.2.2.2.2.1 (by decide) ?_
  refine va_forget hS.2.2 (W.widen hc hs ?_)
  exact lw_ret hx hb hr hlocks lw_dT.2.2.2.2.2.2.2.2.2
set_option maxHeartbeats 4000000 in
set_option maxRecDepth 100000 in
/-- a round -/
theorem lw_round {B i : Nat} {H : Heap} {locs : List Loc} {ls : Array Slot} (I : lw_In p s m c b L i xs ls B) (hK : pv_K D cA s) (hG : pv_G B s) (hB : s.heap.size ≤ B) (hW : lw_Wd D cA s B i H locs) (hc : cells ≤ 600000) (hs : slots ≤ 7302250)
    (kk : ∀ (H1 : Heap) (locs1 : List Loc), lw_Wd D cA s B (i + 7) H1 locs1 → W p l e room_1 s m #[.ref b] below meth c H1 locs1 cells slots (lw_Z below #[.ref b] s) (F0 m 1444 ls [])) : W p l e room_1 s m #[.ref b] below meth c H locs cells slots (lw_Z below #[.ref b] s) (F0 m 27 ls []) := by
  obtain ⟨⟨hx, hb, hml, hown, hts⟩, hX, hbl, hl, hi1, hi2⟩ := id I
  obtain ⟨d1, d2, d3, d4, d5⟩ := lw_dH
  have hS : va_S (lw_A s) s.heap H locs := by
    obtain ⟨_, _, _, _, _, h, _⟩ := hW
    exact h
  have hnA : ¬ (lw_A s) b := Nat.not_le.mpr hbl
  have hR : 67 ≤ room_1.frames ∧ 5000 ≤ room_1.locals ∧ cells ≤ room_1.cells ∧ slots ≤ room_1.slots := ⟨Nat.le_of_ble_eq_true rfl, Nat.le_of_ble_eq_true rfl, hc, hs⟩
  have h0 := lw_idx (i := i) (k := 0) (L := L) (by omega) hi1 hi2
  rw [lw_addk (by omega), Nat.add_zero] at h0
  refine lv_aload_n hx hb d1 rfl (lv_at hl 3 rfl) (lv_iload_n hx hb d2 rfl (lv_at hl 0 rfl) (va_sld hx hb hX hbl hnA hS h0.2 d3 ?_))
  refine lv_bipush (v := 31) hx hb d4 (by decide) (lv_iand hx hb d5 ?_)
  have h31 := lw_and31 (xs (Int32.ofNat i).toNatClampNeg)
  generalize xs (Int32.ofNat i).toNatClampNeg &&& 31 = y at h31 ⊢
  have hy : y.toInt = 0 ∨ y.toInt = 1 ∨ y.toInt = 2 ∨ y.toInt = 3 ∨ y.toInt = 4 ∨ y.toInt = 5 ∨ y.toInt = 6 ∨ y.toInt = 7 ∨ y.toInt = 8 ∨ y.toInt = 9 ∨ y.toInt = 10 ∨ y.toInt = 11 ∨ y.toInt = 12 ∨ y.toInt = 13 ∨ y.toInt = 14 ∨ y.toInt = 15 ∨ y.toInt = 16 ∨ y.toInt = 17 ∨ y.toInt = 18 ∨ y.toInt = 19 ∨ y.toInt = 20 ∨ y.toInt = 21 ∨ y.toInt = 22 ∨ y.toInt = 23 ∨ y.toInt = 24 ∨ y.toInt = 25 ∨ y.toInt = 26 ∨ y.toInt = 27 ∨ y.toInt = 28 ∨ y.toInt = 29 ∨ y.toInt = 30 ∨ y.toInt = 31 := by omega
  rcases hy with hy | hy | hy | hy | hy | hy | hy | hy | hy | hy | hy | hy | hy | hy | hy | hy | hy | hy | hy | hy | hy | hy | hy | hy | hy | hy | hy | hy | hy | hy | hy | hy
  · exact lv_tableIn (off := 143) (tgt := 176) hx hb lw_d33 (by omega) (by omega) (by rw [hy]; rfl) (by decide) (lw_case (kd := 0) (t := false) (cmp := false) (sp := ([(1, false), (2, false), (3, false), (4, false), (5, false), (6, false)] : List (Nat × Bool))) (jC := 95) (jM := 151) I lw_cst hK hG hB hW hR kk (by decide) (c2_hang _ _ _ _ _ _) lw_ck0)
  · exact lv_tableIn (off := 218) (tgt := 251) hx hb lw_d33 (by omega) (by omega) (by rw [hy]; rfl) (by decide) (lw_case (kd := 0) (t := false) (cmp := false) (sp := ([(1, false), (2, false), (3, false)] : List (Nat × Bool))) (jC := 96) (jM := 153) I lw_cst hK hG hB hW hR kk (by decide) (c2_knot _ _ _) lw_ck1)
  · exact lv_tableIn (off := 261) (tgt := 294) hx hb lw_d33 (by omega) (by omega) (by rw [hy]; rfl) (by decide) (lw_case (kd := 0) (t := false) (cmp := false) (sp := ([(1, false), (2, false), (3, false), (4, false)] : List (Nat × Bool))) (jC := 97) (jM := 154) I lw_cst hK hG hB hW hR kk (by decide) (c2_kind _ _ _ _) lw_ck2)
  · exact lv_tableIn (off := 314) (tgt := 347) hx hb lw_d33 (by omega) (by omega) (by rw [hy]; rfl) (by decide) (lw_case (kd := 0) (t := false) (cmp := false) (sp := ([(1, false), (2, false), (3, false), (4, false)] : List (Nat × Bool))) (jC := 98) (jM := 155) I lw_cst hK hG hB hW hR kk (by decide) (c2_plant _ _ _ _) lw_ck3)
  · exact lv_tableIn (off := 367) (tgt := 400) hx hb lw_d33 (by omega) (by omega) (by rw [hy]; rfl) (by decide) (lw_case (kd := 0) (t := false) (cmp := false) (sp := ([(1, false), (2, false)] : List (Nat × Bool))) (jC := 99) (jM := 156) I lw_cst hK hG hB hW hR kk (by decide) (c2_valve _ _) lw_ck4)
  · exact lv_tableIn (off := 400) (tgt := 433) hx hb lw_d33 (by omega) (by omega) (by rw [hy]; rfl) (by decide) (lw_case (kd := 0) (t := false) (cmp := false) (sp := ([(1, false), (2, false), (3, false)] : List (Nat × Bool))) (jC := 100) (jM := 157) I lw_cst hK hG hB hW hR kk (by decide) (c2_kitchen _ _ _) lw_ck5)
  · exact lv_tableIn (off := 443) (tgt := 476) hx hb lw_d33 (by omega) (by omega) (by rw [hy]; rfl) (by decide) (lw_case (kd := 0) (t := false) (cmp := false) (sp := ([(1, false), (2, false), (3, false)] : List (Nat × Bool))) (jC := 101) (jM := 158) I lw_cst hK hG hB hW hR kk (by decide) (c2_rope _ _ _) lw_ck6)
  · exact lv_tableIn (off := 486) (tgt := 519) hx hb lw_d33 (by omega) (by omega) (by rw [hy]; rfl) (by decide) (lw_case (kd := 0) (t := false) (cmp := false) (sp := ([(1, false)] : List (Nat × Bool))) (jC := 102) (jM := 159) I lw_cst hK hG hB hW hR kk (by decide) (c2_seed _) lw_ck7)
  · exact lv_tableIn (off := 509) (tgt := 542) hx hb lw_d33 (by omega) (by omega) (by rw [hy]; rfl) (by decide) (lw_case (kd := 0) (t := false) (cmp := false) (sp := ([(1, false), (2, false), (3, false), (4, false), (5, false)] : List (Nat × Bool))) (jC := 103) (jM := 161) I lw_cst hK hG hB hW hR kk (by decide) (c2_feed _ _ _ _ _) lw_ck8)
  · exact lv_tableIn (off := 572) (tgt := 605) hx hb lw_d33 (by omega) (by omega) (by rw [hy]; rfl) (by decide) (lw_case (kd := 0) (t := false) (cmp := false) (sp := ([(1, false)] : List (Nat × Bool))) (jC := 104) (jM := 183) I lw_cst hK hG hB hW hR kk (by decide) (c2_law _) lw_ck9)
  · exact lv_tableIn (off := 595) (tgt := 628) hx hb lw_d33 (by omega) (by omega) (by rw [hy]; rfl) (by decide) (lw_case (kd := 0) (t := false) (cmp := false) (sp := ([(1, false), (2, false), (3, false)] : List (Nat × Bool))) (jC := 105) (jM := 199) I lw_cst hK hG hB hW hR kk (by decide) (c2_cell _ _ _) lw_ck10)
  · exact lv_tableIn (off := 638) (tgt := 671) hx hb lw_d33 (by omega) (by omega) (by rw [hy]; rfl) (by decide) (lw_case (kd := 2) (t := false) (cmp := true) (sp := ([(1, false), (2, false), (3, false)] : List (Nat × Bool))) (jC := 106) (jM := 192) I lw_cst hK hG hB hW hR kk (by decide) (c2_byLaw _ _ _) lw_ck11)
  · exact lv_tableIn (off := 681) (tgt := 714) hx hb lw_d33 (by omega) (by omega) (by rw [hy]; rfl) (by decide) (lw_case (kd := 0) (t := false) (cmp := false) (sp := ([] : List (Nat × Bool))) (jC := 107) (jM := 196) I lw_cst hK hG hB hW hR kk (by decide) (c2_water ) lw_ck12)
  · exact lv_tableIn (off := 694) (tgt := 727) hx hb lw_d33 (by omega) (by omega) (by rw [hy]; rfl) (by decide) (lw_case (kd := 0) (t := false) (cmp := false) (sp := ([(1, false), (2, false)] : List (Nat × Bool))) (jC := 108) (jM := 203) I lw_cst hK hG hB hW hR kk (by decide) (c2_fall _ _) lw_ck13)
  · exact lv_tableIn (off := 727) (tgt := 760) hx hb lw_d33 (by omega) (by omega) (by rw [hy]; rfl) (by decide) (lw_case (kd := 0) (t := false) (cmp := false) (sp := ([] : List (Nat × Bool))) (jC := 109) (jM := 207) I lw_cst hK hG hB hW hR kk (by decide) (c2_go ) lw_ck14)
  · exact lv_tableIn (off := 740) (tgt := 773) hx hb lw_d33 (by omega) (by omega) (by rw [hy]; rfl) (by decide) (lw_case (kd := 0) (t := false) (cmp := false) (sp := ([] : List (Nat × Bool))) (jC := 110) (jM := 209) I lw_cst hK hG hB hW hR kk (by decide) (c2_day ) lw_ck15)
  · exact lv_tableIn (off := 753) (tgt := 786) hx hb lw_d33 (by omega) (by omega) (by rw [hy]; rfl) (by decide) (lw_case (kd := 1) (t := true) (cmp := false) (sp := ([(1, false), (2, false)] : List (Nat × Bool))) (jC := 111) (jM := 208) I lw_cst hK hG hB hW hR kk (by decide) (c2_torn _ _) lw_ck16)
  · exact lv_tableIn (off := 786) (tgt := 819) hx hb lw_d33 (by omega) (by omega) (by rw [hy]; rfl) (by decide) (lw_case (kd := 0) (t := false) (cmp := false) (sp := ([(1, false), (2, false)] : List (Nat × Bool))) (jC := 112) (jM := 211) I lw_cst hK hG hB hW hR kk (by decide) (c2_fallIs _ _) lw_ck17)
  · exact lv_tableIn (off := 819) (tgt := 852) hx hb lw_d33 (by omega) (by omega) (by rw [hy]; rfl) (by decide) (lw_case (kd := 0) (t := false) (cmp := false) (sp := ([(1, false), (2, false)] : List (Nat × Bool))) (jC := 113) (jM := 213) I lw_cst hK hG hB hW hR kk (by decide) (c2_claimed _ _) lw_ck18)
  · exact lv_tableIn (off := 852) (tgt := 885) hx hb lw_d33 (by omega) (by omega) (by rw [hy]; rfl) (by decide) (lw_case (kd := 0) (t := false) (cmp := false) (sp := ([(1, false), (2, false)] : List (Nat × Bool))) (jC := 114) (jM := 214) I lw_cst hK hG hB hW hR kk (by decide) (c2_right _ _) lw_ck19)
  · exact lv_tableIn (off := 885) (tgt := 918) hx hb lw_d33 (by omega) (by omega) (by rw [hy]; rfl) (by decide) (lw_case (kd := 0) (t := false) (cmp := false) (sp := ([(1, false)] : List (Nat × Bool))) (jC := 115) (jM := 215) I lw_cst hK hG hB hW hR kk (by decide) (c2_food _) lw_ck20)
  · exact lv_tableIn (off := 908) (tgt := 941) hx hb lw_d33 (by omega) (by omega) (by rw [hy]; rfl) (by decide) (lw_case (kd := 0) (t := false) (cmp := false) (sp := ([(1, false), (2, false)] : List (Nat × Bool))) (jC := 116) (jM := 216) I lw_cst hK hG hB hW hR kk (by decide) (c2_kitchenIs _ _) lw_ck21)
  · exact lv_tableIn (off := 941) (tgt := 974) hx hb lw_d33 (by omega) (by omega) (by rw [hy]; rfl) (by decide) (lw_case (kd := 0) (t := false) (cmp := false) (sp := ([(1, false), (2, false), (3, false)] : List (Nat × Bool))) (jC := 117) (jM := 219) I lw_cst hK hG hB hW hR kk (by decide) (c2_mayWork _ _ _) lw_ck22)
  · exact lv_tableIn (off := 984) (tgt := 1017) hx hb lw_d33 (by omega) (by omega) (by rw [hy]; rfl) (by decide) (lw_case (kd := 0) (t := false) (cmp := false) (sp := ([(1, false), (2, false), (3, true), (5, false)] : List (Nat × Bool))) (jC := 118) (jM := 223) I lw_cst hK hG hB hW hR kk (by decide) (c2_work _ _ _ _) lw_ck23)
  · exact lv_tableIn (off := 1067) (tgt := 1100) hx hb lw_d33 (by omega) (by omega) (by rw [hy]; rfl) (by decide) (lw_case (kd := 1) (t := true) (cmp := false) (sp := ([(1, false), (2, false), (3, false), (4, false), (5, false)] : List (Nat × Bool))) (jC := 119) (jM := 229) I lw_cst hK hG hB hW hR kk (by decide) (c2_pollen _ _ _ _ _) lw_ck24)
  · exact lv_tableIn (off := 1130) (tgt := 1163) hx hb lw_d33 (by omega) (by omega) (by rw [hy]; rfl) (by decide) (lw_case (kd := 0) (t := false) (cmp := false) (sp := ([(1, false), (2, false)] : List (Nat × Bool))) (jC := 120) (jM := 230) I lw_cst hK hG hB hW hR kk (by decide) (c2_pollinate _ _) lw_ck25)
  · exact lv_tableIn (off := 1163) (tgt := 1196) hx hb lw_d33 (by omega) (by omega) (by rw [hy]; rfl) (by decide) (lw_case (kd := 0) (t := false) (cmp := false) (sp := ([(1, true), (3, false)] : List (Nat × Bool))) (jC := 121) (jM := 233) I lw_cst hK hG hB hW hR kk (by decide) (c2_planted _ _) lw_ck26)
  · exact lv_tableIn (off := 1226) (tgt := 1259) hx hb lw_d33 (by omega) (by omega) (by rw [hy]; rfl) (by decide) (lw_case (kd := 0) (t := false) (cmp := false) (sp := ([(1, false), (2, false), (3, false)] : List (Nat × Bool))) (jC := 122) (jM := 235) I lw_cst hK hG hB hW hR kk (by decide) (c2_drought _ _ _) lw_ck27)
  · exact lv_tableIn (off := 1269) (tgt := 1302) hx hb lw_d33 (by omega) (by omega) (by rw [hy]; rfl) (by decide) (lw_case (kd := 0) (t := false) (cmp := false) (sp := ([(1, true), (3, false)] : List (Nat × Bool))) (jC := 123) (jM := 241) I lw_cst hK hG hB hW hR kk (by decide) (c2_mended _ _) lw_ck28)
  · exact lv_tableIn (off := 1332) (tgt := 1365) hx hb lw_d33 (by omega) (by omega) (by rw [hy]; rfl) (by decide) (lw_case (kd := 0) (t := false) (cmp := false) (sp := ([(1, false)] : List (Nat × Bool))) (jC := 124) (jM := 243) I lw_cst hK hG hB hW hR kk (by decide) (c2_hail _) lw_ck29)
  · exact lv_tableIn (off := 1355) (tgt := 1388) hx hb lw_d33 (by omega) (by omega) (by rw [hy]; rfl) (by decide) (lw_case (kd := 0) (t := false) (cmp := false) (sp := ([(1, false), (2, false)] : List (Nat × Bool))) (jC := 125) (jM := 245) I lw_cst hK hG hB hW hR kk (by decide) (c2_check _ _) lw_ck30)
  · exact lv_tableIn (off := 1388) (tgt := 1421) hx hb lw_d33 (by omega) (by omega) (by rw [hy]; rfl) (by decide) (lw_case (kd := 0) (t := false) (cmp := false) (sp := ([(1, false)] : List (Nat × Bool))) (jC := 126) (jM := 247) I lw_cst hK hG hB hW hR kk (by decide) (c2_count _) lw_ck31)
theorem lw_cmp {i : Nat} (hL : L ≤ 3584) (hi : i ≤ 4000) : (Int32.ofNat L - 7 < Int32.ofNat i) ↔ L < i + 7 := by
  have e1 := lw_nat (n := L) (by omega)
  have e2 := lw_nat (n := i) (by omega)
  have e3 : (Int32.ofNat L - 7).toInt = (L : Int) - 7 := by
    rw [Int32.toInt_sub, e1]
    have e7 : (7 : Int32).toInt = 7 := rfl
    rw [e7]
    exact Int.bmod_eq_of_le (by omega) (by omega)
  rw [Int32.lt_iff_toInt_lt, e2, e3]
  omega
set_option maxHeartbeats 4000000 in
/-- the loop, from its head on -/
theorem lw_loop {B : Nat} (hF : CallFix p m c code 4 s #[.ref b] pv_T R_law) (hX : va_X b L xs s s.heap) (hbl : b < s.heap.size) (hL : L ≤ 3584) (hr : meth.sig.returnType = ret) (hlocks : meth.locks = false) (hK : pv_K D cA s) (hG : pv_G B s) (hB : s.heap.size ≤ B) (hc : cells ≤ 600000) (hs : slots ≤ 7302250) : ∀ (t i : Nat), i ≤ 3600 → 3600 - i ≤ t → ∀ (H : Heap) (locs : List Loc) (ls : Array Slot), lw_Wd D cA s B i H locs → lv_has ls 4 [(3, .int (Int32.ofNat i)), (2, .ref (B + 79)), (1, .ref B), (0, .ref b)] → W p l e room_1 s m #[.ref b] below meth c H locs cells slots (lw_Z below #[.ref b] s) (F0 m 18 ls []) := by
  obtain ⟨hx, hb, hml, hown, hts⟩ := id hF
  obtain ⟨d1, d2, d3, d4, d5, d6, d7, d8, -, -⟩ := lw_dT
  have hnA : ¬ (lw_A s) b := Nat.not_le.mpr hbl
  intro t
  induction t with
  | zero =>
    intro i hi ht H locs ls hW hl
    have hS : va_S (lw_A s) s.heap H locs := by
      obtain ⟨_, _, _, _, _, h, _⟩ := hW
      exact h
    refine lv_iload_n hx hb d3 rfl (lv_at hl 0 rfl) (lv_aload_n hx hb d4 rfl (lv_at hl 3 rfl) (va_slen hx hb hX hbl hnA hS d5 ?_))
    refine lv_bipush (v := 7) hx hb d6 (by decide) (lv_isub hx hb d7 ?_)
    exact lv_icmp_gt (tgt := 1450) hx hb d8 (by decide) (fun _ => lw_true hx hb hr hlocks hS hc hs) (fun h => absurd ((lw_cmp hL (by omega)).mpr (by omega)) h)
  | succ t ih =>
    intro i hi ht H locs ls hW hl
    have hS : va_S (lw_A s) s.heap H locs := by
      obtain ⟨_, _, _, _, _, h, _⟩ := hW
      exact h
    refine lv_iload_n hx hb d3 rfl (lv_at hl 0 rfl) (lv_aload_n hx hb d4 rfl (lv_at hl 3 rfl) (va_slen hx hb hX hbl hnA hS d5 ?_))
    refine lv_bipush (v := 7) hx hb d6 (by decide) (lv_isub hx hb d7 ?_)
    refine lv_icmp_gt (tgt := 1450) hx hb d8 (by decide) (fun _ => lw_true hx hb hr hlocks hS hc hs) (fun h => ?_)
    have h7 : i + 7 ≤ L := Nat.not_lt.mp (fun z => h ((lw_cmp hL (by omega)).mpr z))
    refine lw_round (i := i) ⟨hF, hX, hbl, hl, h7, hL⟩ hK hG hB hW hc hs (fun H1 locs1 hW1 => ?_)
    refine lv_iinc (k := 0) (v := Int32.ofNat (i + 7)) (lv' := [(3, .int (Int32.ofNat (i + 7))), (2, .ref (B + 79)), (1, .ref B), (0, .ref b)]) hx hb d1 hl rfl (lw_addk (k := 7) (by omega)) (by decide) rfl (fun ls' hl' => ?_)
    refine lv_goto (tgt := 18) hx hb d2 (by decide) ?_
    exact ih (i + 7) (by omega) (by omega) H1 locs1 ls' hW1 hl'
end LAW5
