section LAW5
variable {p : Program} {l : Launch} {e : Env} {s : State} {m : MethodId} {below : List Frame} {meth : Method} {c : Code} {H : Heap} {locs : List Loc} {cells slots : Nat} {b : Nat} {xs : Nat → Int32} {ls : Array Slot} {D : va_G} {cA : Nat → ClassId}
set_option maxHeartbeats 4000000 in
set_option maxRecDepth 100000 in
/-- the one round of a script of seven -/
theorem lw_round {B : Nat} {f f2 : Nat → Nat → Int32} {g g2 : Nat → Nat → Int64} (I : lw_In p s m c b xs ls B) (hr : meth.sig.returnType = ret) (hlocks : meth.locks = false) (hK : pv_K D cA s) (hB : s.heap.size ≤ B) (hP1 : va_P D vwCl (pv_w cA B (gC f g)) H) (hP2 : va_P D vwCl (pv_w cA (B + 79) (gM f2 g2)) H) (hS : va_S (lw_A s) s.heap H locs) (hsz : B + 143 ≤ H.size) (hc : cells ≤ 600000) (hs : slots ≤ 7302250) (hF1 : fr_ok vlC f) (hF2 : fr_ok vlM f2) : W p l e room_1 s m #[.ref b] below meth c H locs cells slots (lw_Z below #[.ref b] s) (F0 m 27 ls []) := by
  obtain ⟨⟨hx, hb, hml, hown, hts⟩, hX, hbl, hl⟩ := id I
  obtain ⟨d1, d2, d3, d4, d5⟩ := lw_dH
  have hnA : ¬ (lw_A s) b := Nat.not_le.mpr hbl
  have hR : 13 ≤ room_1.frames ∧ 780 ≤ room_1.locals ∧ cells ≤ room_1.cells ∧ slots ≤ room_1.slots := ⟨Nat.le_of_ble_eq_true rfl, Nat.le_of_ble_eq_true rfl, hc, hs⟩
  have kk : ∀ (H1 : Heap) (locs1 : List Loc), va_S (lw_A s) s.heap H1 locs1 → W p l e room_1 s m #[.ref b] below meth c H1 locs1 cells slots (lw_Z below #[.ref b] s) (F0 m 1446 ls []) := fun H1 locs1 hS1 => lw_fin I hr hlocks hS1 hc hs
  refine lv_aload_n hx hb d1 rfl (lv_at hl 3 rfl) (lv_iload_n hx hb d2 rfl (lv_at hl 0 rfl) (va_sld hx hb hX hbl hnA hS (by unfold vp_in; decide) d3 ?_))
  refine lv_bipush (v := 31) hx hb d4 (by decide) (lv_iand hx hb d5 ?_)
  have h31 := lw_and31 (xs (0 : Int32).toNatClampNeg)
  generalize xs (0 : Int32).toNatClampNeg &&& 31 = y at h31 ⊢
  have hy : y.toInt = 0 ∨ y.toInt = 1 ∨ y.toInt = 2 ∨ y.toInt = 3 ∨ y.toInt = 4 ∨ y.toInt = 5 ∨ y.toInt = 6 ∨ y.toInt = 7 ∨ y.toInt = 8 ∨ y.toInt = 9 ∨ y.toInt = 10 ∨ y.toInt = 11 ∨ y.toInt = 12 ∨ y.toInt = 13 ∨ y.toInt = 14 ∨ y.toInt = 15 ∨ y.toInt = 16 ∨ y.toInt = 17 ∨ y.toInt = 18 ∨ y.toInt = 19 ∨ y.toInt = 20 ∨ y.toInt = 21 ∨ y.toInt = 22 ∨ y.toInt = 23 ∨ y.toInt = 24 ∨ y.toInt = 25 ∨ y.toInt = 26 ∨ y.toInt = 27 ∨ y.toInt = 28 ∨ y.toInt = 29 ∨ y.toInt = 30 ∨ y.toInt = 31 := by omega
  rcases hy with hy | hy | hy | hy | hy | hy | hy | hy | hy | hy | hy | hy | hy | hy | hy | hy | hy | hy | hy | hy | hy | hy | hy | hy | hy | hy | hy | hy | hy | hy | hy | hy
  · exact lv_tableIn (off := 143) (tgt := 176) hx hb lw_d33 (by omega) (by omega) (by rw [hy]; rfl) (by decide) (lw_caseI (sp := ([(1, false), (2, false), (3, false), (4, false), (5, false), (6, false)] : List (Nat × Bool))) (jC := 95) (jM := 151) I lw_cst hK hB hP1 hP2 hS hsz hR hF1 hF2 kk (eq_hang (xs 1) (xs 2) (xs 3) (xs 4) (xs 5) (xs 6)) lw_ck0)
  · exact lv_tableIn (off := 218) (tgt := 251) hx hb lw_d33 (by omega) (by omega) (by rw [hy]; rfl) (by decide) (lw_caseI (sp := ([(1, false), (2, false), (3, false)] : List (Nat × Bool))) (jC := 96) (jM := 153) I lw_cst hK hB hP1 hP2 hS hsz hR hF1 hF2 kk (eq_knot (xs 1) (xs 2) (xs 3)) lw_ck1)
  · exact lv_tableIn (off := 261) (tgt := 294) hx hb lw_d33 (by omega) (by omega) (by rw [hy]; rfl) (by decide) (lw_caseI (sp := ([(1, false), (2, false), (3, false), (4, false)] : List (Nat × Bool))) (jC := 97) (jM := 154) I lw_cst hK hB hP1 hP2 hS hsz hR hF1 hF2 kk (eq_kind (xs 1) (xs 2) (xs 3) (xs 4)) lw_ck2)
  · exact lv_tableIn (off := 314) (tgt := 347) hx hb lw_d33 (by omega) (by omega) (by rw [hy]; rfl) (by decide) (lw_caseI (sp := ([(1, false), (2, false), (3, false), (4, false)] : List (Nat × Bool))) (jC := 98) (jM := 155) I lw_cst hK hB hP1 hP2 hS hsz hR hF1 hF2 kk (eq_plant (xs 1) (xs 2) (xs 3) (xs 4)) lw_ck3)
  · exact lv_tableIn (off := 367) (tgt := 400) hx hb lw_d33 (by omega) (by omega) (by rw [hy]; rfl) (by decide) (lw_caseI (sp := ([(1, false), (2, false)] : List (Nat × Bool))) (jC := 99) (jM := 156) I lw_cst hK hB hP1 hP2 hS hsz hR hF1 hF2 kk (eq_valve (xs 1) (xs 2)) lw_ck4)
  · exact lv_tableIn (off := 400) (tgt := 433) hx hb lw_d33 (by omega) (by omega) (by rw [hy]; rfl) (by decide) (lw_caseI (sp := ([(1, false), (2, false), (3, false)] : List (Nat × Bool))) (jC := 100) (jM := 157) I lw_cst hK hB hP1 hP2 hS hsz hR hF1 hF2 kk (eq_kitchen (xs 1) (xs 2) (xs 3)) lw_ck5)
  · exact lv_tableIn (off := 443) (tgt := 476) hx hb lw_d33 (by omega) (by omega) (by rw [hy]; rfl) (by decide) (lw_caseI (sp := ([(1, false), (2, false), (3, false)] : List (Nat × Bool))) (jC := 101) (jM := 158) I lw_cst hK hB hP1 hP2 hS hsz hR hF1 hF2 kk (eq_rope (xs 1) (xs 2) (xs 3)) lw_ck6)
  · exact lv_tableIn (off := 486) (tgt := 519) hx hb lw_d33 (by omega) (by omega) (by rw [hy]; rfl) (by decide) (lw_caseI (sp := ([(1, false)] : List (Nat × Bool))) (jC := 102) (jM := 159) I lw_cst hK hB hP1 hP2 hS hsz hR hF1 hF2 kk (eq_seed (xs 1)) lw_ck7)
  · exact lv_tableIn (off := 509) (tgt := 542) hx hb lw_d33 (by omega) (by omega) (by rw [hy]; rfl) (by decide) (lw_caseI (sp := ([(1, false), (2, false), (3, false), (4, false), (5, false)] : List (Nat × Bool))) (jC := 103) (jM := 161) I lw_cst hK hB hP1 hP2 hS hsz hR hF1 hF2 kk (eq_feed (xs 1) (xs 2) (xs 3) (xs 4) (xs 5)) lw_ck8)
  · exact lv_tableIn (off := 572) (tgt := 605) hx hb lw_d33 (by omega) (by omega) (by rw [hy]; rfl) (by decide) (lw_caseI (sp := ([(1, false)] : List (Nat × Bool))) (jC := 104) (jM := 183) I lw_cst hK hB hP1 hP2 hS hsz hR hF1 hF2 kk (eq_law (xs 1)) lw_ck9)
  · exact lv_tableIn (off := 595) (tgt := 628) hx hb lw_d33 (by omega) (by omega) (by rw [hy]; rfl) (by decide) (lw_caseI (sp := ([(1, false), (2, false), (3, false)] : List (Nat × Bool))) (jC := 105) (jM := 199) I lw_cst hK hB hP1 hP2 hS hsz hR hF1 hF2 kk (eq_cell (xs 1) (xs 2) (xs 3)) lw_ck10)
  · exact lv_tableIn (off := 638) (tgt := 671) hx hb lw_d33 (by omega) (by omega) (by rw [hy]; rfl) (by decide) (lw_caseI (sp := ([(1, false), (2, false), (3, false)] : List (Nat × Bool))) (jC := 106) (jM := 192) I lw_cst hK hB hP1 hP2 hS hsz hR hF1 hF2 kk (eq_byLaw (xs 1) (xs 2) (xs 3)) lw_ck11)
  · exact lv_tableIn (off := 681) (tgt := 714) hx hb lw_d33 (by omega) (by omega) (by rw [hy]; rfl) (by decide) (lw_caseI (sp := ([] : List (Nat × Bool))) (jC := 107) (jM := 196) I lw_cst hK hB hP1 hP2 hS hsz hR hF1 hF2 kk (eq_water) lw_ck12)
  · exact lv_tableIn (off := 694) (tgt := 727) hx hb lw_d33 (by omega) (by omega) (by rw [hy]; rfl) (by decide) (lw_caseI (sp := ([(1, false), (2, false)] : List (Nat × Bool))) (jC := 108) (jM := 203) I lw_cst hK hB hP1 hP2 hS hsz hR hF1 hF2 kk (eq_fall (xs 1) (xs 2)) lw_ck13)
  · exact lv_tableIn (off := 727) (tgt := 760) hx hb lw_d33 (by omega) (by omega) (by rw [hy]; rfl) (by decide) (lw_caseI (sp := ([] : List (Nat × Bool))) (jC := 109) (jM := 207) I lw_cst hK hB hP1 hP2 hS hsz hR hF1 hF2 kk (eq_go) lw_ck14)
  · exact lv_tableIn (off := 740) (tgt := 773) hx hb lw_d33 (by omega) (by omega) (by rw [hy]; rfl) (by decide) (lw_caseI (sp := ([] : List (Nat × Bool))) (jC := 110) (jM := 209) I lw_cst hK hB hP1 hP2 hS hsz hR hF1 hF2 kk (eq_day) lw_ck15)
  · exact lv_tableIn (off := 753) (tgt := 786) hx hb lw_d33 (by omega) (by omega) (by rw [hy]; rfl) (by decide) (lw_caseL (sp := ([(1, false), (2, false)] : List (Nat × Bool))) (jC := 111) (jM := 208) I lw_cst hK hB hP1 hP2 hS hsz hR hF1 hF2 kk (eq_torn (xs 1) (xs 2)) lw_ck16)
  · exact lv_tableIn (off := 787) (tgt := 820) hx hb lw_d33 (by omega) (by omega) (by rw [hy]; rfl) (by decide) (lw_caseI (sp := ([(1, false), (2, false)] : List (Nat × Bool))) (jC := 112) (jM := 211) I lw_cst hK hB hP1 hP2 hS hsz hR hF1 hF2 kk (eq_fallIs (xs 1) (xs 2)) lw_ck17)
  · exact lv_tableIn (off := 820) (tgt := 853) hx hb lw_d33 (by omega) (by omega) (by rw [hy]; rfl) (by decide) (lw_caseI (sp := ([(1, false), (2, false)] : List (Nat × Bool))) (jC := 113) (jM := 213) I lw_cst hK hB hP1 hP2 hS hsz hR hF1 hF2 kk (eq_claimed (xs 1) (xs 2)) lw_ck18)
  · exact lv_tableIn (off := 853) (tgt := 886) hx hb lw_d33 (by omega) (by omega) (by rw [hy]; rfl) (by decide) (lw_caseI (sp := ([(1, false), (2, false)] : List (Nat × Bool))) (jC := 114) (jM := 214) I lw_cst hK hB hP1 hP2 hS hsz hR hF1 hF2 kk (eq_right (xs 1) (xs 2)) lw_ck19)
  · exact lv_tableIn (off := 886) (tgt := 919) hx hb lw_d33 (by omega) (by omega) (by rw [hy]; rfl) (by decide) (lw_caseI (sp := ([(1, false)] : List (Nat × Bool))) (jC := 115) (jM := 215) I lw_cst hK hB hP1 hP2 hS hsz hR hF1 hF2 kk (eq_food (xs 1)) lw_ck20)
  · exact lv_tableIn (off := 909) (tgt := 942) hx hb lw_d33 (by omega) (by omega) (by rw [hy]; rfl) (by decide) (lw_caseI (sp := ([(1, false), (2, false)] : List (Nat × Bool))) (jC := 116) (jM := 216) I lw_cst hK hB hP1 hP2 hS hsz hR hF1 hF2 kk (eq_kitchenIs (xs 1) (xs 2)) lw_ck21)
  · exact lv_tableIn (off := 942) (tgt := 975) hx hb lw_d33 (by omega) (by omega) (by rw [hy]; rfl) (by decide) (lw_caseI (sp := ([(1, false), (2, false), (3, false)] : List (Nat × Bool))) (jC := 117) (jM := 219) I lw_cst hK hB hP1 hP2 hS hsz hR hF1 hF2 kk (eq_mayWork (xs 1) (xs 2) (xs 3)) lw_ck22)
  · exact lv_tableIn (off := 985) (tgt := 1018) hx hb lw_d33 (by omega) (by omega) (by rw [hy]; rfl) (by decide) (lw_caseI (sp := ([(1, false), (2, false), (3, true), (5, false)] : List (Nat × Bool))) (jC := 118) (jM := 223) I lw_cst hK hB hP1 hP2 hS hsz hR hF1 hF2 kk (eq_work (xs 1) (xs 2) _ (xs 5)) lw_ck23)
  · exact lv_tableIn (off := 1068) (tgt := 1101) hx hb lw_d33 (by omega) (by omega) (by rw [hy]; rfl) (by decide) (lw_caseL (sp := ([(1, false), (2, false), (3, false), (4, false), (5, false)] : List (Nat × Bool))) (jC := 119) (jM := 229) I lw_cst hK hB hP1 hP2 hS hsz hR hF1 hF2 kk (eq_pollen (xs 1) (xs 2) (xs 3) (xs 4) (xs 5)) lw_ck24)
  · exact lv_tableIn (off := 1132) (tgt := 1165) hx hb lw_d33 (by omega) (by omega) (by rw [hy]; rfl) (by decide) (lw_caseI (sp := ([(1, false), (2, false)] : List (Nat × Bool))) (jC := 120) (jM := 230) I lw_cst hK hB hP1 hP2 hS hsz hR hF1 hF2 kk (eq_pollinate (xs 1) (xs 2)) lw_ck25)
  · exact lv_tableIn (off := 1165) (tgt := 1198) hx hb lw_d33 (by omega) (by omega) (by rw [hy]; rfl) (by decide) (lw_caseI (sp := ([(1, true), (3, false)] : List (Nat × Bool))) (jC := 121) (jM := 233) I lw_cst hK hB hP1 hP2 hS hsz hR hF1 hF2 kk (eq_planted _ (xs 3)) lw_ck26)
  · exact lv_tableIn (off := 1228) (tgt := 1261) hx hb lw_d33 (by omega) (by omega) (by rw [hy]; rfl) (by decide) (lw_caseI (sp := ([(1, false), (2, false), (3, false)] : List (Nat × Bool))) (jC := 122) (jM := 235) I lw_cst hK hB hP1 hP2 hS hsz hR hF1 hF2 kk (eq_drought (xs 1) (xs 2) (xs 3)) lw_ck27)
  · exact lv_tableIn (off := 1271) (tgt := 1304) hx hb lw_d33 (by omega) (by omega) (by rw [hy]; rfl) (by decide) (lw_caseI (sp := ([(1, true), (3, false)] : List (Nat × Bool))) (jC := 123) (jM := 241) I lw_cst hK hB hP1 hP2 hS hsz hR hF1 hF2 kk (eq_mended _ (xs 3)) lw_ck28)
  · exact lv_tableIn (off := 1334) (tgt := 1367) hx hb lw_d33 (by omega) (by omega) (by rw [hy]; rfl) (by decide) (lw_caseI (sp := ([(1, false)] : List (Nat × Bool))) (jC := 124) (jM := 243) I lw_cst hK hB hP1 hP2 hS hsz hR hF1 hF2 kk (eq_hail (xs 1)) lw_ck29)
  · exact lv_tableIn (off := 1357) (tgt := 1390) hx hb lw_d33 (by omega) (by omega) (by rw [hy]; rfl) (by decide) (lw_caseI (sp := ([(1, false), (2, false)] : List (Nat × Bool))) (jC := 125) (jM := 245) I lw_cst hK hB hP1 hP2 hS hsz hR hF1 hF2 kk (eq_check (xs 1) (xs 2)) lw_ck30)
  · exact lv_tableIn (off := 1390) (tgt := 1423) hx hb lw_d33 (by omega) (by omega) (by rw [hy]; rfl) (by decide) (lw_caseI (sp := ([(1, false)] : List (Nat × Bool))) (jC := 126) (jM := 247) I lw_cst hK hB hP1 hP2 hS hsz hR hF1 hF2 kk (eq_count (xs 1)) lw_ck31)
end LAW5
set_option maxHeartbeats 4000000 in
set_option maxRecDepth 100000 in
theorem whole_start {p : Program} {e : Env} {s : State} {m : MethodId} {below : List Frame} {meth : Method} {c : Code} (l : Launch) {b L : Nat} {xs : Nat → Int32} (hL : L ≤ 7) (C0 : lw_At p s m meth c b L xs) : W p l e room_1 s m #[Value.ref b] below meth c s.heap [] 0 0 (lw_Z below #[Value.ref b] s) (entryFrame m ([Value.ref b] : List Value).toArray 4) := by
  obtain ⟨hx, hb, hr, hml, hown, hts, hX, hbl, hlocks, hgv⟩ := id C0
  have hT : ∀ w ∈ pv_T, w.before #[Value.ref b] s = true := fun w hw => hts w (List.mem_filter.mp hw).1
  have hF : CallFix p m c code 4 s #[.ref b] pv_T R_law := ⟨hx, hb, hml, hown, hT⟩
  obtain ⟨D, cA, hK⟩ := lw_known hts lw_inst
  obtain ⟨d0, d3, d4, d7, d8, d11, d12, d15, d16, d17⟩ := lw_dN
  obtain ⟨-, -, t3, t4, t5, t6, t7, t8, -, -⟩ := lw_dT
  obtain ⟨MC, jC, wC1, wC2, wC3, wC4, wC5⟩ := lw_iC
  obtain ⟨MM, jM, wM1, wM2, wM3, wM4, wM5⟩ := lw_iM
  obtain ⟨f, g, runC, frC⟩ := nC_new
  obtain ⟨f2, g2, runM, frM⟩ := nM_new
  have hnA : ¬ (lw_A s) b := Nat.not_le.mpr hbl
  have hl := lv_entry ([.ref b]) (n := 4) (Nat.le_of_ble_eq_true rfl)
  rw [lg_entry_eq]
  generalize (lg_sl ([.ref b]) ++ List.replicate (4 - (lg_sl ([.ref b])).length) Slot.unset).toArray = ls at hl ⊢
  have hl : lv_has ls 4 [(0, .ref b)] := hl
  refine lw_new (ci := 11) (q := _) (h := []) (B := s.heap.size) hF hK (fun k q h => by cases h) va_S.rf rfl rfl rfl lw_nC.1 lw_nC.2.1 lw_nC.2.2 d0 (Nat.le_of_ble_eq_true rfl) (Nat.le_of_ble_eq_true rfl) (fun H1 _ hPb hS1 hs1 => ?_)
  simp only [List.length_nil, Nat.add_zero] at hPb hs1 ⊢
  refine lv_dup hx hb d3 rfl ?_
  refine lw_callI (B := s.heap.size) (h := [.inr (11, pv_fresh 11)]) (rest := [.ref s.heap.size]) hF hK hPb hS1 (fun _ h => h) (Nat.le_refl _) hs1 jC runC wC1 wC2 wC3 wC4 wC5 (Nat.le_of_ble_eq_true rfl) hl.1 d4 (Nat.le_of_ble_eq_true rfl) (Nat.le_of_ble_eq_true rfl) (Nat.le_of_ble_eq_true rfl) (Nat.le_trans (lw_slC f g) (Nat.le_of_ble_eq_true rfl)) (fun H2 locs2 hP2 hS2 _ => ?_)
  refine W.widen (k := 79) (n := 100000) (Nat.le_of_eq rfl) (lw_slC f g) ?_
  refine lv_astore_n (lv' := [(1, .ref s.heap.size), (0, .ref b)]) hx hb d7 rfl hl (by decide) rfl (fun ls hl => ?_)
  refine lw_new (ci := 12) (q := _) (h := gC f g) (B := s.heap.size) hF hK hP2 hS2 rfl rfl rfl lw_nM.1 lw_nM.2.1 lw_nM.2.2 d8 (Nat.le_of_ble_eq_true rfl) (Nat.le_of_ble_eq_true rfl) (fun H3 hPa hPb3 hS3 hs3 => ?_)
  have e79 : (gC f g).length = 79 := rfl
  rw [e79] at hPb3 hs3 ⊢
  refine lv_dup hx hb d11 rfl ?_
  refine lw_callI (B := s.heap.size + 79) (h := [.inr (12, pv_fresh 12)]) (rest := [.ref (s.heap.size + 79)]) hF hK hPb3 hS3 (fun _ h => h) (by omega) hs3 jM runM wM1 wM2 wM3 wM4 wM5 (Nat.le_of_ble_eq_true rfl) hl.1 d12 (Nat.le_of_ble_eq_true rfl) (Nat.le_of_ble_eq_true rfl) (Nat.le_of_ble_eq_true rfl) (Nat.le_trans (lw_slM f2 g2) (Nat.le_of_ble_eq_true rfl)) (fun H4 locs4 hP4 hS4 hk4 => ?_)
  have hPc : va_P D vwCl (pv_w cA s.heap.size (gC f g)) H4 := va_P_same hPa (fun k q hq => by
    obtain ⟨u1, u2⟩ := pv_w_get' hq
    have u3 : k < 79 := u2
    exact hk4 q.1 (by omega) (by show ¬ (s.heap.size + 79 ≤ q.1 ∧ q.1 < s.heap.size + 79 + 1); omega))
  have hsz : s.heap.size + 143 ≤ H4.size := by
    have h9 := (hP4 63 _ (pv_w_get rfl)).lt
    have h8 : s.heap.size + 79 + 63 < H4.size := h9
    omega
  refine W.widen (k := 143) (n := 200000) (Nat.le_of_eq rfl) (lw_slM f2 g2) ?_
  refine lv_astore_n (lv' := [(2, .ref (s.heap.size + 79)), (1, .ref s.heap.size), (0, .ref b)]) hx hb d15 rfl hl (by decide) rfl (fun ls hl => ?_)
  refine lv_iconst (v := 0) hx hb d16 (by decide) ?_
  refine lv_istore_n (lv' := [(3, .int 0), (2, .ref (s.heap.size + 79)), (1, .ref s.heap.size), (0, .ref b)]) hx hb d17 rfl hl (by decide) rfl (fun ls hl => ?_)
  refine lv_iload_n hx hb t3 rfl (lv_at hl 0 rfl) (lv_aload_n hx hb t4 rfl (lv_at hl 3 rfl) (va_slen hx hb hX hbl hnA hS4 t5 ?_))
  refine lv_bipush (v := 7) hx hb t6 (by decide) (lv_isub hx hb t7 ?_)
  refine lv_icmp_gt (tgt := 1452) hx hb t8 (by decide) (fun _ => lw_true hx hb hr hlocks hS4 (by decide) (by decide)) (fun h => ?_)
  have h7 : L = 7 := by
    have hq : L = 0 ∨ L = 1 ∨ L = 2 ∨ L = 3 ∨ L = 4 ∨ L = 5 ∨ L = 6 ∨ L = 7 := by omega
    rcases hq with q | q | q | q | q | q | q | q <;> subst q <;> first | rfl | exact absurd (by decide) h
  subst h7
  exact lw_round ⟨hF, hX, hbl, hl⟩ hr hlocks hK (Nat.le_refl _) hPc hP4 hS4 hsz (by decide) (by decide) (fr_at frC) (fr_at frM)
