theorem pv_mT (p : Nat) {w : Cond} (h : (decide (lw_look p = some w) && goodWord w) = true) : w ∈ pv_T := by
  simp only [Bool.and_eq_true, decide_eq_true_eq] at h
  exact List.mem_filter.mpr ⟨List.mem_of_getElem? (lw_look_ok h.1), h.2⟩
theorem pv_mN (p : Nat) {w : Cond} (h : (decide (lw_look p = some w) && pv_isN w) = true) : w ∈ pv_N := by
  simp only [Bool.and_eq_true, decide_eq_true_eq] at h
  exact List.mem_filter.mpr ⟨List.mem_of_getElem? (lw_look_ok h.1), h.2⟩
theorem lk_0_11_12_11_0 : pv_sem pv_prog [0, 11, 12, 11, 0] := fun own q h1 h2 => by cases h1; cases h2; exact Or.inl (pv_mT 590 (by decide +kernel))
theorem lk_7_12_206_145_3 : pv_sem pv_prog [7, 12, 206, 145, 3] := fun own q h1 h2 => by cases h1; cases h2; exact ⟨Or.inl (pv_mT 1547 (by decide +kernel)), (pv_mT 1548 (by decide +kernel)), by decide +kernel⟩
theorem lk_0_12_232_12_27 : pv_sem pv_prog [0, 12, 232, 12, 27] := fun own q h1 h2 => by cases h1; cases h2; exact Or.inl (pv_mT 1331 (by decide +kernel))
theorem lk_0_12_7_12_4 : pv_sem pv_prog [0, 12, 7, 12, 4] := fun own q h1 h2 => by cases h1; cases h2; exact Or.inl (pv_mT 1308 (by decide +kernel))
theorem lk_0_12_29_12_10 : pv_sem pv_prog [0, 12, 29, 12, 10] := fun own q h1 h2 => by cases h1; cases h2; exact Or.inl (pv_mT 1314 (by decide +kernel))
theorem lk_0_1_11_1_3 : pv_sem pv_prog [0, 1, 11, 1, 3] := fun own q h1 h2 => by cases h1; cases h2; exact Or.inl (pv_mT 411 (by decide +kernel))
theorem lk_0_12_262_12_32 : pv_sem pv_prog [0, 12, 262, 12, 32] := fun own q h1 h2 => by cases h1; cases h2; exact Or.inl (pv_mT 1336 (by decide +kernel))
theorem lk_0_11_26_11_2 : pv_sem pv_prog [0, 11, 26, 11, 2] := fun own q h1 h2 => by cases h1; cases h2; exact Or.inl (pv_mT 592 (by decide +kernel))
theorem lk_0_12_423_12_63 : pv_sem pv_prog [0, 12, 423, 12, 63] := fun own q h1 h2 => by cases h1; cases h2; exact Or.inl (pv_mT 1367 (by decide +kernel))
theorem lk_0_5_21_5_3 : pv_sem pv_prog [0, 5, 21, 5, 3] := fun own q h1 h2 => by cases h1; cases h2; exact Or.inl (pv_mT 491 (by decide +kernel))
theorem lk_0_11_19_11_1 : pv_sem pv_prog [0, 11, 19, 11, 1] := fun own q h1 h2 => by cases h1; cases h2; exact Or.inl (pv_mT 591 (by decide +kernel))
theorem lk_7_11_100_138_2 : pv_sem pv_prog [7, 11, 100, 138, 2] := fun own q h1 h2 => by cases h1; cases h2; exact ⟨Or.inl (pv_mT 637 (by decide +kernel)), (pv_mT 638 (by decide +kernel)), by decide +kernel⟩
theorem lk_0_5_13_5_1 : pv_sem pv_prog [0, 5, 13, 5, 1] := fun own q h1 h2 => by cases h1; cases h2; exact Or.inl (pv_mT 489 (by decide +kernel))
theorem lk_0_12_159_12_64 : pv_sem pv_prog [0, 12, 159, 12, 64] := fun own q h1 h2 => by cases h1; cases h2; exact Or.inl (pv_mT 1368 (by decide +kernel))
theorem lk_8_12_238_162_0_12 : pv_sem pv_prog [8, 12, 238, 162, 0, 12] := fun own M q h1 h2 h3 => by cases h1; cases h2; cases h3; exact ⟨Or.inl (pv_mT 1606 (by decide +kernel)), (pv_mT 1608 (by decide +kernel)), (pv_mT 93 (by decide +kernel)), by decide +kernel, rfl⟩
theorem lk_0_7_51_7_9 : pv_sem pv_prog [0, 7, 51, 7, 9] := fun own q h1 h2 => by cases h1; cases h2; exact Or.inl (pv_mT 386 (by decide +kernel))
theorem lk_7_12_214_149_2 : pv_sem pv_prog [7, 12, 214, 149, 2] := fun own q h1 h2 => by cases h1; cases h2; exact ⟨Or.inl (pv_mT 1550 (by decide +kernel)), (pv_mT 1551 (by decide +kernel)), by decide +kernel⟩
theorem lk_0_12_114_12_48 : pv_sem pv_prog [0, 12, 114, 12, 48] := fun own q h1 h2 => by cases h1; cases h2; exact Or.inl (pv_mT 1352 (by decide +kernel))
theorem lk_8_5_39_46_0_5 : pv_sem pv_prog [8, 5, 39, 46, 0, 5] := fun own M q h1 h2 h3 => by cases h1; cases h2; cases h3; exact ⟨Or.inl (pv_mT 715 (by decide +kernel)), (pv_mT 717 (by decide +kernel)), (pv_mT 8 (by decide +kernel)), by decide +kernel, rfl⟩
theorem lk_0_12_32_12_11 : pv_sem pv_prog [0, 12, 32, 12, 11] := fun own q h1 h2 => by cases h1; cases h2; exact Or.inl (pv_mT 1315 (by decide +kernel))
theorem lk_0_11_51_11_5 : pv_sem pv_prog [0, 11, 51, 11, 5] := fun own q h1 h2 => by cases h1; cases h2; exact Or.inl (pv_mT 595 (by decide +kernel))
theorem lk_0_12_377_12_2 : pv_sem pv_prog [0, 12, 377, 12, 2] := fun own q h1 h2 => by cases h1; cases h2; exact Or.inl (pv_mT 1306 (by decide +kernel))
theorem lk_0_6_33_6_7 : pv_sem pv_prog [0, 6, 33, 6, 7] := fun own q h1 h2 => by cases h1; cases h2; exact Or.inl (pv_mT 517 (by decide +kernel))
theorem lk_0_11_35_11_3 : pv_sem pv_prog [0, 11, 35, 11, 3] := fun own q h1 h2 => by cases h1; cases h2; exact Or.inl (pv_mT 593 (by decide +kernel))
theorem lk_0_12_16_12_6 : pv_sem pv_prog [0, 12, 16, 12, 6] := fun own q h1 h2 => by cases h1; cases h2; exact Or.inl (pv_mT 1310 (by decide +kernel))
theorem lk_0_2_40_2_9 : pv_sem pv_prog [0, 2, 40, 2, 9] := fun own q h1 h2 => by cases h1; cases h2; exact Or.inl (pv_mT 330 (by decide +kernel))
theorem lk_0_12_259_12_30 : pv_sem pv_prog [0, 12, 259, 12, 30] := fun own q h1 h2 => by cases h1; cases h2; exact Or.inl (pv_mT 1334 (by decide +kernel))
theorem lk_0_12_314_12_33 : pv_sem pv_prog [0, 12, 314, 12, 33] := fun own q h1 h2 => by cases h1; cases h2; exact Or.inl (pv_mT 1337 (by decide +kernel))
theorem lk_2_12_258_1048576 : pv_sem pv_prog [2, 12, 258, 1048576] := fun own h1 => by cases h1; exact (pv_mT 1629 (by decide +kernel))
theorem lk_0_1_22_1_0 : pv_sem pv_prog [0, 1, 22, 1, 0] := fun own q h1 h2 => by cases h1; cases h2; exact Or.inl (pv_mT 408 (by decide +kernel))
theorem lk_0_11_65_11_7 : pv_sem pv_prog [0, 11, 65, 11, 7] := fun own q h1 h2 => by cases h1; cases h2; exact Or.inl (pv_mT 597 (by decide +kernel))
theorem lk_0_12_226_12_26 : pv_sem pv_prog [0, 12, 226, 12, 26] := fun own q h1 h2 => by cases h1; cases h2; exact Or.inl (pv_mT 1330 (by decide +kernel))
theorem lk_0_12_255_12_31 : pv_sem pv_prog [0, 12, 255, 12, 31] := fun own q h1 h2 => by cases h1; cases h2; exact Or.inl (pv_mT 1335 (by decide +kernel))
theorem lk_7_11_154_139_1 : pv_sem pv_prog [7, 11, 154, 139, 1] := fun own q h1 h2 => by cases h1; cases h2; exact ⟨Or.inl (pv_mT 634 (by decide +kernel)), (pv_mT 635 (by decide +kernel)), by decide +kernel⟩
theorem lk_8_12_245_164_2_12 : pv_sem pv_prog [8, 12, 245, 164, 2, 12] := fun own M q h1 h2 h3 => by cases h1; cases h2; cases h3; exact ⟨Or.inl (pv_mT 1613 (by decide +kernel)), (pv_mT 1615 (by decide +kernel)), (pv_mT 94 (by decide +kernel)), by decide +kernel, rfl⟩
theorem lk_0_3_24_3_5 : pv_sem pv_prog [0, 3, 24, 3, 5] := fun own q h1 h2 => by cases h1; cases h2; exact Or.inl (pv_mT 201 (by decide +kernel))
theorem lk_0_6_11_6_0 : pv_sem pv_prog [0, 6, 11, 6, 0] := fun own q h1 h2 => by cases h1; cases h2; exact Or.inl (pv_mT 510 (by decide +kernel))
theorem lk_0_7_28_7_6 : pv_sem pv_prog [0, 7, 28, 7, 6] := fun own q h1 h2 => by cases h1; cases h2; exact Or.inl (pv_mT 380 (by decide +kernel))
theorem lk_0_12_38_12_13 : pv_sem pv_prog [0, 12, 38, 12, 13] := fun own q h1 h2 => by cases h1; cases h2; exact Or.inl (pv_mT 1317 (by decide +kernel))
theorem lk_0_12_111_12_47 : pv_sem pv_prog [0, 12, 111, 12, 47] := fun own q h1 h2 => by cases h1; cases h2; exact Or.inl (pv_mT 1351 (by decide +kernel))
theorem lk_0_12_162_12_65 : pv_sem pv_prog [0, 12, 162, 12, 65] := fun own q h1 h2 => by cases h1; cases h2; exact Or.inl (pv_mT 1369 (by decide +kernel))
theorem lk_8_11_103_21_1_3 : pv_sem pv_prog [8, 11, 103, 21, 1, 3] := fun own M q h1 h2 h3 => by cases h1; cases h2; cases h3; exact ⟨Or.inr ⟨"CliffGarden", pv_mN 640 (by decide +kernel)⟩, (pv_mT 642 (by decide +kernel)), (pv_mT 0 (by decide +kernel)), by decide +kernel, rfl⟩
theorem lk_8_11_147_22_1_3 : pv_sem pv_prog [8, 11, 147, 22, 1, 3] := fun own M q h1 h2 h3 => by cases h1; cases h2; cases h3; exact ⟨Or.inr ⟨"CliffGarden", pv_mN 668 (by decide +kernel)⟩, (pv_mT 670 (by decide +kernel)), (pv_mT 4 (by decide +kernel)), by decide +kernel, rfl⟩
theorem lk_0_1_30_1_2 : pv_sem pv_prog [0, 1, 30, 1, 2] := fun own q h1 h2 => by cases h1; cases h2; exact Or.inl (pv_mT 410 (by decide +kernel))
theorem lk_0_10_9_10_2 : pv_sem pv_prog [0, 10, 9, 10, 2] := fun own q h1 h2 => by cases h1; cases h2; exact Or.inl (pv_mT 433 (by decide +kernel))
theorem lk_0_12_44_12_15 : pv_sem pv_prog [0, 12, 44, 12, 15] := fun own q h1 h2 => by cases h1; cases h2; exact Or.inl (pv_mT 1319 (by decide +kernel))
theorem lk_8_12_265_169_0_12 : pv_sem pv_prog [8, 12, 265, 169, 0, 12] := fun own M q h1 h2 h3 => by cases h1; cases h2; cases h3; exact ⟨Or.inl (pv_mT 1652 (by decide +kernel)), (pv_mT 1654 (by decide +kernel)), (pv_mT 102 (by decide +kernel)), by decide +kernel, rfl⟩
theorem lk_0_1_18_1_4 : pv_sem pv_prog [0, 1, 18, 1, 4] := fun own q h1 h2 => by cases h1; cases h2; exact Or.inl (pv_mT 412 (by decide +kernel))
theorem lk_0_4_32_4_6 : pv_sem pv_prog [0, 4, 32, 4, 6] := fun own q h1 h2 => by cases h1; cases h2; exact Or.inl (pv_mT 547 (by decide +kernel))
theorem lk_0_5_32_7_8 : pv_sem pv_prog [0, 5, 32, 7, 8] := fun own q h1 h2 => by cases h1; cases h2; exact Or.inr ⟨"CliffGarden", pv_mN 385 (by decide +kernel)⟩
theorem lk_0_10_76_10_9 : pv_sem pv_prog [0, 10, 76, 10, 9] := fun own q h1 h2 => by cases h1; cases h2; exact Or.inl (pv_mT 441 (by decide +kernel))
theorem lk_0_11_176_9_1 : pv_sem pv_prog [0, 11, 176, 9, 1] := fun own q h1 h2 => by cases h1; cases h2; exact Or.inr ⟨"CliffGarden", pv_mN 476 (by decide +kernel)⟩
theorem lk_0_12_13_12_5 : pv_sem pv_prog [0, 12, 13, 12, 5] := fun own q h1 h2 => by cases h1; cases h2; exact Or.inl (pv_mT 1309 (by decide +kernel))
theorem lk_0_12_65_12_22 : pv_sem pv_prog [0, 12, 65, 12, 22] := fun own q h1 h2 => by cases h1; cases h2; exact Or.inl (pv_mT 1326 (by decide +kernel))
theorem lk_0_12_117_12_49 : pv_sem pv_prog [0, 12, 117, 12, 49] := fun own q h1 h2 => by cases h1; cases h2; exact Or.inl (pv_mT 1353 (by decide +kernel))
theorem lk_0_12_175_12_69 : pv_sem pv_prog [0, 12, 175, 12, 69] := fun own q h1 h2 => by cases h1; cases h2; exact Or.inl (pv_mT 1373 (by decide +kernel))
theorem lk_8_5_53_47_1_5 : pv_sem pv_prog [8, 5, 53, 47, 1, 5] := fun own M q h1 h2 h3 => by cases h1; cases h2; cases h3; exact ⟨Or.inl (pv_mT 809 (by decide +kernel)), (pv_mT 811 (by decide +kernel)), (pv_mT 9 (by decide +kernel)), by decide +kernel, rfl⟩
theorem lk_8_5_104_75_2_7 : pv_sem pv_prog [8, 5, 104, 75, 2, 7] := fun own M q h1 h2 h3 => by cases h1; cases h2; cases h3; exact ⟨Or.inr ⟨"CliffGarden", pv_mN 840 (by decide +kernel)⟩, (pv_mT 842 (by decide +kernel)), (pv_mT 16 (by decide +kernel)), by decide +kernel, rfl⟩
theorem lk_8_12_356_191_3_12 : pv_sem pv_prog [8, 12, 356, 191, 3, 12] := fun own M q h1 h2 h3 => by cases h1; cases h2; cases h3; exact ⟨Or.inl (pv_mT 1688 (by decide +kernel)), (pv_mT 1690 (by decide +kernel)), (pv_mT 110 (by decide +kernel)), by decide +kernel, rfl⟩
theorem lk_0_3_9_3_1 : pv_sem pv_prog [0, 3, 9, 3, 1] := fun own q h1 h2 => by cases h1; cases h2; exact Or.inl (pv_mT 188 (by decide +kernel))
theorem lk_0_3_58_3_0 : pv_sem pv_prog [0, 3, 58, 3, 0] := fun own q h1 h2 => by cases h1; cases h2; exact Or.inl (pv_mT 187 (by decide +kernel))
theorem lk_0_4_24_4_0 : pv_sem pv_prog [0, 4, 24, 4, 0] := fun own q h1 h2 => by cases h1; cases h2; exact Or.inl (pv_mT 541 (by decide +kernel))
theorem lk_0_8_47_8_2 : pv_sem pv_prog [0, 8, 47, 8, 2] := fun own q h1 h2 => by cases h1; cases h2; exact Or.inl (pv_mT 575 (by decide +kernel))
theorem lk_0_11_44_11_4 : pv_sem pv_prog [0, 11, 44, 11, 4] := fun own q h1 h2 => by cases h1; cases h2; exact Or.inl (pv_mT 594 (by decide +kernel))
theorem lk_0_11_92_11_11 : pv_sem pv_prog [0, 11, 92, 11, 11] := fun own q h1 h2 => by cases h1; cases h2; exact Or.inl (pv_mT 601 (by decide +kernel))
theorem lk_0_11_247_2_7 : pv_sem pv_prog [0, 11, 247, 2, 7] := fun own q h1 h2 => by cases h1; cases h2; exact Or.inr ⟨"CliffGarden", pv_mN 328 (by decide +kernel)⟩
theorem lk_0_12_35_12_12 : pv_sem pv_prog [0, 12, 35, 12, 12] := fun own q h1 h2 => by cases h1; cases h2; exact Or.inl (pv_mT 1316 (by decide +kernel))
theorem lk_0_12_56_12_19 : pv_sem pv_prog [0, 12, 56, 12, 19] := fun own q h1 h2 => by cases h1; cases h2; exact Or.inl (pv_mT 1323 (by decide +kernel))
theorem lk_0_12_81_12_37 : pv_sem pv_prog [0, 12, 81, 12, 37] := fun own q h1 h2 => by cases h1; cases h2; exact Or.inl (pv_mT 1341 (by decide +kernel))
theorem lk_0_12_135_12_55 : pv_sem pv_prog [0, 12, 135, 12, 55] := fun own q h1 h2 => by cases h1; cases h2; exact Or.inl (pv_mT 1359 (by decide +kernel))
theorem lk_0_12_199_12_77 : pv_sem pv_prog [0, 12, 199, 12, 77] := fun own q h1 h2 => by cases h1; cases h2; exact Or.inl (pv_mT 1381 (by decide +kernel))
theorem lk_0_12_202_12_1 : pv_sem pv_prog [0, 12, 202, 12, 1] := fun own q h1 h2 => by cases h1; cases h2; exact Or.inl (pv_mT 1305 (by decide +kernel))
theorem lk_8_1_38_76_3_7 : pv_sem pv_prog [8, 1, 38, 76, 3, 7] := fun own M q h1 h2 h3 => by cases h1; cases h2; cases h3; exact ⟨Or.inr ⟨"CliffGarden", pv_mN 908 (by decide +kernel)⟩, (pv_mT 910 (by decide +kernel)), (pv_mT 28 (by decide +kernel)), by decide +kernel, rfl⟩
theorem lk_8_3_70_22_1_3 : pv_sem pv_prog [8, 3, 70, 22, 1, 3] := fun own M q h1 h2 h3 => by cases h1; cases h2; cases h3; exact ⟨Or.inl (pv_mT 907 (by decide +kernel)), (pv_mT 670 (by decide +kernel)), (pv_mT 4 (by decide +kernel)), by decide +kernel, rfl⟩
theorem lk_8_12_268_167_2_12 : pv_sem pv_prog [8, 12, 268, 167, 2, 12] := fun own M q h1 h2 h3 => by cases h1; cases h2; cases h3; exact ⟨Or.inl (pv_mT 1638 (by decide +kernel)), (pv_mT 1640 (by decide +kernel)), (pv_mT 100 (by decide +kernel)), by decide +kernel, rfl⟩
theorem lk_8_12_359_193_3_12 : pv_sem pv_prog [8, 12, 359, 193, 3, 12] := fun own M q h1 h2 h3 => by cases h1; cases h2; cases h3; exact ⟨Or.inl (pv_mT 1731 (by decide +kernel)), (pv_mT 1733 (by decide +kernel)), (pv_mT 119 (by decide +kernel)), by decide +kernel, rfl⟩
theorem lk_0_3_27_3_6 : pv_sem pv_prog [0, 3, 27, 3, 6] := fun own q h1 h2 => by cases h1; cases h2; exact Or.inl (pv_mT 205 (by decide +kernel))
theorem lk_0_4_15_4_3 : pv_sem pv_prog [0, 4, 15, 4, 3] := fun own q h1 h2 => by cases h1; cases h2; exact Or.inl (pv_mT 544 (by decide +kernel))
theorem lk_0_5_27_7_7 : pv_sem pv_prog [0, 5, 27, 7, 7] := fun own q h1 h2 => by cases h1; cases h2; exact Or.inr ⟨"CliffGarden", pv_mN 381 (by decide +kernel)⟩
theorem lk_0_7_31_7_8 : pv_sem pv_prog [0, 7, 31, 7, 8] := fun own q h1 h2 => by cases h1; cases h2; exact Or.inl (pv_mT 384 (by decide +kernel))
theorem lk_0_8_11_8_0 : pv_sem pv_prog [0, 8, 11, 8, 0] := fun own q h1 h2 => by cases h1; cases h2; exact Or.inl (pv_mT 573 (by decide +kernel))
theorem lk_0_8_28_8_3 : pv_sem pv_prog [0, 8, 28, 8, 3] := fun own q h1 h2 => by cases h1; cases h2; exact Or.inl (pv_mT 577 (by decide +kernel))
theorem lk_0_10_33_10_0 : pv_sem pv_prog [0, 10, 33, 10, 0] := fun own q h1 h2 => by cases h1; cases h2; exact Or.inl (pv_mT 431 (by decide +kernel))
theorem lk_0_11_241_2_6 : pv_sem pv_prog [0, 11, 241, 2, 6] := fun own q h1 h2 => by cases h1; cases h2; exact Or.inr ⟨"CliffGarden", pv_mN 326 (by decide +kernel)⟩
theorem lk_0_12_20_12_7 : pv_sem pv_prog [0, 12, 20, 12, 7] := fun own q h1 h2 => by cases h1; cases h2; exact Or.inl (pv_mT 1311 (by decide +kernel))
theorem lk_0_12_47_12_16 : pv_sem pv_prog [0, 12, 47, 12, 16] := fun own q h1 h2 => by cases h1; cases h2; exact Or.inl (pv_mT 1320 (by decide +kernel))
theorem lk_0_12_123_12_51 : pv_sem pv_prog [0, 12, 123, 12, 51] := fun own q h1 h2 => by cases h1; cases h2; exact Or.inl (pv_mT 1355 (by decide +kernel))
theorem lk_0_12_171_12_68 : pv_sem pv_prog [0, 12, 171, 12, 68] := fun own q h1 h2 => by cases h1; cases h2; exact Or.inl (pv_mT 1372 (by decide +kernel))
theorem lk_0_12_336_12_0 : pv_sem pv_prog [0, 12, 336, 12, 0] := fun own q h1 h2 => by cases h1; cases h2; exact Or.inl (pv_mT 1304 (by decide +kernel))
theorem lk_7_5_64_50_2 : pv_sem pv_prog [7, 5, 64, 50, 2] := fun own q h1 h2 => by cases h1; cases h2; exact ⟨Or.inl (pv_mT 720 (by decide +kernel)), (pv_mT 721 (by decide +kernel)), by decide +kernel⟩
theorem lk_7_11_96_141_2 : pv_sem pv_prog [7, 11, 96, 141, 2] := fun own q h1 h2 => by cases h1; cases h2; exact ⟨Or.inl (pv_mT 631 (by decide +kernel)), (pv_mT 632 (by decide +kernel)), by decide +kernel⟩
theorem lk_7_12_210_148_2 : pv_sem pv_prog [7, 12, 210, 148, 2] := fun own q h1 h2 => by cases h1; cases h2; exact ⟨Or.inl (pv_mT 1544 (by decide +kernel)), (pv_mT 1545 (by decide +kernel)), by decide +kernel⟩
theorem lk_8_3_62_21_1_3 : pv_sem pv_prog [8, 3, 62, 21, 1, 3] := fun own M q h1 h2 h3 => by cases h1; cases h2; cases h3; exact ⟨Or.inl (pv_mT 672 (by decide +kernel)), (pv_mT 642 (by decide +kernel)), (pv_mT 0 (by decide +kernel)), by decide +kernel, rfl⟩
theorem lk_8_5_43_48_1_5 : pv_sem pv_prog [8, 5, 43, 48, 1, 5] := fun own M q h1 h2 h3 => by cases h1; cases h2; cases h3; exact ⟨Or.inl (pv_mT 829 (by decide +kernel)), (pv_mT 831 (by decide +kernel)), (pv_mT 14 (by decide +kernel)), by decide +kernel, rfl⟩
theorem lk_8_11_179_84_1_9 : pv_sem pv_prog [8, 11, 179, 84, 1, 9] := fun own M q h1 h2 h3 => by cases h1; cases h2; cases h3; exact ⟨Or.inr ⟨"CliffGarden", pv_mN 699 (by decide +kernel)⟩, (pv_mT 701 (by decide +kernel)), (pv_mT 5 (by decide +kernel)), by decide +kernel, rfl⟩
theorem lk_8_12_229_160_1_12 : pv_sem pv_prog [8, 12, 229, 160, 1, 12] := fun own M q h1 h2 h3 => by cases h1; cases h2; cases h3; exact ⟨Or.inl (pv_mT 1594 (by decide +kernel)), (pv_mT 1596 (by decide +kernel)), (pv_mT 91 (by decide +kernel)), by decide +kernel, rfl⟩
theorem lk_0_4_9_4_2 : pv_sem pv_prog [0, 4, 9, 4, 2] := fun own q h1 h2 => by cases h1; cases h2; exact Or.inl (pv_mT 543 (by decide +kernel))
theorem lk_0_4_21_4_5 : pv_sem pv_prog [0, 4, 21, 4, 5] := fun own q h1 h2 => by cases h1; cases h2; exact Or.inl (pv_mT 546 (by decide +kernel))
theorem lk_0_5_24_5_4 : pv_sem pv_prog [0, 5, 24, 5, 4] := fun own q h1 h2 => by cases h1; cases h2; exact Or.inl (pv_mT 492 (by decide +kernel))
theorem lk_0_6_15_6_1 : pv_sem pv_prog [0, 6, 15, 6, 1] := fun own q h1 h2 => by cases h1; cases h2; exact Or.inl (pv_mT 511 (by decide +kernel))
theorem lk_0_6_21_6_3 : pv_sem pv_prog [0, 6, 21, 6, 3] := fun own q h1 h2 => by cases h1; cases h2; exact Or.inl (pv_mT 513 (by decide +kernel))
theorem lk_0_6_27_6_5 : pv_sem pv_prog [0, 6, 27, 6, 5] := fun own q h1 h2 => by cases h1; cases h2; exact Or.inl (pv_mT 515 (by decide +kernel))
theorem lk_0_7_13_7_1 : pv_sem pv_prog [0, 7, 13, 7, 1] := fun own q h1 h2 => by cases h1; cases h2; exact Or.inl (pv_mT 370 (by decide +kernel))
theorem lk_0_8_15_8_1 : pv_sem pv_prog [0, 8, 15, 8, 1] := fun own q h1 h2 => by cases h1; cases h2; exact Or.inl (pv_mT 574 (by decide +kernel))
theorem lk_0_9_13_9_1 : pv_sem pv_prog [0, 9, 13, 9, 1] := fun own q h1 h2 => by cases h1; cases h2; exact Or.inl (pv_mT 475 (by decide +kernel))
theorem lk_0_10_24_10_6 : pv_sem pv_prog [0, 10, 24, 10, 6] := fun own q h1 h2 => by cases h1; cases h2; exact Or.inl (pv_mT 438 (by decide +kernel))
theorem lk_0_11_74_11_8 : pv_sem pv_prog [0, 11, 74, 11, 8] := fun own q h1 h2 => by cases h1; cases h2; exact Or.inl (pv_mT 598 (by decide +kernel))
theorem lk_0_11_88_11_10 : pv_sem pv_prog [0, 11, 88, 11, 10] := fun own q h1 h2 => by cases h1; cases h2; exact Or.inl (pv_mT 600 (by decide +kernel))
theorem lk_0_11_107_3_0 : pv_sem pv_prog [0, 11, 107, 3, 0] := fun own q h1 h2 => by cases h1; cases h2; exact Or.inr ⟨"CliffGarden", pv_mN 186 (by decide +kernel)⟩
theorem lk_0_11_115_3_1 : pv_sem pv_prog [0, 11, 115, 3, 1] := fun own q h1 h2 => by cases h1; cases h2; exact Or.inr ⟨"CliffGarden", pv_mN 190 (by decide +kernel)⟩
theorem lk_0_11_127_3_8 : pv_sem pv_prog [0, 11, 127, 3, 8] := fun own q h1 h2 => by cases h1; cases h2; exact Or.inr ⟨"CliffGarden", pv_mN 212 (by decide +kernel)⟩
theorem lk_0_11_225_0_8 : pv_sem pv_prog [0, 11, 225, 0, 8] := fun own q h1 h2 => by cases h1; cases h2; exact Or.inr ⟨"CliffGarden", pv_mN 284 (by decide +kernel)⟩
theorem lk_0_11_244_0_7 : pv_sem pv_prog [0, 11, 244, 0, 7] := fun own q h1 h2 => by cases h1; cases h2; exact Or.inr ⟨"CliffGarden", pv_mN 282 (by decide +kernel)⟩
theorem lk_0_12_41_12_14 : pv_sem pv_prog [0, 12, 41, 12, 14] := fun own q h1 h2 => by cases h1; cases h2; exact Or.inl (pv_mT 1318 (by decide +kernel))
theorem lk_0_12_78_12_36 : pv_sem pv_prog [0, 12, 78, 12, 36] := fun own q h1 h2 => by cases h1; cases h2; exact Or.inl (pv_mT 1340 (by decide +kernel))
theorem lk_0_12_120_12_50 : pv_sem pv_prog [0, 12, 120, 12, 50] := fun own q h1 h2 => by cases h1; cases h2; exact Or.inl (pv_mT 1354 (by decide +kernel))
theorem lk_0_12_132_12_54 : pv_sem pv_prog [0, 12, 132, 12, 54] := fun own q h1 h2 => by cases h1; cases h2; exact Or.inl (pv_mT 1358 (by decide +kernel))
theorem lk_0_12_141_12_57 : pv_sem pv_prog [0, 12, 141, 12, 57] := fun own q h1 h2 => by cases h1; cases h2; exact Or.inl (pv_mT 1361 (by decide +kernel))
theorem lk_0_12_178_12_70 : pv_sem pv_prog [0, 12, 178, 12, 70] := fun own q h1 h2 => by cases h1; cases h2; exact Or.inl (pv_mT 1374 (by decide +kernel))
theorem lk_0_12_181_12_71 : pv_sem pv_prog [0, 12, 181, 12, 71] := fun own q h1 h2 => by cases h1; cases h2; exact Or.inl (pv_mT 1375 (by decide +kernel))
theorem lk_0_12_184_12_72 : pv_sem pv_prog [0, 12, 184, 12, 72] := fun own q h1 h2 => by cases h1; cases h2; exact Or.inl (pv_mT 1376 (by decide +kernel))
theorem lk_0_12_196_12_76 : pv_sem pv_prog [0, 12, 196, 12, 76] := fun own q h1 h2 => by cases h1; cases h2; exact Or.inl (pv_mT 1380 (by decide +kernel))
theorem lk_0_12_248_12_34 : pv_sem pv_prog [0, 12, 248, 12, 34] := fun own q h1 h2 => by cases h1; cases h2; exact Or.inl (pv_mT 1338 (by decide +kernel))
theorem lk_0_12_380_12_3 : pv_sem pv_prog [0, 12, 380, 12, 3] := fun own q h1 h2 => by cases h1; cases h2; exact Or.inl (pv_mT 1307 (by decide +kernel))
theorem lk_7_3_52_250_2 : pv_sem pv_prog [7, 3, 52, 250, 2] := fun own q h1 h2 => by cases h1; cases h2; exact ⟨Or.inl (pv_mT 183 (by decide +kernel)), (pv_mT 184 (by decide +kernel)), by decide +kernel⟩
theorem lk_7_11_160_140_1 : pv_sem pv_prog [7, 11, 160, 140, 1] := fun own q h1 h2 => by cases h1; cases h2; exact ⟨Or.inl (pv_mT 683 (by decide +kernel)), (pv_mT 684 (by decide +kernel)), by decide +kernel⟩
theorem lk_7_12_362_146_2 : pv_sem pv_prog [7, 12, 362, 146, 2] := fun own q h1 h2 => by cases h1; cases h2; exact ⟨Or.inl (pv_mT 1735 (by decide +kernel)), (pv_mT 1736 (by decide +kernel)), by decide +kernel⟩
theorem lk_8_3_77_29_1_3 : pv_sem pv_prog [8, 3, 77, 29, 1, 3] := fun own M q h1 h2 h3 => by cases h1; cases h2; cases h3; exact ⟨Or.inl (pv_mT 878 (by decide +kernel)), (pv_mT 880 (by decide +kernel)), (pv_mT 23 (by decide +kernel)), by decide +kernel, rfl⟩
theorem lk_8_5_74_57_1_5 : pv_sem pv_prog [8, 5, 74, 57, 1, 5] := fun own M q h1 h2 h3 => by cases h1; cases h2; cases h3; exact ⟨Or.inl (pv_mT 813 (by decide +kernel)), (pv_mT 815 (by decide +kernel)), (pv_mT 10 (by decide +kernel)), by decide +kernel, rfl⟩
theorem lk_8_8_24_81_5_8 : pv_sem pv_prog [8, 8, 24, 81, 5, 8] := fun own M q h1 h2 h3 => by cases h1; cases h2; cases h3; exact ⟨Or.inl (pv_mT 1175 (by decide +kernel)), (pv_mT 1177 (by decide +kernel)), (pv_mT 70 (by decide +kernel)), by decide +kernel, rfl⟩
theorem lk_8_11_134_137_2_11 : pv_sem pv_prog [8, 11, 134, 137, 2, 11] := fun own M q h1 h2 h3 => by cases h1; cases h2; cases h3; exact ⟨Or.inl (pv_mT 656 (by decide +kernel)), (pv_mT 658 (by decide +kernel)), (pv_mT 3 (by decide +kernel)), by decide +kernel, rfl⟩
theorem lk_8_12_222_150_2_12 : pv_sem pv_prog [8, 12, 222, 150, 2, 12] := fun own M q h1 h2 h3 => by cases h1; cases h2; cases h3; exact ⟨Or.inl (pv_mT 1561 (by decide +kernel)), (pv_mT 1563 (by decide +kernel)), (pv_mT 90 (by decide +kernel)), by decide +kernel, rfl⟩
theorem lk_8_12_353_186_2_12 : pv_sem pv_prog [8, 12, 353, 186, 2, 12] := fun own M q h1 h2 h3 => by cases h1; cases h2; cases h3; exact ⟨Or.inl (pv_mT 1708 (by decide +kernel)), (pv_mT 1710 (by decide +kernel)), (pv_mT 115 (by decide +kernel)), by decide +kernel, rfl⟩
theorem lk_8_12_400_204_0_12 : pv_sem pv_prog [8, 12, 400, 204, 0, 12] := fun own M q h1 h2 h3 => by cases h1; cases h2; cases h3; exact ⟨Or.inl (pv_mT 1770 (by decide +kernel)), (pv_mT 1772 (by decide +kernel)), (pv_mT 125 (by decide +kernel)), by decide +kernel, rfl⟩
theorem lk_0_1_42_2_0 : pv_sem pv_prog [0, 1, 42, 2, 0] := fun own q h1 h2 => by cases h1; cases h2; exact Or.inr ⟨"CliffGarden", pv_mN 311 (by decide +kernel)⟩
theorem lk_0_2_11_2_0 : pv_sem pv_prog [0, 2, 11, 2, 0] := fun own q h1 h2 => by cases h1; cases h2; exact Or.inl (pv_mT 310 (by decide +kernel))
theorem lk_0_3_43_3_11 : pv_sem pv_prog [0, 3, 43, 3, 11] := fun own q h1 h2 => by cases h1; cases h2; exact Or.inl (pv_mT 220 (by decide +kernel))
theorem lk_0_4_18_4_4 : pv_sem pv_prog [0, 4, 18, 4, 4] := fun own q h1 h2 => by cases h1; cases h2; exact Or.inl (pv_mT 545 (by decide +kernel))
theorem lk_0_4_36_4_7 : pv_sem pv_prog [0, 4, 36, 4, 7] := fun own q h1 h2 => by cases h1; cases h2; exact Or.inl (pv_mT 548 (by decide +kernel))
theorem lk_0_6_18_6_2 : pv_sem pv_prog [0, 6, 18, 6, 2] := fun own q h1 h2 => by cases h1; cases h2; exact Or.inl (pv_mT 512 (by decide +kernel))
theorem lk_0_6_24_6_4 : pv_sem pv_prog [0, 6, 24, 6, 4] := fun own q h1 h2 => by cases h1; cases h2; exact Or.inl (pv_mT 514 (by decide +kernel))
theorem lk_0_10_18_10_4 : pv_sem pv_prog [0, 10, 18, 10, 4] := fun own q h1 h2 => by cases h1; cases h2; exact Or.inl (pv_mT 436 (by decide +kernel))
theorem lk_0_10_84_10_10 : pv_sem pv_prog [0, 10, 84, 10, 10] := fun own q h1 h2 => by cases h1; cases h2; exact Or.inl (pv_mT 442 (by decide +kernel))
theorem lk_0_11_81_11_9 : pv_sem pv_prog [0, 11, 81, 11, 9] := fun own q h1 h2 => by cases h1; cases h2; exact Or.inl (pv_mT 599 (by decide +kernel))
theorem lk_0_11_124_3_7 : pv_sem pv_prog [0, 11, 124, 3, 7] := fun own q h1 h2 => by cases h1; cases h2; exact Or.inr ⟨"CliffGarden", pv_mN 210 (by decide +kernel)⟩
theorem lk_0_11_144_3_12 : pv_sem pv_prog [0, 11, 144, 3, 12] := fun own q h1 h2 => by cases h1; cases h2; exact Or.inr ⟨"CliffGarden", pv_mN 225 (by decide +kernel)⟩
theorem lk_0_11_157_0_0 : pv_sem pv_prog [0, 11, 157, 0, 0] := fun own q h1 h2 => by cases h1; cases h2; exact Or.inr ⟨"CliffGarden", pv_mN 266 (by decide +kernel)⟩
theorem lk_0_11_166_0_2 : pv_sem pv_prog [0, 11, 166, 0, 2] := fun own q h1 h2 => by cases h1; cases h2; exact Or.inr ⟨"CliffGarden", pv_mN 272 (by decide +kernel)⟩
theorem lk_0_11_186_1_4 : pv_sem pv_prog [0, 11, 186, 1, 4] := fun own q h1 h2 => by cases h1; cases h2; exact Or.inr ⟨"CliffGarden", pv_mN 413 (by decide +kernel)⟩
theorem lk_0_11_332_3_6 : pv_sem pv_prog [0, 11, 332, 3, 6] := fun own q h1 h2 => by cases h1; cases h2; exact Or.inr ⟨"CliffGarden", pv_mN 208 (by decide +kernel)⟩
theorem lk_0_11_398_2_2 : pv_sem pv_prog [0, 11, 398, 2, 2] := fun own q h1 h2 => by cases h1; cases h2; exact Or.inr ⟨"CliffGarden", pv_mN 317 (by decide +kernel)⟩
theorem lk_0_12_23_12_8 : pv_sem pv_prog [0, 12, 23, 12, 8] := fun own q h1 h2 => by cases h1; cases h2; exact Or.inl (pv_mT 1312 (by decide +kernel))
theorem lk_0_12_26_12_9 : pv_sem pv_prog [0, 12, 26, 12, 9] := fun own q h1 h2 => by cases h1; cases h2; exact Or.inl (pv_mT 1313 (by decide +kernel))
theorem lk_0_12_50_12_17 : pv_sem pv_prog [0, 12, 50, 12, 17] := fun own q h1 h2 => by cases h1; cases h2; exact Or.inl (pv_mT 1321 (by decide +kernel))
theorem lk_0_12_53_12_18 : pv_sem pv_prog [0, 12, 53, 12, 18] := fun own q h1 h2 => by cases h1; cases h2; exact Or.inl (pv_mT 1322 (by decide +kernel))
theorem lk_0_12_59_12_20 : pv_sem pv_prog [0, 12, 59, 12, 20] := fun own q h1 h2 => by cases h1; cases h2; exact Or.inl (pv_mT 1324 (by decide +kernel))
theorem lk_0_12_62_12_21 : pv_sem pv_prog [0, 12, 62, 12, 21] := fun own q h1 h2 => by cases h1; cases h2; exact Or.inl (pv_mT 1325 (by decide +kernel))
theorem lk_0_12_71_12_24 : pv_sem pv_prog [0, 12, 71, 12, 24] := fun own q h1 h2 => by cases h1; cases h2; exact Or.inl (pv_mT 1328 (by decide +kernel))
theorem lk_0_12_74_12_25 : pv_sem pv_prog [0, 12, 74, 12, 25] := fun own q h1 h2 => by cases h1; cases h2; exact Or.inl (pv_mT 1329 (by decide +kernel))
theorem lk_0_12_96_12_42 : pv_sem pv_prog [0, 12, 96, 12, 42] := fun own q h1 h2 => by cases h1; cases h2; exact Or.inl (pv_mT 1346 (by decide +kernel))
theorem lk_0_12_105_12_45 : pv_sem pv_prog [0, 12, 105, 12, 45] := fun own q h1 h2 => by cases h1; cases h2; exact Or.inl (pv_mT 1349 (by decide +kernel))
theorem lk_0_12_126_12_52 : pv_sem pv_prog [0, 12, 126, 12, 52] := fun own q h1 h2 => by cases h1; cases h2; exact Or.inl (pv_mT 1356 (by decide +kernel))
theorem lk_0_12_129_12_53 : pv_sem pv_prog [0, 12, 129, 12, 53] := fun own q h1 h2 => by cases h1; cases h2; exact Or.inl (pv_mT 1357 (by decide +kernel))
theorem lk_0_12_150_12_60 : pv_sem pv_prog [0, 12, 150, 12, 60] := fun own q h1 h2 => by cases h1; cases h2; exact Or.inl (pv_mT 1364 (by decide +kernel))
theorem lk_0_12_165_12_66 : pv_sem pv_prog [0, 12, 165, 12, 66] := fun own q h1 h2 => by cases h1; cases h2; exact Or.inl (pv_mT 1370 (by decide +kernel))
theorem lk_0_12_168_12_67 : pv_sem pv_prog [0, 12, 168, 12, 67] := fun own q h1 h2 => by cases h1; cases h2; exact Or.inl (pv_mT 1371 (by decide +kernel))
theorem lk_0_12_235_12_28 : pv_sem pv_prog [0, 12, 235, 12, 28] := fun own q h1 h2 => by cases h1; cases h2; exact Or.inl (pv_mT 1332 (by decide +kernel))
theorem lk_0_12_326_12_35 : pv_sem pv_prog [0, 12, 326, 12, 35] := fun own q h1 h2 => by cases h1; cases h2; exact Or.inl (pv_mT 1339 (by decide +kernel))
theorem lk_2_12_432_1000000000 : pv_sem pv_prog [2, 12, 432, 1000000000] := fun own h1 => by cases h1; exact (pv_mT 1846 (by decide +kernel))
theorem lk_7_3_81_20_1 : pv_sem pv_prog [7, 3, 81, 20, 1] := fun own q h1 h2 => by cases h1; cases h2; exact ⟨Or.inl (pv_mT 882 (by decide +kernel)), (pv_mT 883 (by decide +kernel)), by decide +kernel⟩
theorem lk_7_5_126_60_1 : pv_sem pv_prog [7, 5, 126, 60, 1] := fun own q h1 h2 => by cases h1; cases h2; exact ⟨Or.inl (pv_mT 833 (by decide +kernel)), (pv_mT 834 (by decide +kernel)), by decide +kernel⟩
theorem lk_7_11_253_143_2 : pv_sem pv_prog [7, 11, 253, 143, 2] := fun own q h1 h2 => by cases h1; cases h2; exact ⟨Or.inl (pv_mT 1104 (by decide +kernel)), (pv_mT 1105 (by decide +kernel)), by decide +kernel⟩
theorem lk_7_12_394_147_2 : pv_sem pv_prog [7, 12, 394, 147, 2] := fun own q h1 h2 => by cases h1; cases h2; exact ⟨Or.inl (pv_mT 1782 (by decide +kernel)), (pv_mT 1783 (by decide +kernel)), by decide +kernel⟩
theorem lk_8_1_34_11_1_1 : pv_sem pv_prog [8, 1, 34, 11, 1, 1] := fun own M q h1 h2 h3 => by cases h1; cases h2; cases h3; exact ⟨Or.inl (pv_mT 893 (by decide +kernel)), (pv_mT 895 (by decide +kernel)), (pv_mT 25 (by decide +kernel)), by decide +kernel, rfl⟩
theorem lk_8_1_57_10_1_1 : pv_sem pv_prog [8, 1, 57, 10, 1, 1] := fun own M q h1 h2 h3 => by cases h1; cases h2; cases h3; exact ⟨Or.inl (pv_mT 897 (by decide +kernel)), (pv_mT 899 (by decide +kernel)), (pv_mT 26 (by decide +kernel)), by decide +kernel, rfl⟩
theorem lk_8_4_56_39_2_4 : pv_sem pv_prog [8, 4, 56, 39, 2, 4] := fun own M q h1 h2 h3 => by cases h1; cases h2; cases h3; exact ⟨Or.inl (pv_mT 1204 (by decide +kernel)), (pv_mT 1206 (by decide +kernel)), (pv_mT 74 (by decide +kernel)), by decide +kernel, rfl⟩
theorem lk_8_5_95_55_1_5 : pv_sem pv_prog [8, 5, 95, 55, 1, 5] := fun own M q h1 h2 h3 => by cases h1; cases h2; cases h3; exact ⟨Or.inl (pv_mT 855 (by decide +kernel)), (pv_mT 857 (by decide +kernel)), (pv_mT 19 (by decide +kernel)), by decide +kernel, rfl⟩
theorem lk_8_5_108_49_1_5 : pv_sem pv_prog [8, 5, 108, 49, 1, 5] := fun own M q h1 h2 h3 => by cases h1; cases h2; cases h3; exact ⟨Or.inl (pv_mT 825 (by decide +kernel)), (pv_mT 827 (by decide +kernel)), (pv_mT 13 (by decide +kernel)), by decide +kernel, rfl⟩
theorem lk_8_11_206_134_2_11 : pv_sem pv_prog [8, 11, 206, 134, 2, 11] := fun own M q h1 h2 h3 => by cases h1; cases h2; cases h3; exact ⟨Or.inl (pv_mT 959 (by decide +kernel)), (pv_mT 961 (by decide +kernel)), (pv_mT 36 (by decide +kernel)), by decide +kernel, rfl⟩
theorem lk_8_11_234_17_1_2 : pv_sem pv_prog [8, 11, 234, 17, 1, 2] := fun own M q h1 h2 h3 => by cases h1; cases h2; cases h3; exact ⟨Or.inr ⟨"CliffGarden", pv_mN 1056 (by decide +kernel)⟩, (pv_mT 1058 (by decide +kernel)), (pv_mT 53 (by decide +kernel)), by decide +kernel, rfl⟩
theorem lk_8_12_218_152_1_12 : pv_sem pv_prog [8, 12, 218, 152, 1, 12] := fun own M q h1 h2 h3 => by cases h1; cases h2; cases h3; exact ⟨Or.inl (pv_mT 1553 (by decide +kernel)), (pv_mT 1555 (by decide +kernel)), (pv_mT 89 (by decide +kernel)), by decide +kernel, rfl⟩
theorem lk_8_12_272_168_1_12 : pv_sem pv_prog [8, 12, 272, 168, 1, 12] := fun own M q h1 h2 h3 => by cases h1; cases h2; cases h3; exact ⟨Or.inl (pv_mT 1625 (by decide +kernel)), (pv_mT 1627 (by decide +kernel)), (pv_mT 97 (by decide +kernel)), by decide +kernel, rfl⟩
theorem lk_8_12_289_172_1_12 : pv_sem pv_prog [8, 12, 289, 172, 1, 12] := fun own M q h1 h2 h3 => by cases h1; cases h2; cases h3; exact ⟨Or.inl (pv_mT 1648 (by decide +kernel)), (pv_mT 1650 (by decide +kernel)), (pv_mT 101 (by decide +kernel)), by decide +kernel, rfl⟩
theorem lk_8_12_296_175_0_12 : pv_sem pv_prog [8, 12, 296, 175, 0, 12] := fun own M q h1 h2 h3 => by cases h1; cases h2; cases h3; exact ⟨Or.inl (pv_mT 1617 (by decide +kernel)), (pv_mT 1619 (by decide +kernel)), (pv_mT 95 (by decide +kernel)), by decide +kernel, rfl⟩
theorem lk_8_12_339_187_3_12 : pv_sem pv_prog [8, 12, 339, 187, 3, 12] := fun own M q h1 h2 h3 => by cases h1; cases h2; cases h3; exact ⟨Or.inl (pv_mT 1696 (by decide +kernel)), (pv_mT 1698 (by decide +kernel)), (pv_mT 112 (by decide +kernel)), by decide +kernel, rfl⟩
theorem lk_8_12_343_189_1_12 : pv_sem pv_prog [8, 12, 343, 189, 1, 12] := fun own M q h1 h2 h3 => by cases h1; cases h2; cases h3; exact ⟨Or.inl (pv_mT 1700 (by decide +kernel)), (pv_mT 1702 (by decide +kernel)), (pv_mT 113 (by decide +kernel)), by decide +kernel, rfl⟩
theorem lk_8_12_346_188_4_12 : pv_sem pv_prog [8, 12, 346, 188, 4, 12] := fun own M q h1 h2 h3 => by cases h1; cases h2; cases h3; exact ⟨Or.inl (pv_mT 1704 (by decide +kernel)), (pv_mT 1706 (by decide +kernel)), (pv_mT 114 (by decide +kernel)), by decide +kernel, rfl⟩
theorem lk_8_12_374_198_1_12 : pv_sem pv_prog [8, 12, 374, 198, 1, 12] := fun own M q h1 h2 h3 => by cases h1; cases h2; cases h3; exact ⟨Or.inl (pv_mT 1742 (by decide +kernel)), (pv_mT 1744 (by decide +kernel)), (pv_mT 120 (by decide +kernel)), by decide +kernel, rfl⟩
theorem lk_8_12_390_202_2_12 : pv_sem pv_prog [8, 12, 390, 202, 2, 12] := fun own M q h1 h2 h3 => by cases h1; cases h2; cases h3; exact ⟨Or.inl (pv_mT 1754 (by decide +kernel)), (pv_mT 1756 (by decide +kernel)), (pv_mT 122 (by decide +kernel)), by decide +kernel, rfl⟩
theorem lk_8_12_403_206_2_12 : pv_sem pv_prog [8, 12, 403, 206, 2, 12] := fun own M q h1 h2 h3 => by cases h1; cases h2; cases h3; exact ⟨Or.inl (pv_mT 1774 (by decide +kernel)), (pv_mT 1776 (by decide +kernel)), (pv_mT 126 (by decide +kernel)), by decide +kernel, rfl⟩
theorem lk_8_12_415_210_1_12 : pv_sem pv_prog [8, 12, 415, 210, 1, 12] := fun own M q h1 h2 h3 => by cases h1; cases h2; cases h3; exact ⟨Or.inl (pv_mT 1801 (by decide +kernel)), (pv_mT 1803 (by decide +kernel)), (pv_mT 128 (by decide +kernel)), by decide +kernel, rfl⟩
theorem lk_8_12_436_217_2_12 : pv_sem pv_prog [8, 12, 436, 217, 2, 12] := fun own M q h1 h2 h3 => by cases h1; cases h2; cases h3; exact ⟨Or.inl (pv_mT 1837 (by decide +kernel)), (pv_mT 1839 (by decide +kernel)), (pv_mT 131 (by decide +kernel)), by decide +kernel, rfl⟩
theorem lk_0_0_18_0_2 : pv_sem pv_prog [0, 0, 18, 0, 2] := fun own q h1 h2 => by cases h1; cases h2; exact Or.inl (pv_mT 270 (by decide +kernel))
theorem lk_0_1_26_1_1 : pv_sem pv_prog [0, 1, 26, 1, 1] := fun own q h1 h2 => by cases h1; cases h2; exact Or.inl (pv_mT 409 (by decide +kernel))
theorem lk_0_2_15_2_1 : pv_sem pv_prog [0, 2, 15, 2, 1] := fun own q h1 h2 => by cases h1; cases h2; exact Or.inl (pv_mT 312 (by decide +kernel))
theorem lk_0_2_18_2_2 : pv_sem pv_prog [0, 2, 18, 2, 2] := fun own q h1 h2 => by cases h1; cases h2; exact Or.inl (pv_mT 315 (by decide +kernel))
theorem lk_0_2_37_2_8 : pv_sem pv_prog [0, 2, 37, 2, 8] := fun own q h1 h2 => by cases h1; cases h2; exact Or.inl (pv_mT 329 (by decide +kernel))
theorem lk_0_2_53_2_10 : pv_sem pv_prog [0, 2, 53, 2, 10] := fun own q h1 h2 => by cases h1; cases h2; exact Or.inl (pv_mT 332 (by decide +kernel))
theorem lk_0_3_15_3_2 : pv_sem pv_prog [0, 3, 15, 3, 2] := fun own q h1 h2 => by cases h1; cases h2; exact Or.inl (pv_mT 192 (by decide +kernel))
theorem lk_0_3_30_3_7 : pv_sem pv_prog [0, 3, 30, 3, 7] := fun own q h1 h2 => by cases h1; cases h2; exact Or.inl (pv_mT 209 (by decide +kernel))
theorem lk_0_3_33_3_8 : pv_sem pv_prog [0, 3, 33, 3, 8] := fun own q h1 h2 => by cases h1; cases h2; exact Or.inl (pv_mT 211 (by decide +kernel))
theorem lk_0_3_36_3_9 : pv_sem pv_prog [0, 3, 36, 3, 9] := fun own q h1 h2 => by cases h1; cases h2; exact Or.inl (pv_mT 214 (by decide +kernel))
theorem lk_0_3_40_3_10 : pv_sem pv_prog [0, 3, 40, 3, 10] := fun own q h1 h2 => by cases h1; cases h2; exact Or.inl (pv_mT 218 (by decide +kernel))
theorem lk_0_3_49_3_13 : pv_sem pv_prog [0, 3, 49, 3, 13] := fun own q h1 h2 => by cases h1; cases h2; exact Or.inl (pv_mT 226 (by decide +kernel))
theorem lk_0_5_7_5_0 : pv_sem pv_prog [0, 5, 7, 5, 0] := fun own q h1 h2 => by cases h1; cases h2; exact Or.inl (pv_mT 488 (by decide +kernel))
theorem lk_0_5_17_5_2 : pv_sem pv_prog [0, 5, 17, 5, 2] := fun own q h1 h2 => by cases h1; cases h2; exact Or.inl (pv_mT 490 (by decide +kernel))
theorem lk_0_5_92_7_1 : pv_sem pv_prog [0, 5, 92, 7, 1] := fun own q h1 h2 => by cases h1; cases h2; exact Or.inr ⟨"CliffGarden", pv_mN 371 (by decide +kernel)⟩
theorem lk_0_6_30_6_6 : pv_sem pv_prog [0, 6, 30, 6, 6] := fun own q h1 h2 => by cases h1; cases h2; exact Or.inl (pv_mT 516 (by decide +kernel))
theorem lk_0_7_9_7_0 : pv_sem pv_prog [0, 7, 9, 7, 0] := fun own q h1 h2 => by cases h1; cases h2; exact Or.inl (pv_mT 369 (by decide +kernel))
theorem lk_0_7_22_7_4 : pv_sem pv_prog [0, 7, 22, 7, 4] := fun own q h1 h2 => by cases h1; cases h2; exact Or.inl (pv_mT 376 (by decide +kernel))
theorem lk_0_9_9_9_0 : pv_sem pv_prog [0, 9, 9, 9, 0] := fun own q h1 h2 => by cases h1; cases h2; exact Or.inl (pv_mT 473 (by decide +kernel))
theorem lk_0_10_15_10_3 : pv_sem pv_prog [0, 10, 15, 10, 3] := fun own q h1 h2 => by cases h1; cases h2; exact Or.inl (pv_mT 435 (by decide +kernel))
theorem lk_0_10_21_10_5 : pv_sem pv_prog [0, 10, 21, 10, 5] := fun own q h1 h2 => by cases h1; cases h2; exact Or.inl (pv_mT 437 (by decide +kernel))
theorem lk_0_10_27_10_7 : pv_sem pv_prog [0, 10, 27, 10, 7] := fun own q h1 h2 => by cases h1; cases h2; exact Or.inl (pv_mT 439 (by decide +kernel))
theorem lk_0_10_30_10_8 : pv_sem pv_prog [0, 10, 30, 10, 8] := fun own q h1 h2 => by cases h1; cases h2; exact Or.inl (pv_mT 440 (by decide +kernel))
theorem lk_0_11_111_3_2 : pv_sem pv_prog [0, 11, 111, 3, 2] := fun own q h1 h2 => by cases h1; cases h2; exact Or.inr ⟨"CliffGarden", pv_mN 193 (by decide +kernel)⟩
theorem lk_0_11_138_3_10 : pv_sem pv_prog [0, 11, 138, 3, 10] := fun own q h1 h2 => by cases h1; cases h2; exact Or.inr ⟨"CliffGarden", pv_mN 219 (by decide +kernel)⟩
theorem lk_0_11_141_3_11 : pv_sem pv_prog [0, 11, 141, 3, 11] := fun own q h1 h2 => by cases h1; cases h2; exact Or.inr ⟨"CliffGarden", pv_mN 222 (by decide +kernel)⟩
theorem lk_0_11_172_0_6 : pv_sem pv_prog [0, 11, 172, 0, 6] := fun own q h1 h2 => by cases h1; cases h2; exact Or.inr ⟨"CliffGarden", pv_mN 280 (by decide +kernel)⟩
theorem lk_0_11_213_2_10 : pv_sem pv_prog [0, 11, 213, 2, 10] := fun own q h1 h2 => by cases h1; cases h2; exact Or.inr ⟨"CliffGarden", pv_mN 333 (by decide +kernel)⟩
theorem lk_0_11_293_3_9 : pv_sem pv_prog [0, 11, 293, 3, 9] := fun own q h1 h2 => by cases h1; cases h2; exact Or.inr ⟨"CliffGarden", pv_mN 217 (by decide +kernel)⟩
theorem lk_0_11_367_10_2 : pv_sem pv_prog [0, 11, 367, 10, 2] := fun own q h1 h2 => by cases h1; cases h2; exact Or.inr ⟨"CliffGarden", pv_mN 434 (by decide +kernel)⟩
theorem lk_0_12_68_12_23 : pv_sem pv_prog [0, 12, 68, 12, 23] := fun own q h1 h2 => by cases h1; cases h2; exact Or.inl (pv_mT 1327 (by decide +kernel))
theorem lk_0_12_84_12_38 : pv_sem pv_prog [0, 12, 84, 12, 38] := fun own q h1 h2 => by cases h1; cases h2; exact Or.inl (pv_mT 1342 (by decide +kernel))
theorem lk_0_12_87_12_39 : pv_sem pv_prog [0, 12, 87, 12, 39] := fun own q h1 h2 => by cases h1; cases h2; exact Or.inl (pv_mT 1343 (by decide +kernel))
theorem lk_0_12_90_12_40 : pv_sem pv_prog [0, 12, 90, 12, 40] := fun own q h1 h2 => by cases h1; cases h2; exact Or.inl (pv_mT 1344 (by decide +kernel))
theorem lk_0_12_93_12_41 : pv_sem pv_prog [0, 12, 93, 12, 41] := fun own q h1 h2 => by cases h1; cases h2; exact Or.inl (pv_mT 1345 (by decide +kernel))
theorem lk_0_12_99_12_43 : pv_sem pv_prog [0, 12, 99, 12, 43] := fun own q h1 h2 => by cases h1; cases h2; exact Or.inl (pv_mT 1347 (by decide +kernel))
theorem lk_0_12_102_12_44 : pv_sem pv_prog [0, 12, 102, 12, 44] := fun own q h1 h2 => by cases h1; cases h2; exact Or.inl (pv_mT 1348 (by decide +kernel))
theorem lk_0_12_108_12_46 : pv_sem pv_prog [0, 12, 108, 12, 46] := fun own q h1 h2 => by cases h1; cases h2; exact Or.inl (pv_mT 1350 (by decide +kernel))
theorem lk_0_12_138_12_56 : pv_sem pv_prog [0, 12, 138, 12, 56] := fun own q h1 h2 => by cases h1; cases h2; exact Or.inl (pv_mT 1360 (by decide +kernel))
theorem lk_0_12_144_12_58 : pv_sem pv_prog [0, 12, 144, 12, 58] := fun own q h1 h2 => by cases h1; cases h2; exact Or.inl (pv_mT 1362 (by decide +kernel))
theorem lk_0_12_147_12_59 : pv_sem pv_prog [0, 12, 147, 12, 59] := fun own q h1 h2 => by cases h1; cases h2; exact Or.inl (pv_mT 1363 (by decide +kernel))
theorem lk_0_12_153_12_61 : pv_sem pv_prog [0, 12, 153, 12, 61] := fun own q h1 h2 => by cases h1; cases h2; exact Or.inl (pv_mT 1365 (by decide +kernel))
theorem lk_0_12_156_12_62 : pv_sem pv_prog [0, 12, 156, 12, 62] := fun own q h1 h2 => by cases h1; cases h2; exact Or.inl (pv_mT 1366 (by decide +kernel))
theorem lk_0_12_187_12_73 : pv_sem pv_prog [0, 12, 187, 12, 73] := fun own q h1 h2 => by cases h1; cases h2; exact Or.inl (pv_mT 1377 (by decide +kernel))
theorem lk_0_12_190_12_74 : pv_sem pv_prog [0, 12, 190, 12, 74] := fun own q h1 h2 => by cases h1; cases h2; exact Or.inl (pv_mT 1378 (by decide +kernel))
theorem lk_0_12_193_12_75 : pv_sem pv_prog [0, 12, 193, 12, 75] := fun own q h1 h2 => by cases h1; cases h2; exact Or.inl (pv_mT 1379 (by decide +kernel))
theorem lk_0_12_242_12_29 : pv_sem pv_prog [0, 12, 242, 12, 29] := fun own q h1 h2 => by cases h1; cases h2; exact Or.inl (pv_mT 1333 (by decide +kernel))
theorem lk_2_6_68_1000000000 : pv_sem pv_prog [2, 6, 68, 1000000000] := fun own h1 => by cases h1; exact (pv_mT 1143 (by decide +kernel))
theorem lk_2_11_175_65535 : pv_sem pv_prog [2, 11, 175, 65535] := fun own h1 => by cases h1; exact (pv_mT 694 (by decide +kernel))
theorem lk_2_14_266_858993459 : pv_sem pv_prog [2, 14, 266, 858993459] := fun own h1 => by cases h1; exact (pv_mT 1235 (by decide +kernel))
theorem lk_3_3_90_18446744073709551615 : pv_sem pv_prog [3, 3, 90, 18446744073709551615] := fun own h1 => by cases h1; exact (pv_mT 1016 (by decide +kernel))
theorem lk_3_11_228_18446744073709551615 : pv_sem pv_prog [3, 11, 228, 18446744073709551615] := fun own h1 => by cases h1; exact (pv_mT 1044 (by decide +kernel))
theorem lk_3_12_406_18446744073709551615 : pv_sem pv_prog [3, 12, 406, 18446744073709551615] := fun own h1 => by cases h1; exact (pv_mT 1789 (by decide +kernel))
theorem lk_3_12_456_3 : pv_sem pv_prog [3, 12, 456, 3] := fun own h1 => by cases h1; exact (pv_mT 1872 (by decide +kernel))
theorem lk_3_15_316_3689348814741910323 : pv_sem pv_prog [3, 15, 316, 3689348814741910323] := fun own h1 => by cases h1; exact (pv_mT 1111 (by decide +kernel))
theorem lk_6_3_84_0 : pv_sem pv_prog [6, 3, 84, 0] := fun own h1 => by cases h1; exact ⟨(pv_mT 1021 (by decide +kernel)), (pv_mT 752 (by decide +kernel)), (pv_mT 162 (by decide +kernel)), (pv_mT 753 (by decide +kernel))⟩
theorem lk_6_3_96_3 : pv_sem pv_prog [6, 3, 96, 3] := fun own h1 => by cases h1; exact ⟨(pv_mT 1049 (by decide +kernel)), (pv_mT 942 (by decide +kernel)), (pv_mT 166 (by decide +kernel)), (pv_mT 943 (by decide +kernel))⟩
theorem lk_6_6_45_2 : pv_sem pv_prog [6, 6, 45, 2] := fun own h1 => by cases h1; exact ⟨(pv_mT 1128 (by decide +kernel)), (pv_mT 1129 (by decide +kernel)), (pv_mT 162 (by decide +kernel)), (pv_mT 1130 (by decide +kernel))⟩
theorem lk_6_7_48_0 : pv_sem pv_prog [6, 7, 48, 0] := fun own h1 => by cases h1; exact ⟨(pv_mT 916 (by decide +kernel)), (pv_mT 752 (by decide +kernel)), (pv_mT 162 (by decide +kernel)), (pv_mT 753 (by decide +kernel))⟩
theorem lk_6_10_41_3 : pv_sem pv_prog [6, 10, 41, 3] := fun own h1 => by cases h1; exact ⟨(pv_mT 941 (by decide +kernel)), (pv_mT 942 (by decide +kernel)), (pv_mT 166 (by decide +kernel)), (pv_mT 943 (by decide +kernel))⟩
theorem lk_6_10_59_1 : pv_sem pv_prog [6, 10, 59, 1] := fun own h1 => by cases h1; exact ⟨(pv_mT 949 (by decide +kernel)), (pv_mT 755 (by decide +kernel)), (pv_mT 162 (by decide +kernel)), (pv_mT 756 (by decide +kernel))⟩
theorem lk_6_11_338_1 : pv_sem pv_prog [6, 11, 338, 1] := fun own h1 => by cases h1; exact ⟨(pv_mT 1030 (by decide +kernel)), (pv_mT 755 (by decide +kernel)), (pv_mT 162 (by decide +kernel)), (pv_mT 756 (by decide +kernel))⟩
theorem lk_7_0_36_250_2 : pv_sem pv_prog [7, 0, 36, 250, 2] := fun own q h1 h2 => by cases h1; cases h2; exact ⟨Or.inl (pv_mT 264 (by decide +kernel)), (pv_mT 184 (by decide +kernel)), by decide +kernel⟩
theorem lk_7_6_41_65_2 : pv_sem pv_prog [7, 6, 41, 65, 2] := fun own q h1 h2 => by cases h1; cases h2; exact ⟨Or.inl (pv_mT 1125 (by decide +kernel)), (pv_mT 1126 (by decide +kernel)), by decide +kernel⟩
theorem lk_7_8_18_250_2 : pv_sem pv_prog [7, 8, 18, 250, 2] := fun own q h1 h2 => by cases h1; cases h2; exact ⟨Or.inl (pv_mT 1174 (by decide +kernel)), (pv_mT 184 (by decide +kernel)), by decide +kernel⟩
theorem lk_7_11_257_142_2 : pv_sem pv_prog [7, 11, 257, 142, 2] := fun own q h1 h2 => by cases h1; cases h2; exact ⟨Or.inl (pv_mT 1113 (by decide +kernel)), (pv_mT 1114 (by decide +kernel)), by decide +kernel⟩
theorem lk_7_11_343_249_1 : pv_sem pv_prog [7, 11, 343, 249, 1] := fun own q h1 h2 => by cases h1; cases h2; exact ⟨Or.inl (pv_mT 1107 (by decide +kernel)), (pv_mT 1108 (by decide +kernel)), by decide +kernel⟩
theorem lk_7_12_429_220_2 : pv_sem pv_prog [7, 12, 429, 220, 2] := fun own q h1 h2 => by cases h1; cases h2; exact ⟨Or.inl (pv_mT 1850 (by decide +kernel)), (pv_mT 1851 (by decide +kernel)), by decide +kernel⟩
theorem lk_7_12_433_221_2 : pv_sem pv_prog [7, 12, 433, 221, 2] := fun own q h1 h2 => by cases h1; cases h2; exact ⟨Or.inl (pv_mT 1847 (by decide +kernel)), (pv_mT 1848 (by decide +kernel)), by decide +kernel⟩
theorem lk_7_12_474_237_1 : pv_sem pv_prog [7, 12, 474, 237, 1] := fun own q h1 h2 => by cases h1; cases h2; exact ⟨Or.inl (pv_mT 1919 (by decide +kernel)), (pv_mT 1920 (by decide +kernel)), by decide +kernel⟩
theorem lk_8_1_60_12_1_1 : pv_sem pv_prog [8, 1, 60, 12, 1, 1] := fun own M q h1 h2 h3 => by cases h1; cases h2; cases h3; exact ⟨Or.inl (pv_mT 974 (by decide +kernel)), (pv_mT 976 (by decide +kernel)), (pv_mT 39 (by decide +kernel)), by decide +kernel, rfl⟩
theorem lk_8_1_63_13_1_1 : pv_sem pv_prog [8, 1, 63, 13, 1, 1] := fun own M q h1 h2 h3 => by cases h1; cases h2; cases h3; exact ⟨Or.inl (pv_mT 982 (by decide +kernel)), (pv_mT 984 (by decide +kernel)), (pv_mT 41 (by decide +kernel)), by decide +kernel, rfl⟩
theorem lk_8_3_92_33_2_3 : pv_sem pv_prog [8, 3, 92, 33, 2, 3] := fun own M q h1 h2 h3 => by cases h1; cases h2; cases h3; exact ⟨Or.inl (pv_mT 1017 (by decide +kernel)), (pv_mT 1019 (by decide +kernel)), (pv_mT 48 (by decide +kernel)), by decide +kernel, rfl⟩
theorem lk_8_4_73_41_2_4 : pv_sem pv_prog [8, 4, 73, 41, 2, 4] := fun own M q h1 h2 h3 => by cases h1; cases h2; cases h3; exact ⟨Or.inl (pv_mT 1213 (by decide +kernel)), (pv_mT 1215 (by decide +kernel)), (pv_mT 76 (by decide +kernel)), by decide +kernel, rfl⟩
theorem lk_8_5_80_52_1_5 : pv_sem pv_prog [8, 5, 80, 52, 1, 5] := fun own M q h1 h2 h3 => by cases h1; cases h2; cases h3; exact ⟨Or.inl (pv_mT 847 (by decide +kernel)), (pv_mT 849 (by decide +kernel)), (pv_mT 17 (by decide +kernel)), by decide +kernel, rfl⟩
theorem lk_8_5_86_53_1_5 : pv_sem pv_prog [8, 5, 86, 53, 1, 5] := fun own M q h1 h2 h3 => by cases h1; cases h2; cases h3; exact ⟨Or.inl (pv_mT 851 (by decide +kernel)), (pv_mT 853 (by decide +kernel)), (pv_mT 18 (by decide +kernel)), by decide +kernel, rfl⟩
theorem lk_8_5_89_54_0_5 : pv_sem pv_prog [8, 5, 89, 54, 0, 5] := fun own M q h1 h2 h3 => by cases h1; cases h2; cases h3; exact ⟨Or.inl (pv_mT 864 (by decide +kernel)), (pv_mT 866 (by decide +kernel)), (pv_mT 21 (by decide +kernel)), by decide +kernel, rfl⟩
theorem lk_8_5_116_58_1_5 : pv_sem pv_prog [8, 5, 116, 58, 1, 5] := fun own M q h1 h2 h3 => by cases h1; cases h2; cases h3; exact ⟨Or.inl (pv_mT 817 (by decide +kernel)), (pv_mT 819 (by decide +kernel)), (pv_mT 11 (by decide +kernel)), by decide +kernel, rfl⟩
theorem lk_8_5_121_59_1_5 : pv_sem pv_prog [8, 5, 121, 59, 1, 5] := fun own M q h1 h2 h3 => by cases h1; cases h2; cases h3; exact ⟨Or.inl (pv_mT 821 (by decide +kernel)), (pv_mT 823 (by decide +kernel)), (pv_mT 12 (by decide +kernel)), by decide +kernel, rfl⟩
theorem lk_8_6_57_68_1_6 : pv_sem pv_prog [8, 6, 57, 68, 1, 6] := fun own M q h1 h2 h3 => by cases h1; cases h2; cases h3; exact ⟨Or.inl (pv_mT 1135 (by decide +kernel)), (pv_mT 1137 (by decide +kernel)), (pv_mT 62 (by decide +kernel)), by decide +kernel, rfl⟩
theorem lk_8_6_69_70_4_6 : pv_sem pv_prog [8, 6, 69, 70, 4, 6] := fun own M q h1 h2 h3 => by cases h1; cases h2; cases h3; exact ⟨Or.inl (pv_mT 1144 (by decide +kernel)), (pv_mT 1146 (by decide +kernel)), (pv_mT 64 (by decide +kernel)), by decide +kernel, rfl⟩
theorem lk_8_7_38_77_3_7 : pv_sem pv_prog [8, 7, 38, 77, 3, 7] := fun own M q h1 h2 h3 => by cases h1; cases h2; cases h3; exact ⟨Or.inl (pv_mT 912 (by decide +kernel)), (pv_mT 914 (by decide +kernel)), (pv_mT 29 (by decide +kernel)), by decide +kernel, rfl⟩
theorem lk_8_10_53_24_1_3 : pv_sem pv_prog [8, 10, 53, 24, 1, 3] := fun own M q h1 h2 h3 => by cases h1; cases h2; cases h3; exact ⟨Or.inr ⟨"CliffGarden", pv_mN 945 (by decide +kernel)⟩, (pv_mT 947 (by decide +kernel)), (pv_mT 34 (by decide +kernel)), by decide +kernel, rfl⟩
theorem lk_8_10_87_91_2_10 : pv_sem pv_prog [8, 10, 87, 91, 2, 10] := fun own M q h1 h2 h3 => by cases h1; cases h2; cases h3; exact ⟨Or.inl (pv_mT 1247 (by decide +kernel)), (pv_mT 1249 (by decide +kernel)), (pv_mT 81 (by decide +kernel)), by decide +kernel, rfl⟩
theorem lk_8_11_130_26_1_3 : pv_sem pv_prog [8, 11, 130, 26, 1, 3] := fun own M q h1 h2 h3 => by cases h1; cases h2; cases h3; exact ⟨Or.inr ⟨"CliffGarden", pv_mN 644 (by decide +kernel)⟩, (pv_mT 646 (by decide +kernel)), (pv_mT 1 (by decide +kernel)), by decide +kernel, rfl⟩
theorem lk_8_11_192_6_1_1 : pv_sem pv_prog [8, 11, 192, 6, 1, 1] := fun own M q h1 h2 h3 => by cases h1; cases h2; cases h3; exact ⟨Or.inr ⟨"CliffGarden", pv_mN 889 (by decide +kernel)⟩, (pv_mT 891 (by decide +kernel)), (pv_mT 24 (by decide +kernel)), by decide +kernel, rfl⟩
theorem lk_8_11_196_4_2_1 : pv_sem pv_prog [8, 11, 196, 4, 2, 1] := fun own M q h1 h2 h3 => by cases h1; cases h2; cases h3; exact ⟨Or.inr ⟨"CliffGarden", pv_mN 921 (by decide +kernel)⟩, (pv_mT 923 (by decide +kernel)), (pv_mT 30 (by decide +kernel)), by decide +kernel, rfl⟩
theorem lk_8_11_199_5_1_1 : pv_sem pv_prog [8, 11, 199, 5, 1, 1] := fun own M q h1 h2 h3 => by cases h1; cases h2; cases h3; exact ⟨Or.inr ⟨"CliffGarden", pv_mN 925 (by decide +kernel)⟩, (pv_mT 927 (by decide +kernel)), (pv_mT 31 (by decide +kernel)), by decide +kernel, rfl⟩
theorem lk_8_11_202_128_0_11 : pv_sem pv_prog [8, 11, 202, 128, 0, 11] := fun own M q h1 h2 h3 => by cases h1; cases h2; cases h3; exact ⟨Or.inl (pv_mT 933 (by decide +kernel)), (pv_mT 935 (by decide +kernel)), (pv_mT 32 (by decide +kernel)), by decide +kernel, rfl⟩
theorem lk_8_11_210_132_0_11 : pv_sem pv_prog [8, 11, 210, 132, 0, 11] := fun own M q h1 h2 h3 => by cases h1; cases h2; cases h3; exact ⟨Or.inl (pv_mT 998 (by decide +kernel)), (pv_mT 1000 (by decide +kernel)), (pv_mT 44 (by decide +kernel)), by decide +kernel, rfl⟩
theorem lk_8_11_238_136_2_11 : pv_sem pv_prog [8, 11, 238, 136, 2, 11] := fun own M q h1 h2 h3 => by cases h1; cases h2; cases h3; exact ⟨Or.inl (pv_mT 1068 (by decide +kernel)), (pv_mT 1070 (by decide +kernel)), (pv_mT 55 (by decide +kernel)), by decide +kernel, rfl⟩
theorem lk_8_11_249_1_3_0 : pv_sem pv_prog [8, 11, 249, 1, 3, 0] := fun own M q h1 h2 h3 => by cases h1; cases h2; cases h3; exact ⟨Or.inr ⟨"CliffGarden", pv_mN 1096 (by decide +kernel)⟩, (pv_mT 1098 (by decide +kernel)), (pv_mT 58 (by decide +kernel)), by decide +kernel, rfl⟩
theorem lk_8_11_261_63_1_6 : pv_sem pv_prog [8, 11, 261, 63, 1, 6] := fun own M q h1 h2 h3 => by cases h1; cases h2; cases h3; exact ⟨Or.inr ⟨"CliffGarden", pv_mN 1116 (by decide +kernel)⟩, (pv_mT 1118 (by decide +kernel)), (pv_mT 59 (by decide +kernel)), by decide +kernel, rfl⟩
theorem lk_8_11_268_67_0_6 : pv_sem pv_prog [8, 11, 268, 67, 0, 6] := fun own M q h1 h2 h3 => by cases h1; cases h2; cases h3; exact ⟨Or.inr ⟨"CliffGarden", pv_mN 1131 (by decide +kernel)⟩, (pv_mT 1133 (by decide +kernel)), (pv_mT 61 (by decide +kernel)), by decide +kernel, rfl⟩
theorem lk_8_11_271_72_0_6 : pv_sem pv_prog [8, 11, 271, 72, 0, 6] := fun own M q h1 h2 h3 => by cases h1; cases h2; cases h3; exact ⟨Or.inr ⟨"CliffGarden", pv_mN 1153 (by decide +kernel)⟩, (pv_mT 1155 (by decide +kernel)), (pv_mT 66 (by decide +kernel)), by decide +kernel, rfl⟩
theorem lk_8_11_274_73_1_6 : pv_sem pv_prog [8, 11, 274, 73, 1, 6] := fun own M q h1 h2 h3 => by cases h1; cases h2; cases h3; exact ⟨Or.inr ⟨"CliffGarden", pv_mN 1157 (by decide +kernel)⟩, (pv_mT 1159 (by decide +kernel)), (pv_mT 67 (by decide +kernel)), by decide +kernel, rfl⟩
theorem lk_8_12_251_163_0_12 : pv_sem pv_prog [8, 12, 251, 163, 0, 12] := fun own M q h1 h2 h3 => by cases h1; cases h2; cases h3; exact ⟨Or.inl (pv_mT 1630 (by decide +kernel)), (pv_mT 1632 (by decide +kernel)), (pv_mT 98 (by decide +kernel)), by decide +kernel, rfl⟩
theorem lk_8_12_283_173_0_12 : pv_sem pv_prog [8, 12, 283, 173, 0, 12] := fun own M q h1 h2 h3 => by cases h1; cases h2; cases h3; exact ⟨Or.inl (pv_mT 1621 (by decide +kernel)), (pv_mT 1623 (by decide +kernel)), (pv_mT 96 (by decide +kernel)), by decide +kernel, rfl⟩
theorem lk_8_12_293_174_1_12 : pv_sem pv_prog [8, 12, 293, 174, 1, 12] := fun own M q h1 h2 h3 => by cases h1; cases h2; cases h3; exact ⟨Or.inl (pv_mT 1656 (by decide +kernel)), (pv_mT 1658 (by decide +kernel)), (pv_mT 103 (by decide +kernel)), by decide +kernel, rfl⟩
theorem lk_8_12_299_176_0_12 : pv_sem pv_prog [8, 12, 299, 176, 0, 12] := fun own M q h1 h2 h3 => by cases h1; cases h2; cases h3; exact ⟨Or.inl (pv_mT 1668 (by decide +kernel)), (pv_mT 1670 (by decide +kernel)), (pv_mT 106 (by decide +kernel)), by decide +kernel, rfl⟩
theorem lk_8_12_305_177_1_12 : pv_sem pv_prog [8, 12, 305, 177, 1, 12] := fun own M q h1 h2 h3 => by cases h1; cases h2; cases h3; exact ⟨Or.inl (pv_mT 1672 (by decide +kernel)), (pv_mT 1674 (by decide +kernel)), (pv_mT 107 (by decide +kernel)), by decide +kernel, rfl⟩
theorem lk_8_12_320_182_0_12 : pv_sem pv_prog [8, 12, 320, 182, 0, 12] := fun own M q h1 h2 h3 => by cases h1; cases h2; cases h3; exact ⟨Or.inl (pv_mT 1602 (by decide +kernel)), (pv_mT 1604 (by decide +kernel)), (pv_mT 92 (by decide +kernel)), by decide +kernel, rfl⟩
theorem lk_8_12_333_185_2_12 : pv_sem pv_prog [8, 12, 333, 185, 2, 12] := fun own M q h1 h2 h3 => by cases h1; cases h2; cases h3; exact ⟨Or.inl (pv_mT 1712 (by decide +kernel)), (pv_mT 1714 (by decide +kernel)), (pv_mT 116 (by decide +kernel)), by decide +kernel, rfl⟩
theorem lk_8_12_350_190_1_12 : pv_sem pv_prog [8, 12, 350, 190, 1, 12] := fun own M q h1 h2 h3 => by cases h1; cases h2; cases h3; exact ⟨Or.inl (pv_mT 1692 (by decide +kernel)), (pv_mT 1694 (by decide +kernel)), (pv_mT 111 (by decide +kernel)), by decide +kernel, rfl⟩
theorem lk_8_12_368_195_0_12 : pv_sem pv_prog [8, 12, 368, 195, 0, 12] := fun own M q h1 h2 h3 => by cases h1; cases h2; cases h3; exact ⟨Or.inl (pv_mT 1723 (by decide +kernel)), (pv_mT 1725 (by decide +kernel)), (pv_mT 117 (by decide +kernel)), by decide +kernel, rfl⟩
theorem lk_8_12_386_201_4_12 : pv_sem pv_prog [8, 12, 386, 201, 4, 12] := fun own M q h1 h2 h3 => by cases h1; cases h2; cases h3; exact ⟨Or.inl (pv_mT 1762 (by decide +kernel)), (pv_mT 1764 (by decide +kernel)), (pv_mT 124 (by decide +kernel)), by decide +kernel, rfl⟩
theorem lk_8_12_397_205_3_12 : pv_sem pv_prog [8, 12, 397, 205, 3, 12] := fun own M q h1 h2 h3 => by cases h1; cases h2; cases h3; exact ⟨Or.inl (pv_mT 1778 (by decide +kernel)), (pv_mT 1780 (by decide +kernel)), (pv_mT 127 (by decide +kernel)), by decide +kernel, rfl⟩
theorem lk_8_12_418_212_2_12 : pv_sem pv_prog [8, 12, 418, 212, 2, 12] := fun own M q h1 h2 h3 => by cases h1; cases h2; cases h3; exact ⟨Or.inl (pv_mT 1809 (by decide +kernel)), (pv_mT 1811 (by decide +kernel)), (pv_mT 129 (by decide +kernel)), by decide +kernel, rfl⟩
theorem lk_8_12_426_218_2_12 : pv_sem pv_prog [8, 12, 426, 218, 2, 12] := fun own M q h1 h2 h3 => by cases h1; cases h2; cases h3; exact ⟨Or.inl (pv_mT 1829 (by decide +kernel)), (pv_mT 1831 (by decide +kernel)), (pv_mT 130 (by decide +kernel)), by decide +kernel, rfl⟩
theorem lk_8_12_449_225_2_12 : pv_sem pv_prog [8, 12, 449, 225, 2, 12] := fun own M q h1 h2 h3 => by cases h1; cases h2; cases h3; exact ⟨Or.inl (pv_mT 1857 (by decide +kernel)), (pv_mT 1859 (by decide +kernel)), (pv_mT 133 (by decide +kernel)), by decide +kernel, rfl⟩
theorem lk_8_12_480_239_2_12 : pv_sem pv_prog [8, 12, 480, 239, 2, 12] := fun own M q h1 h2 h3 => by cases h1; cases h2; cases h3; exact ⟨Or.inl (pv_mT 1907 (by decide +kernel)), (pv_mT 1909 (by decide +kernel)), (pv_mT 139 (by decide +kernel)), by decide +kernel, rfl⟩
theorem lk_8_12_483_240_2_12 : pv_sem pv_prog [8, 12, 483, 240, 2, 12] := fun own M q h1 h2 h3 => by cases h1; cases h2; cases h3; exact ⟨Or.inl (pv_mT 1911 (by decide +kernel)), (pv_mT 1913 (by decide +kernel)), (pv_mT 140 (by decide +kernel)), by decide +kernel, rfl⟩
theorem lk_8_12_492_246_1_12 : pv_sem pv_prog [8, 12, 492, 246, 1, 12] := fun own M q h1 h2 h3 => by cases h1; cases h2; cases h3; exact ⟨Or.inl (pv_mT 1942 (by decide +kernel)), (pv_mT 1944 (by decide +kernel)), (pv_mT 144 (by decide +kernel)), by decide +kernel, rfl⟩
theorem lk_10_5_132_0 : pv_sem pv_prog [10, 5, 132, 0] := trivial
theorem lk_0_0_15_0_1 : pv_sem pv_prog [0, 0, 15, 0, 1] := fun own q h1 h2 => by cases h1; cases h2; exact Or.inl (pv_mT 267 (by decide +kernel))
theorem lk_0_0_21_0_3 : pv_sem pv_prog [0, 0, 21, 0, 3] := fun own q h1 h2 => by cases h1; cases h2; exact Or.inl (pv_mT 273 (by decide +kernel))
theorem lk_0_0_24_0_4 : pv_sem pv_prog [0, 0, 24, 0, 4] := fun own q h1 h2 => by cases h1; cases h2; exact Or.inl (pv_mT 275 (by decide +kernel))
theorem lk_0_0_27_0_5 : pv_sem pv_prog [0, 0, 27, 0, 5] := fun own q h1 h2 => by cases h1; cases h2; exact Or.inl (pv_mT 277 (by decide +kernel))
theorem lk_0_0_30_0_6 : pv_sem pv_prog [0, 0, 30, 0, 6] := fun own q h1 h2 => by cases h1; cases h2; exact Or.inl (pv_mT 279 (by decide +kernel))
theorem lk_0_1_72_3_2 : pv_sem pv_prog [0, 1, 72, 3, 2] := fun own q h1 h2 => by cases h1; cases h2; exact Or.inr ⟨"CliffGarden", pv_mN 194 (by decide +kernel)⟩
theorem lk_0_1_75_3_1 : pv_sem pv_prog [0, 1, 75, 3, 1] := fun own q h1 h2 => by cases h1; cases h2; exact Or.inr ⟨"CliffGarden", pv_mN 191 (by decide +kernel)⟩
theorem lk_0_1_78_3_3 : pv_sem pv_prog [0, 1, 78, 3, 3] := fun own q h1 h2 => by cases h1; cases h2; exact Or.inr ⟨"CliffGarden", pv_mN 197 (by decide +kernel)⟩
theorem lk_0_1_81_3_8 : pv_sem pv_prog [0, 1, 81, 3, 8] := fun own q h1 h2 => by cases h1; cases h2; exact Or.inr ⟨"CliffGarden", pv_mN 213 (by decide +kernel)⟩
theorem lk_0_1_84_0_8 : pv_sem pv_prog [0, 1, 84, 0, 8] := fun own q h1 h2 => by cases h1; cases h2; exact Or.inr ⟨"CliffGarden", pv_mN 283 (by decide +kernel)⟩
theorem lk_0_1_90_0_1 : pv_sem pv_prog [0, 1, 90, 0, 1] := fun own q h1 h2 => by cases h1; cases h2; exact Or.inr ⟨"CliffGarden", pv_mN 269 (by decide +kernel)⟩
theorem lk_0_1_96_3_5 : pv_sem pv_prog [0, 1, 96, 3, 5] := fun own q h1 h2 => by cases h1; cases h2; exact Or.inr ⟨"CliffGarden", pv_mN 203 (by decide +kernel)⟩
theorem lk_0_1_99_3_6 : pv_sem pv_prog [0, 1, 99, 3, 6] := fun own q h1 h2 => by cases h1; cases h2; exact Or.inr ⟨"CliffGarden", pv_mN 207 (by decide +kernel)⟩
theorem lk_0_1_105_3_9 : pv_sem pv_prog [0, 1, 105, 3, 9] := fun own q h1 h2 => by cases h1; cases h2; exact Or.inr ⟨"CliffGarden", pv_mN 216 (by decide +kernel)⟩
theorem lk_0_1_109_2_1 : pv_sem pv_prog [0, 1, 109, 2, 1] := fun own q h1 h2 => by cases h1; cases h2; exact Or.inr ⟨"CliffGarden", pv_mN 313 (by decide +kernel)⟩
theorem lk_0_1_110_2_2 : pv_sem pv_prog [0, 1, 110, 2, 2] := fun own q h1 h2 => by cases h1; cases h2; exact Or.inr ⟨"CliffGarden", pv_mN 316 (by decide +kernel)⟩
theorem lk_0_1_111_2_3 : pv_sem pv_prog [0, 1, 111, 2, 3] := fun own q h1 h2 => by cases h1; cases h2; exact Or.inr ⟨"CliffGarden", pv_mN 319 (by decide +kernel)⟩
theorem lk_0_1_114_2_4 : pv_sem pv_prog [0, 1, 114, 2, 4] := fun own q h1 h2 => by cases h1; cases h2; exact Or.inr ⟨"CliffGarden", pv_mN 321 (by decide +kernel)⟩
theorem lk_0_1_115_2_5 : pv_sem pv_prog [0, 1, 115, 2, 5] := fun own q h1 h2 => by cases h1; cases h2; exact Or.inr ⟨"CliffGarden", pv_mN 323 (by decide +kernel)⟩
theorem lk_0_2_21_2_3 : pv_sem pv_prog [0, 2, 21, 2, 3] := fun own q h1 h2 => by cases h1; cases h2; exact Or.inl (pv_mT 318 (by decide +kernel))
theorem lk_0_2_25_2_4 : pv_sem pv_prog [0, 2, 25, 2, 4] := fun own q h1 h2 => by cases h1; cases h2; exact Or.inl (pv_mT 320 (by decide +kernel))
theorem lk_0_2_28_2_5 : pv_sem pv_prog [0, 2, 28, 2, 5] := fun own q h1 h2 => by cases h1; cases h2; exact Or.inl (pv_mT 322 (by decide +kernel))
theorem lk_0_2_31_2_6 : pv_sem pv_prog [0, 2, 31, 2, 6] := fun own q h1 h2 => by cases h1; cases h2; exact Or.inl (pv_mT 325 (by decide +kernel))
theorem lk_0_2_44_3_5 : pv_sem pv_prog [0, 2, 44, 3, 5] := fun own q h1 h2 => by cases h1; cases h2; exact Or.inr ⟨"CliffGarden", pv_mN 202 (by decide +kernel)⟩
theorem lk_0_2_47_3_6 : pv_sem pv_prog [0, 2, 47, 3, 6] := fun own q h1 h2 => by cases h1; cases h2; exact Or.inr ⟨"CliffGarden", pv_mN 206 (by decide +kernel)⟩
theorem lk_0_2_52_3_9 : pv_sem pv_prog [0, 2, 52, 3, 9] := fun own q h1 h2 => by cases h1; cases h2; exact Or.inr ⟨"CliffGarden", pv_mN 215 (by decide +kernel)⟩
theorem lk_0_3_18_3_3 : pv_sem pv_prog [0, 3, 18, 3, 3] := fun own q h1 h2 => by cases h1; cases h2; exact Or.inl (pv_mT 195 (by decide +kernel))
theorem lk_0_3_21_3_4 : pv_sem pv_prog [0, 3, 21, 3, 4] := fun own q h1 h2 => by cases h1; cases h2; exact Or.inl (pv_mT 198 (by decide +kernel))
theorem lk_0_3_46_3_12 : pv_sem pv_prog [0, 3, 46, 3, 12] := fun own q h1 h2 => by cases h1; cases h2; exact Or.inl (pv_mT 223 (by decide +kernel))
theorem lk_0_4_28_4_1 : pv_sem pv_prog [0, 4, 28, 4, 1] := fun own q h1 h2 => by cases h1; cases h2; exact Or.inl (pv_mT 542 (by decide +kernel))
theorem lk_0_4_45_3_1 : pv_sem pv_prog [0, 4, 45, 3, 1] := fun own q h1 h2 => by cases h1; cases h2; exact Or.inr ⟨"CliffGarden", pv_mN 189 (by decide +kernel)⟩
theorem lk_0_4_66_3_11 : pv_sem pv_prog [0, 4, 66, 3, 11] := fun own q h1 h2 => by cases h1; cases h2; exact Or.inr ⟨"CliffGarden", pv_mN 221 (by decide +kernel)⟩
theorem lk_0_4_76_3_12 : pv_sem pv_prog [0, 4, 76, 3, 12] := fun own q h1 h2 => by cases h1; cases h2; exact Or.inr ⟨"CliffGarden", pv_mN 224 (by decide +kernel)⟩
theorem lk_0_4_79_0_2 : pv_sem pv_prog [0, 4, 79, 0, 2] := fun own q h1 h2 => by cases h1; cases h2; exact Or.inr ⟨"CliffGarden", pv_mN 271 (by decide +kernel)⟩
theorem lk_0_5_49_9_0 : pv_sem pv_prog [0, 5, 49, 9, 0] := fun own q h1 h2 => by cases h1; cases h2; exact Or.inr ⟨"CliffGarden", pv_mN 474 (by decide +kernel)⟩
theorem lk_0_5_68_7_2 : pv_sem pv_prog [0, 5, 68, 7, 2] := fun own q h1 h2 => by cases h1; cases h2; exact Or.inr ⟨"CliffGarden", pv_mN 373 (by decide +kernel)⟩
theorem lk_0_5_71_7_3 : pv_sem pv_prog [0, 5, 71, 7, 3] := fun own q h1 h2 => by cases h1; cases h2; exact Or.inr ⟨"CliffGarden", pv_mN 375 (by decide +kernel)⟩
theorem lk_0_5_77_7_4 : pv_sem pv_prog [0, 5, 77, 7, 4] := fun own q h1 h2 => by cases h1; cases h2; exact Or.inr ⟨"CliffGarden", pv_mN 377 (by decide +kernel)⟩
theorem lk_0_5_83_7_5 : pv_sem pv_prog [0, 5, 83, 7, 5] := fun own q h1 h2 => by cases h1; cases h2; exact Or.inr ⟨"CliffGarden", pv_mN 379 (by decide +kernel)⟩
theorem lk_0_7_16_7_2 : pv_sem pv_prog [0, 7, 16, 7, 2] := fun own q h1 h2 => by cases h1; cases h2; exact Or.inl (pv_mT 372 (by decide +kernel))
theorem lk_0_7_19_7_3 : pv_sem pv_prog [0, 7, 19, 7, 3] := fun own q h1 h2 => by cases h1; cases h2; exact Or.inl (pv_mT 374 (by decide +kernel))
theorem lk_0_7_25_7_5 : pv_sem pv_prog [0, 7, 25, 7, 5] := fun own q h1 h2 => by cases h1; cases h2; exact Or.inl (pv_mT 378 (by decide +kernel))
theorem lk_0_7_35_7_7 : pv_sem pv_prog [0, 7, 35, 7, 7] := fun own q h1 h2 => by cases h1; cases h2; exact Or.inl (pv_mT 382 (by decide +kernel))
theorem lk_0_10_37_10_1 : pv_sem pv_prog [0, 10, 37, 10, 1] := fun own q h1 h2 => by cases h1; cases h2; exact Or.inl (pv_mT 432 (by decide +kernel))
theorem lk_0_10_69_3_4 : pv_sem pv_prog [0, 10, 69, 3, 4] := fun own q h1 h2 => by cases h1; cases h2; exact Or.inr ⟨"CliffGarden", pv_mN 199 (by decide +kernel)⟩
theorem lk_0_11_58_11_6 : pv_sem pv_prog [0, 11, 58, 11, 6] := fun own q h1 h2 => by cases h1; cases h2; exact Or.inl (pv_mT 596 (by decide +kernel))
theorem lk_0_11_118_3_3 : pv_sem pv_prog [0, 11, 118, 3, 3] := fun own q h1 h2 => by cases h1; cases h2; exact Or.inr ⟨"CliffGarden", pv_mN 196 (by decide +kernel)⟩
theorem lk_0_11_121_3_4 : pv_sem pv_prog [0, 11, 121, 3, 4] := fun own q h1 h2 => by cases h1; cases h2; exact Or.inr ⟨"CliffGarden", pv_mN 200 (by decide +kernel)⟩
theorem lk_0_11_163_0_1 : pv_sem pv_prog [0, 11, 163, 0, 1] := fun own q h1 h2 => by cases h1; cases h2; exact Or.inr ⟨"CliffGarden", pv_mN 268 (by decide +kernel)⟩
theorem lk_0_11_169_0_5 : pv_sem pv_prog [0, 11, 169, 0, 5] := fun own q h1 h2 => by cases h1; cases h2; exact Or.inr ⟨"CliffGarden", pv_mN 278 (by decide +kernel)⟩
theorem lk_0_11_284_8_2 : pv_sem pv_prog [0, 11, 284, 8, 2] := fun own q h1 h2 => by cases h1; cases h2; exact Or.inr ⟨"CliffGarden", pv_mN 576 (by decide +kernel)⟩
theorem lk_0_11_287_8_3 : pv_sem pv_prog [0, 11, 287, 8, 3] := fun own q h1 h2 => by cases h1; cases h2; exact Or.inr ⟨"CliffGarden", pv_mN 578 (by decide +kernel)⟩
theorem lk_0_11_290_3_5 : pv_sem pv_prog [0, 11, 290, 3, 5] := fun own q h1 h2 => by cases h1; cases h2; exact Or.inr ⟨"CliffGarden", pv_mN 204 (by decide +kernel)⟩
theorem lk_0_11_304_4_7 : pv_sem pv_prog [0, 11, 304, 4, 7] := fun own q h1 h2 => by cases h1; cases h2; exact Or.inr ⟨"CliffGarden", pv_mN 549 (by decide +kernel)⟩
theorem lk_0_11_319_10_10 : pv_sem pv_prog [0, 11, 319, 10, 10] := fun own q h1 h2 => by cases h1; cases h2; exact Or.inr ⟨"CliffGarden", pv_mN 443 (by decide +kernel)⟩
theorem lk_0_11_348_2_9 : pv_sem pv_prog [0, 11, 348, 2, 9] := fun own q h1 h2 => by cases h1; cases h2; exact Or.inr ⟨"CliffGarden", pv_mN 331 (by decide +kernel)⟩
theorem lk_0_11_351_7_7 : pv_sem pv_prog [0, 11, 351, 7, 7] := fun own q h1 h2 => by cases h1; cases h2; exact Or.inr ⟨"CliffGarden", pv_mN 383 (by decide +kernel)⟩
theorem lk_0_11_364_0_3 : pv_sem pv_prog [0, 11, 364, 0, 3] := fun own q h1 h2 => by cases h1; cases h2; exact Or.inr ⟨"CliffGarden", pv_mN 274 (by decide +kernel)⟩
theorem lk_0_11_395_2_5 : pv_sem pv_prog [0, 11, 395, 2, 5] := fun own q h1 h2 => by cases h1; cases h2; exact Or.inr ⟨"CliffGarden", pv_mN 324 (by decide +kernel)⟩
theorem lk_0_11_408_2_1 : pv_sem pv_prog [0, 11, 408, 2, 1] := fun own q h1 h2 => by cases h1; cases h2; exact Or.inr ⟨"CliffGarden", pv_mN 314 (by decide +kernel)⟩
theorem lk_0_11_409_0_4 : pv_sem pv_prog [0, 11, 409, 0, 4] := fun own q h1 h2 => by cases h1; cases h2; exact Or.inr ⟨"CliffGarden", pv_mN 276 (by decide +kernel)⟩
theorem lk_1_0_9_0_0 : pv_sem pv_prog [1, 0, 9, 0, 0] := fun own q h1 h2 => by cases h1; cases h2; exact ⟨(pv_mT 265 (by decide +kernel)), rfl⟩
theorem lk_1_0_15_0_1 : pv_sem pv_prog [1, 0, 15, 0, 1] := fun own q h1 h2 => by cases h1; cases h2; exact ⟨(pv_mT 267 (by decide +kernel)), rfl⟩
theorem lk_1_0_18_0_2 : pv_sem pv_prog [1, 0, 18, 0, 2] := fun own q h1 h2 => by cases h1; cases h2; exact ⟨(pv_mT 270 (by decide +kernel)), rfl⟩
theorem lk_1_0_21_0_3 : pv_sem pv_prog [1, 0, 21, 0, 3] := fun own q h1 h2 => by cases h1; cases h2; exact ⟨(pv_mT 273 (by decide +kernel)), rfl⟩
theorem lk_1_0_24_0_4 : pv_sem pv_prog [1, 0, 24, 0, 4] := fun own q h1 h2 => by cases h1; cases h2; exact ⟨(pv_mT 275 (by decide +kernel)), rfl⟩
theorem lk_1_0_27_0_5 : pv_sem pv_prog [1, 0, 27, 0, 5] := fun own q h1 h2 => by cases h1; cases h2; exact ⟨(pv_mT 277 (by decide +kernel)), rfl⟩
theorem lk_1_0_30_0_6 : pv_sem pv_prog [1, 0, 30, 0, 6] := fun own q h1 h2 => by cases h1; cases h2; exact ⟨(pv_mT 279 (by decide +kernel)), rfl⟩
theorem lk_1_0_33_0_7 : pv_sem pv_prog [1, 0, 33, 0, 7] := fun own q h1 h2 => by cases h1; cases h2; exact ⟨(pv_mT 281 (by decide +kernel)), rfl⟩
theorem lk_1_1_11_1_3 : pv_sem pv_prog [1, 1, 11, 1, 3] := fun own q h1 h2 => by cases h1; cases h2; exact ⟨(pv_mT 411 (by decide +kernel)), rfl⟩
theorem lk_1_1_22_1_0 : pv_sem pv_prog [1, 1, 22, 1, 0] := fun own q h1 h2 => by cases h1; cases h2; exact ⟨(pv_mT 408 (by decide +kernel)), rfl⟩
theorem lk_1_1_26_1_1 : pv_sem pv_prog [1, 1, 26, 1, 1] := fun own q h1 h2 => by cases h1; cases h2; exact ⟨(pv_mT 409 (by decide +kernel)), rfl⟩
theorem lk_1_1_30_1_2 : pv_sem pv_prog [1, 1, 30, 1, 2] := fun own q h1 h2 => by cases h1; cases h2; exact ⟨(pv_mT 410 (by decide +kernel)), rfl⟩
theorem lk_1_2_11_2_0 : pv_sem pv_prog [1, 2, 11, 2, 0] := fun own q h1 h2 => by cases h1; cases h2; exact ⟨(pv_mT 310 (by decide +kernel)), rfl⟩
theorem lk_1_2_15_2_1 : pv_sem pv_prog [1, 2, 15, 2, 1] := fun own q h1 h2 => by cases h1; cases h2; exact ⟨(pv_mT 312 (by decide +kernel)), rfl⟩
theorem lk_1_2_18_2_2 : pv_sem pv_prog [1, 2, 18, 2, 2] := fun own q h1 h2 => by cases h1; cases h2; exact ⟨(pv_mT 315 (by decide +kernel)), rfl⟩
theorem lk_1_2_21_2_3 : pv_sem pv_prog [1, 2, 21, 2, 3] := fun own q h1 h2 => by cases h1; cases h2; exact ⟨(pv_mT 318 (by decide +kernel)), rfl⟩
theorem lk_1_2_25_2_4 : pv_sem pv_prog [1, 2, 25, 2, 4] := fun own q h1 h2 => by cases h1; cases h2; exact ⟨(pv_mT 320 (by decide +kernel)), rfl⟩
theorem lk_1_2_28_2_5 : pv_sem pv_prog [1, 2, 28, 2, 5] := fun own q h1 h2 => by cases h1; cases h2; exact ⟨(pv_mT 322 (by decide +kernel)), rfl⟩
theorem lk_1_2_31_2_6 : pv_sem pv_prog [1, 2, 31, 2, 6] := fun own q h1 h2 => by cases h1; cases h2; exact ⟨(pv_mT 325 (by decide +kernel)), rfl⟩
theorem lk_1_2_34_2_7 : pv_sem pv_prog [1, 2, 34, 2, 7] := fun own q h1 h2 => by cases h1; cases h2; exact ⟨(pv_mT 327 (by decide +kernel)), rfl⟩
theorem lk_1_2_37_2_8 : pv_sem pv_prog [1, 2, 37, 2, 8] := fun own q h1 h2 => by cases h1; cases h2; exact ⟨(pv_mT 329 (by decide +kernel)), rfl⟩
theorem lk_1_3_9_3_1 : pv_sem pv_prog [1, 3, 9, 3, 1] := fun own q h1 h2 => by cases h1; cases h2; exact ⟨(pv_mT 188 (by decide +kernel)), rfl⟩
theorem lk_1_3_15_3_2 : pv_sem pv_prog [1, 3, 15, 3, 2] := fun own q h1 h2 => by cases h1; cases h2; exact ⟨(pv_mT 192 (by decide +kernel)), rfl⟩
theorem lk_1_3_18_3_3 : pv_sem pv_prog [1, 3, 18, 3, 3] := fun own q h1 h2 => by cases h1; cases h2; exact ⟨(pv_mT 195 (by decide +kernel)), rfl⟩
theorem lk_1_3_21_3_4 : pv_sem pv_prog [1, 3, 21, 3, 4] := fun own q h1 h2 => by cases h1; cases h2; exact ⟨(pv_mT 198 (by decide +kernel)), rfl⟩
theorem lk_1_3_24_3_5 : pv_sem pv_prog [1, 3, 24, 3, 5] := fun own q h1 h2 => by cases h1; cases h2; exact ⟨(pv_mT 201 (by decide +kernel)), rfl⟩
theorem lk_1_3_27_3_6 : pv_sem pv_prog [1, 3, 27, 3, 6] := fun own q h1 h2 => by cases h1; cases h2; exact ⟨(pv_mT 205 (by decide +kernel)), rfl⟩
theorem lk_1_3_30_3_7 : pv_sem pv_prog [1, 3, 30, 3, 7] := fun own q h1 h2 => by cases h1; cases h2; exact ⟨(pv_mT 209 (by decide +kernel)), rfl⟩
theorem lk_1_3_33_3_8 : pv_sem pv_prog [1, 3, 33, 3, 8] := fun own q h1 h2 => by cases h1; cases h2; exact ⟨(pv_mT 211 (by decide +kernel)), rfl⟩
theorem lk_1_3_36_3_9 : pv_sem pv_prog [1, 3, 36, 3, 9] := fun own q h1 h2 => by cases h1; cases h2; exact ⟨(pv_mT 214 (by decide +kernel)), rfl⟩
theorem lk_1_3_40_3_10 : pv_sem pv_prog [1, 3, 40, 3, 10] := fun own q h1 h2 => by cases h1; cases h2; exact ⟨(pv_mT 218 (by decide +kernel)), rfl⟩
theorem lk_1_3_43_3_11 : pv_sem pv_prog [1, 3, 43, 3, 11] := fun own q h1 h2 => by cases h1; cases h2; exact ⟨(pv_mT 220 (by decide +kernel)), rfl⟩
theorem lk_1_3_46_3_12 : pv_sem pv_prog [1, 3, 46, 3, 12] := fun own q h1 h2 => by cases h1; cases h2; exact ⟨(pv_mT 223 (by decide +kernel)), rfl⟩
theorem lk_1_3_49_3_13 : pv_sem pv_prog [1, 3, 49, 3, 13] := fun own q h1 h2 => by cases h1; cases h2; exact ⟨(pv_mT 226 (by decide +kernel)), rfl⟩
theorem lk_1_4_9_4_2 : pv_sem pv_prog [1, 4, 9, 4, 2] := fun own q h1 h2 => by cases h1; cases h2; exact ⟨(pv_mT 543 (by decide +kernel)), rfl⟩
theorem lk_1_4_15_4_3 : pv_sem pv_prog [1, 4, 15, 4, 3] := fun own q h1 h2 => by cases h1; cases h2; exact ⟨(pv_mT 544 (by decide +kernel)), rfl⟩
theorem lk_1_4_18_4_4 : pv_sem pv_prog [1, 4, 18, 4, 4] := fun own q h1 h2 => by cases h1; cases h2; exact ⟨(pv_mT 545 (by decide +kernel)), rfl⟩
theorem lk_1_4_21_4_5 : pv_sem pv_prog [1, 4, 21, 4, 5] := fun own q h1 h2 => by cases h1; cases h2; exact ⟨(pv_mT 546 (by decide +kernel)), rfl⟩
theorem lk_1_4_24_4_0 : pv_sem pv_prog [1, 4, 24, 4, 0] := fun own q h1 h2 => by cases h1; cases h2; exact ⟨(pv_mT 541 (by decide +kernel)), rfl⟩
theorem lk_1_4_28_4_1 : pv_sem pv_prog [1, 4, 28, 4, 1] := fun own q h1 h2 => by cases h1; cases h2; exact ⟨(pv_mT 542 (by decide +kernel)), rfl⟩
theorem lk_1_6_11_6_0 : pv_sem pv_prog [1, 6, 11, 6, 0] := fun own q h1 h2 => by cases h1; cases h2; exact ⟨(pv_mT 510 (by decide +kernel)), rfl⟩
theorem lk_1_6_15_6_1 : pv_sem pv_prog [1, 6, 15, 6, 1] := fun own q h1 h2 => by cases h1; cases h2; exact ⟨(pv_mT 511 (by decide +kernel)), rfl⟩
theorem lk_1_6_18_6_2 : pv_sem pv_prog [1, 6, 18, 6, 2] := fun own q h1 h2 => by cases h1; cases h2; exact ⟨(pv_mT 512 (by decide +kernel)), rfl⟩
theorem lk_1_6_21_6_3 : pv_sem pv_prog [1, 6, 21, 6, 3] := fun own q h1 h2 => by cases h1; cases h2; exact ⟨(pv_mT 513 (by decide +kernel)), rfl⟩
theorem lk_1_6_24_6_4 : pv_sem pv_prog [1, 6, 24, 6, 4] := fun own q h1 h2 => by cases h1; cases h2; exact ⟨(pv_mT 514 (by decide +kernel)), rfl⟩
theorem lk_1_6_27_6_5 : pv_sem pv_prog [1, 6, 27, 6, 5] := fun own q h1 h2 => by cases h1; cases h2; exact ⟨(pv_mT 515 (by decide +kernel)), rfl⟩
theorem lk_1_6_30_6_6 : pv_sem pv_prog [1, 6, 30, 6, 6] := fun own q h1 h2 => by cases h1; cases h2; exact ⟨(pv_mT 516 (by decide +kernel)), rfl⟩
theorem lk_1_7_9_7_0 : pv_sem pv_prog [1, 7, 9, 7, 0] := fun own q h1 h2 => by cases h1; cases h2; exact ⟨(pv_mT 369 (by decide +kernel)), rfl⟩
theorem lk_1_7_13_7_1 : pv_sem pv_prog [1, 7, 13, 7, 1] := fun own q h1 h2 => by cases h1; cases h2; exact ⟨(pv_mT 370 (by decide +kernel)), rfl⟩
theorem lk_1_7_16_7_2 : pv_sem pv_prog [1, 7, 16, 7, 2] := fun own q h1 h2 => by cases h1; cases h2; exact ⟨(pv_mT 372 (by decide +kernel)), rfl⟩
theorem lk_1_7_19_7_3 : pv_sem pv_prog [1, 7, 19, 7, 3] := fun own q h1 h2 => by cases h1; cases h2; exact ⟨(pv_mT 374 (by decide +kernel)), rfl⟩
theorem lk_1_7_22_7_4 : pv_sem pv_prog [1, 7, 22, 7, 4] := fun own q h1 h2 => by cases h1; cases h2; exact ⟨(pv_mT 376 (by decide +kernel)), rfl⟩
theorem lk_1_7_25_7_5 : pv_sem pv_prog [1, 7, 25, 7, 5] := fun own q h1 h2 => by cases h1; cases h2; exact ⟨(pv_mT 378 (by decide +kernel)), rfl⟩
theorem lk_1_7_28_7_6 : pv_sem pv_prog [1, 7, 28, 7, 6] := fun own q h1 h2 => by cases h1; cases h2; exact ⟨(pv_mT 380 (by decide +kernel)), rfl⟩
theorem lk_1_8_11_8_0 : pv_sem pv_prog [1, 8, 11, 8, 0] := fun own q h1 h2 => by cases h1; cases h2; exact ⟨(pv_mT 573 (by decide +kernel)), rfl⟩
theorem lk_1_8_15_8_1 : pv_sem pv_prog [1, 8, 15, 8, 1] := fun own q h1 h2 => by cases h1; cases h2; exact ⟨(pv_mT 574 (by decide +kernel)), rfl⟩
theorem lk_1_9_9_9_0 : pv_sem pv_prog [1, 9, 9, 9, 0] := fun own q h1 h2 => by cases h1; cases h2; exact ⟨(pv_mT 473 (by decide +kernel)), rfl⟩
theorem lk_1_10_9_10_2 : pv_sem pv_prog [1, 10, 9, 10, 2] := fun own q h1 h2 => by cases h1; cases h2; exact ⟨(pv_mT 433 (by decide +kernel)), rfl⟩
theorem lk_1_10_15_10_3 : pv_sem pv_prog [1, 10, 15, 10, 3] := fun own q h1 h2 => by cases h1; cases h2; exact ⟨(pv_mT 435 (by decide +kernel)), rfl⟩
theorem lk_1_10_18_10_4 : pv_sem pv_prog [1, 10, 18, 10, 4] := fun own q h1 h2 => by cases h1; cases h2; exact ⟨(pv_mT 436 (by decide +kernel)), rfl⟩
theorem lk_1_10_21_10_5 : pv_sem pv_prog [1, 10, 21, 10, 5] := fun own q h1 h2 => by cases h1; cases h2; exact ⟨(pv_mT 437 (by decide +kernel)), rfl⟩
theorem lk_1_10_24_10_6 : pv_sem pv_prog [1, 10, 24, 10, 6] := fun own q h1 h2 => by cases h1; cases h2; exact ⟨(pv_mT 438 (by decide +kernel)), rfl⟩
theorem lk_1_10_27_10_7 : pv_sem pv_prog [1, 10, 27, 10, 7] := fun own q h1 h2 => by cases h1; cases h2; exact ⟨(pv_mT 439 (by decide +kernel)), rfl⟩
theorem lk_1_10_30_10_8 : pv_sem pv_prog [1, 10, 30, 10, 8] := fun own q h1 h2 => by cases h1; cases h2; exact ⟨(pv_mT 440 (by decide +kernel)), rfl⟩
theorem lk_1_10_33_10_0 : pv_sem pv_prog [1, 10, 33, 10, 0] := fun own q h1 h2 => by cases h1; cases h2; exact ⟨(pv_mT 431 (by decide +kernel)), rfl⟩
theorem lk_1_10_37_10_1 : pv_sem pv_prog [1, 10, 37, 10, 1] := fun own q h1 h2 => by cases h1; cases h2; exact ⟨(pv_mT 432 (by decide +kernel)), rfl⟩
theorem lk_1_11_12_11_0 : pv_sem pv_prog [1, 11, 12, 11, 0] := fun own q h1 h2 => by cases h1; cases h2; exact ⟨(pv_mT 590 (by decide +kernel)), rfl⟩
theorem lk_1_11_19_11_1 : pv_sem pv_prog [1, 11, 19, 11, 1] := fun own q h1 h2 => by cases h1; cases h2; exact ⟨(pv_mT 591 (by decide +kernel)), rfl⟩
theorem lk_1_11_26_11_2 : pv_sem pv_prog [1, 11, 26, 11, 2] := fun own q h1 h2 => by cases h1; cases h2; exact ⟨(pv_mT 592 (by decide +kernel)), rfl⟩
theorem lk_1_11_35_11_3 : pv_sem pv_prog [1, 11, 35, 11, 3] := fun own q h1 h2 => by cases h1; cases h2; exact ⟨(pv_mT 593 (by decide +kernel)), rfl⟩
theorem lk_1_11_44_11_4 : pv_sem pv_prog [1, 11, 44, 11, 4] := fun own q h1 h2 => by cases h1; cases h2; exact ⟨(pv_mT 594 (by decide +kernel)), rfl⟩
theorem lk_1_11_51_11_5 : pv_sem pv_prog [1, 11, 51, 11, 5] := fun own q h1 h2 => by cases h1; cases h2; exact ⟨(pv_mT 595 (by decide +kernel)), rfl⟩
theorem lk_1_11_58_11_6 : pv_sem pv_prog [1, 11, 58, 11, 6] := fun own q h1 h2 => by cases h1; cases h2; exact ⟨(pv_mT 596 (by decide +kernel)), rfl⟩
theorem lk_1_11_65_11_7 : pv_sem pv_prog [1, 11, 65, 11, 7] := fun own q h1 h2 => by cases h1; cases h2; exact ⟨(pv_mT 597 (by decide +kernel)), rfl⟩
theorem lk_1_11_74_11_8 : pv_sem pv_prog [1, 11, 74, 11, 8] := fun own q h1 h2 => by cases h1; cases h2; exact ⟨(pv_mT 598 (by decide +kernel)), rfl⟩
theorem lk_1_11_81_11_9 : pv_sem pv_prog [1, 11, 81, 11, 9] := fun own q h1 h2 => by cases h1; cases h2; exact ⟨(pv_mT 599 (by decide +kernel)), rfl⟩
theorem lk_1_12_7_12_4 : pv_sem pv_prog [1, 12, 7, 12, 4] := fun own q h1 h2 => by cases h1; cases h2; exact ⟨(pv_mT 1308 (by decide +kernel)), rfl⟩
theorem lk_1_12_13_12_5 : pv_sem pv_prog [1, 12, 13, 12, 5] := fun own q h1 h2 => by cases h1; cases h2; exact ⟨(pv_mT 1309 (by decide +kernel)), rfl⟩
theorem lk_1_12_16_12_6 : pv_sem pv_prog [1, 12, 16, 12, 6] := fun own q h1 h2 => by cases h1; cases h2; exact ⟨(pv_mT 1310 (by decide +kernel)), rfl⟩
theorem lk_1_12_20_12_7 : pv_sem pv_prog [1, 12, 20, 12, 7] := fun own q h1 h2 => by cases h1; cases h2; exact ⟨(pv_mT 1311 (by decide +kernel)), rfl⟩
theorem lk_1_12_23_12_8 : pv_sem pv_prog [1, 12, 23, 12, 8] := fun own q h1 h2 => by cases h1; cases h2; exact ⟨(pv_mT 1312 (by decide +kernel)), rfl⟩
theorem lk_1_12_26_12_9 : pv_sem pv_prog [1, 12, 26, 12, 9] := fun own q h1 h2 => by cases h1; cases h2; exact ⟨(pv_mT 1313 (by decide +kernel)), rfl⟩
theorem lk_1_12_29_12_10 : pv_sem pv_prog [1, 12, 29, 12, 10] := fun own q h1 h2 => by cases h1; cases h2; exact ⟨(pv_mT 1314 (by decide +kernel)), rfl⟩
theorem lk_1_12_32_12_11 : pv_sem pv_prog [1, 12, 32, 12, 11] := fun own q h1 h2 => by cases h1; cases h2; exact ⟨(pv_mT 1315 (by decide +kernel)), rfl⟩
theorem lk_1_12_35_12_12 : pv_sem pv_prog [1, 12, 35, 12, 12] := fun own q h1 h2 => by cases h1; cases h2; exact ⟨(pv_mT 1316 (by decide +kernel)), rfl⟩
theorem lk_1_12_38_12_13 : pv_sem pv_prog [1, 12, 38, 12, 13] := fun own q h1 h2 => by cases h1; cases h2; exact ⟨(pv_mT 1317 (by decide +kernel)), rfl⟩
theorem lk_1_12_41_12_14 : pv_sem pv_prog [1, 12, 41, 12, 14] := fun own q h1 h2 => by cases h1; cases h2; exact ⟨(pv_mT 1318 (by decide +kernel)), rfl⟩
theorem lk_1_12_44_12_15 : pv_sem pv_prog [1, 12, 44, 12, 15] := fun own q h1 h2 => by cases h1; cases h2; exact ⟨(pv_mT 1319 (by decide +kernel)), rfl⟩
theorem lk_1_12_47_12_16 : pv_sem pv_prog [1, 12, 47, 12, 16] := fun own q h1 h2 => by cases h1; cases h2; exact ⟨(pv_mT 1320 (by decide +kernel)), rfl⟩
theorem lk_1_12_50_12_17 : pv_sem pv_prog [1, 12, 50, 12, 17] := fun own q h1 h2 => by cases h1; cases h2; exact ⟨(pv_mT 1321 (by decide +kernel)), rfl⟩
theorem lk_1_12_53_12_18 : pv_sem pv_prog [1, 12, 53, 12, 18] := fun own q h1 h2 => by cases h1; cases h2; exact ⟨(pv_mT 1322 (by decide +kernel)), rfl⟩
theorem lk_1_12_56_12_19 : pv_sem pv_prog [1, 12, 56, 12, 19] := fun own q h1 h2 => by cases h1; cases h2; exact ⟨(pv_mT 1323 (by decide +kernel)), rfl⟩
theorem lk_1_12_59_12_20 : pv_sem pv_prog [1, 12, 59, 12, 20] := fun own q h1 h2 => by cases h1; cases h2; exact ⟨(pv_mT 1324 (by decide +kernel)), rfl⟩
theorem lk_1_12_62_12_21 : pv_sem pv_prog [1, 12, 62, 12, 21] := fun own q h1 h2 => by cases h1; cases h2; exact ⟨(pv_mT 1325 (by decide +kernel)), rfl⟩
theorem lk_1_12_65_12_22 : pv_sem pv_prog [1, 12, 65, 12, 22] := fun own q h1 h2 => by cases h1; cases h2; exact ⟨(pv_mT 1326 (by decide +kernel)), rfl⟩
theorem lk_1_12_68_12_23 : pv_sem pv_prog [1, 12, 68, 12, 23] := fun own q h1 h2 => by cases h1; cases h2; exact ⟨(pv_mT 1327 (by decide +kernel)), rfl⟩
theorem lk_1_12_71_12_24 : pv_sem pv_prog [1, 12, 71, 12, 24] := fun own q h1 h2 => by cases h1; cases h2; exact ⟨(pv_mT 1328 (by decide +kernel)), rfl⟩
theorem lk_1_12_74_12_25 : pv_sem pv_prog [1, 12, 74, 12, 25] := fun own q h1 h2 => by cases h1; cases h2; exact ⟨(pv_mT 1329 (by decide +kernel)), rfl⟩
theorem lk_1_12_78_12_36 : pv_sem pv_prog [1, 12, 78, 12, 36] := fun own q h1 h2 => by cases h1; cases h2; exact ⟨(pv_mT 1340 (by decide +kernel)), rfl⟩
theorem lk_1_12_81_12_37 : pv_sem pv_prog [1, 12, 81, 12, 37] := fun own q h1 h2 => by cases h1; cases h2; exact ⟨(pv_mT 1341 (by decide +kernel)), rfl⟩
theorem lk_1_12_84_12_38 : pv_sem pv_prog [1, 12, 84, 12, 38] := fun own q h1 h2 => by cases h1; cases h2; exact ⟨(pv_mT 1342 (by decide +kernel)), rfl⟩
theorem lk_1_12_87_12_39 : pv_sem pv_prog [1, 12, 87, 12, 39] := fun own q h1 h2 => by cases h1; cases h2; exact ⟨(pv_mT 1343 (by decide +kernel)), rfl⟩
theorem lk_1_12_90_12_40 : pv_sem pv_prog [1, 12, 90, 12, 40] := fun own q h1 h2 => by cases h1; cases h2; exact ⟨(pv_mT 1344 (by decide +kernel)), rfl⟩
theorem lk_1_12_93_12_41 : pv_sem pv_prog [1, 12, 93, 12, 41] := fun own q h1 h2 => by cases h1; cases h2; exact ⟨(pv_mT 1345 (by decide +kernel)), rfl⟩
theorem lk_1_12_96_12_42 : pv_sem pv_prog [1, 12, 96, 12, 42] := fun own q h1 h2 => by cases h1; cases h2; exact ⟨(pv_mT 1346 (by decide +kernel)), rfl⟩
theorem lk_1_12_99_12_43 : pv_sem pv_prog [1, 12, 99, 12, 43] := fun own q h1 h2 => by cases h1; cases h2; exact ⟨(pv_mT 1347 (by decide +kernel)), rfl⟩
theorem lk_1_12_102_12_44 : pv_sem pv_prog [1, 12, 102, 12, 44] := fun own q h1 h2 => by cases h1; cases h2; exact ⟨(pv_mT 1348 (by decide +kernel)), rfl⟩
theorem lk_1_12_105_12_45 : pv_sem pv_prog [1, 12, 105, 12, 45] := fun own q h1 h2 => by cases h1; cases h2; exact ⟨(pv_mT 1349 (by decide +kernel)), rfl⟩
theorem lk_1_12_108_12_46 : pv_sem pv_prog [1, 12, 108, 12, 46] := fun own q h1 h2 => by cases h1; cases h2; exact ⟨(pv_mT 1350 (by decide +kernel)), rfl⟩
theorem lk_1_12_111_12_47 : pv_sem pv_prog [1, 12, 111, 12, 47] := fun own q h1 h2 => by cases h1; cases h2; exact ⟨(pv_mT 1351 (by decide +kernel)), rfl⟩
theorem lk_1_12_114_12_48 : pv_sem pv_prog [1, 12, 114, 12, 48] := fun own q h1 h2 => by cases h1; cases h2; exact ⟨(pv_mT 1352 (by decide +kernel)), rfl⟩
theorem lk_1_12_117_12_49 : pv_sem pv_prog [1, 12, 117, 12, 49] := fun own q h1 h2 => by cases h1; cases h2; exact ⟨(pv_mT 1353 (by decide +kernel)), rfl⟩
theorem lk_1_12_120_12_50 : pv_sem pv_prog [1, 12, 120, 12, 50] := fun own q h1 h2 => by cases h1; cases h2; exact ⟨(pv_mT 1354 (by decide +kernel)), rfl⟩
theorem lk_1_12_123_12_51 : pv_sem pv_prog [1, 12, 123, 12, 51] := fun own q h1 h2 => by cases h1; cases h2; exact ⟨(pv_mT 1355 (by decide +kernel)), rfl⟩
theorem lk_1_12_126_12_52 : pv_sem pv_prog [1, 12, 126, 12, 52] := fun own q h1 h2 => by cases h1; cases h2; exact ⟨(pv_mT 1356 (by decide +kernel)), rfl⟩
theorem lk_1_12_129_12_53 : pv_sem pv_prog [1, 12, 129, 12, 53] := fun own q h1 h2 => by cases h1; cases h2; exact ⟨(pv_mT 1357 (by decide +kernel)), rfl⟩
theorem lk_1_12_132_12_54 : pv_sem pv_prog [1, 12, 132, 12, 54] := fun own q h1 h2 => by cases h1; cases h2; exact ⟨(pv_mT 1358 (by decide +kernel)), rfl⟩
theorem lk_1_12_135_12_55 : pv_sem pv_prog [1, 12, 135, 12, 55] := fun own q h1 h2 => by cases h1; cases h2; exact ⟨(pv_mT 1359 (by decide +kernel)), rfl⟩
theorem lk_1_12_138_12_56 : pv_sem pv_prog [1, 12, 138, 12, 56] := fun own q h1 h2 => by cases h1; cases h2; exact ⟨(pv_mT 1360 (by decide +kernel)), rfl⟩
theorem lk_1_12_141_12_57 : pv_sem pv_prog [1, 12, 141, 12, 57] := fun own q h1 h2 => by cases h1; cases h2; exact ⟨(pv_mT 1361 (by decide +kernel)), rfl⟩
theorem lk_1_12_144_12_58 : pv_sem pv_prog [1, 12, 144, 12, 58] := fun own q h1 h2 => by cases h1; cases h2; exact ⟨(pv_mT 1362 (by decide +kernel)), rfl⟩
theorem lk_1_12_147_12_59 : pv_sem pv_prog [1, 12, 147, 12, 59] := fun own q h1 h2 => by cases h1; cases h2; exact ⟨(pv_mT 1363 (by decide +kernel)), rfl⟩
theorem lk_1_12_150_12_60 : pv_sem pv_prog [1, 12, 150, 12, 60] := fun own q h1 h2 => by cases h1; cases h2; exact ⟨(pv_mT 1364 (by decide +kernel)), rfl⟩
theorem lk_1_12_153_12_61 : pv_sem pv_prog [1, 12, 153, 12, 61] := fun own q h1 h2 => by cases h1; cases h2; exact ⟨(pv_mT 1365 (by decide +kernel)), rfl⟩
theorem lk_1_12_156_12_62 : pv_sem pv_prog [1, 12, 156, 12, 62] := fun own q h1 h2 => by cases h1; cases h2; exact ⟨(pv_mT 1366 (by decide +kernel)), rfl⟩
theorem lk_1_12_159_12_64 : pv_sem pv_prog [1, 12, 159, 12, 64] := fun own q h1 h2 => by cases h1; cases h2; exact ⟨(pv_mT 1368 (by decide +kernel)), rfl⟩
theorem lk_1_12_162_12_65 : pv_sem pv_prog [1, 12, 162, 12, 65] := fun own q h1 h2 => by cases h1; cases h2; exact ⟨(pv_mT 1369 (by decide +kernel)), rfl⟩
theorem lk_1_12_165_12_66 : pv_sem pv_prog [1, 12, 165, 12, 66] := fun own q h1 h2 => by cases h1; cases h2; exact ⟨(pv_mT 1370 (by decide +kernel)), rfl⟩
theorem lk_1_12_168_12_67 : pv_sem pv_prog [1, 12, 168, 12, 67] := fun own q h1 h2 => by cases h1; cases h2; exact ⟨(pv_mT 1371 (by decide +kernel)), rfl⟩
theorem lk_1_12_171_12_68 : pv_sem pv_prog [1, 12, 171, 12, 68] := fun own q h1 h2 => by cases h1; cases h2; exact ⟨(pv_mT 1372 (by decide +kernel)), rfl⟩
theorem lk_1_12_175_12_69 : pv_sem pv_prog [1, 12, 175, 12, 69] := fun own q h1 h2 => by cases h1; cases h2; exact ⟨(pv_mT 1373 (by decide +kernel)), rfl⟩
theorem lk_1_12_178_12_70 : pv_sem pv_prog [1, 12, 178, 12, 70] := fun own q h1 h2 => by cases h1; cases h2; exact ⟨(pv_mT 1374 (by decide +kernel)), rfl⟩
theorem lk_1_12_181_12_71 : pv_sem pv_prog [1, 12, 181, 12, 71] := fun own q h1 h2 => by cases h1; cases h2; exact ⟨(pv_mT 1375 (by decide +kernel)), rfl⟩
theorem lk_1_12_184_12_72 : pv_sem pv_prog [1, 12, 184, 12, 72] := fun own q h1 h2 => by cases h1; cases h2; exact ⟨(pv_mT 1376 (by decide +kernel)), rfl⟩
theorem lk_1_12_187_12_73 : pv_sem pv_prog [1, 12, 187, 12, 73] := fun own q h1 h2 => by cases h1; cases h2; exact ⟨(pv_mT 1377 (by decide +kernel)), rfl⟩
theorem lk_1_12_190_12_74 : pv_sem pv_prog [1, 12, 190, 12, 74] := fun own q h1 h2 => by cases h1; cases h2; exact ⟨(pv_mT 1378 (by decide +kernel)), rfl⟩
theorem lk_1_12_193_12_75 : pv_sem pv_prog [1, 12, 193, 12, 75] := fun own q h1 h2 => by cases h1; cases h2; exact ⟨(pv_mT 1379 (by decide +kernel)), rfl⟩
theorem lk_1_12_196_12_76 : pv_sem pv_prog [1, 12, 196, 12, 76] := fun own q h1 h2 => by cases h1; cases h2; exact ⟨(pv_mT 1380 (by decide +kernel)), rfl⟩
theorem lk_1_12_199_12_77 : pv_sem pv_prog [1, 12, 199, 12, 77] := fun own q h1 h2 => by cases h1; cases h2; exact ⟨(pv_mT 1381 (by decide +kernel)), rfl⟩
theorem lk_2_12_225_65535 : pv_sem pv_prog [2, 12, 225, 65535] := fun own h1 => by cases h1; exact (pv_mT 1589 (by decide +kernel))
theorem lk_2_12_411_65536 : pv_sem pv_prog [2, 12, 411, 65536] := fun own h1 => by cases h1; exact (pv_mT 1795 (by decide +kernel))
theorem lk_2_14_265_1431655765 : pv_sem pv_prog [2, 14, 265, 1431655765] := fun own h1 => by cases h1; exact (pv_mT 1234 (by decide +kernel))
theorem lk_2_14_267_252645135 : pv_sem pv_prog [2, 14, 267, 252645135] := fun own h1 => by cases h1; exact (pv_mT 1236 (by decide +kernel))
theorem lk_3_12_421_281474976710656 : pv_sem pv_prog [3, 12, 421, 281474976710656] := fun own h1 => by cases h1; exact (pv_mT 1841 (by decide +kernel))
theorem lk_3_15_314_6148914691236517205 : pv_sem pv_prog [3, 15, 314, 6148914691236517205] := fun own h1 => by cases h1; exact (pv_mT 1110 (by decide +kernel))
theorem lk_3_15_318_1085102592571150095 : pv_sem pv_prog [3, 15, 318, 1085102592571150095] := fun own h1 => by cases h1; exact (pv_mT 1112 (by decide +kernel))
theorem lk_4_1_9_7 : pv_sem pv_prog [4, 1, 9, 7] := fun own q h1 h2 => by cases h1; cases h2; exact ⟨(pv_mT 363 (by decide +kernel)), (pv_mT 364 (by decide +kernel)), (pv_mT 152 (by decide +kernel))⟩
theorem lk_4_11_9_3 : pv_sem pv_prog [4, 11, 9, 3] := fun own q h1 h2 => by cases h1; cases h2; exact ⟨(pv_mT 177 (by decide +kernel)), (pv_mT 178 (by decide +kernel)), (pv_mT 147 (by decide +kernel))⟩
theorem lk_4_11_16_0 : pv_sem pv_prog [4, 11, 16, 0] := fun own q h1 h2 => by cases h1; cases h2; exact ⟨(pv_mT 258 (by decide +kernel)), (pv_mT 259 (by decide +kernel)), (pv_mT 149 (by decide +kernel))⟩
theorem lk_4_11_23_2 : pv_sem pv_prog [4, 11, 23, 2] := fun own q h1 h2 => by cases h1; cases h2; exact ⟨(pv_mT 304 (by decide +kernel)), (pv_mT 305 (by decide +kernel)), (pv_mT 150 (by decide +kernel))⟩
theorem lk_4_11_30_1 : pv_sem pv_prog [4, 11, 30, 1] := fun own q h1 h2 => by cases h1; cases h2; exact ⟨(pv_mT 357 (by decide +kernel)), (pv_mT 358 (by decide +kernel)), (pv_mT 151 (by decide +kernel))⟩
theorem lk_4_11_39_10 : pv_sem pv_prog [4, 11, 39, 10] := fun own q h1 h2 => by cases h1; cases h2; exact ⟨(pv_mT 425 (by decide +kernel)), (pv_mT 426 (by decide +kernel)), (pv_mT 153 (by decide +kernel))⟩
theorem lk_4_11_48_9 : pv_sem pv_prog [4, 11, 48, 9] := fun own q h1 h2 => by cases h1; cases h2; exact ⟨(pv_mT 467 (by decide +kernel)), (pv_mT 468 (by decide +kernel)), (pv_mT 154 (by decide +kernel))⟩
theorem lk_4_11_55_5 : pv_sem pv_prog [4, 11, 55, 5] := fun own q h1 h2 => by cases h1; cases h2; exact ⟨(pv_mT 482 (by decide +kernel)), (pv_mT 483 (by decide +kernel)), (pv_mT 155 (by decide +kernel))⟩
theorem lk_4_11_62_6 : pv_sem pv_prog [4, 11, 62, 6] := fun own q h1 h2 => by cases h1; cases h2; exact ⟨(pv_mT 504 (by decide +kernel)), (pv_mT 505 (by decide +kernel)), (pv_mT 156 (by decide +kernel))⟩
theorem lk_4_11_69_4 : pv_sem pv_prog [4, 11, 69, 4] := fun own q h1 h2 => by cases h1; cases h2; exact ⟨(pv_mT 535 (by decide +kernel)), (pv_mT 536 (by decide +kernel)), (pv_mT 157 (by decide +kernel))⟩
theorem lk_4_11_78_8 : pv_sem pv_prog [4, 11, 78, 8] := fun own q h1 h2 => by cases h1; cases h2; exact ⟨(pv_mT 567 (by decide +kernel)), (pv_mT 568 (by decide +kernel)), (pv_mT 158 (by decide +kernel))⟩
theorem lk_4_11_85_7 : pv_sem pv_prog [4, 11, 85, 7] := fun own q h1 h2 => by cases h1; cases h2; exact ⟨(pv_mT 588 (by decide +kernel)), (pv_mT 364 (by decide +kernel)), (pv_mT 152 (by decide +kernel))⟩
theorem lk_5_0_3 : pv_sem pv_prog [5, 0, 3] := fun own h1 => by cases h1; exact ⟨(pv_mT 263 (by decide +kernel)), (pv_mT 175 (by decide +kernel)), (pv_mT 176 (by decide +kernel))⟩
theorem lk_5_1_3 : pv_sem pv_prog [5, 1, 3] := fun own h1 => by cases h1; exact ⟨(pv_mT 362 (by decide +kernel)), (pv_mT 175 (by decide +kernel)), (pv_mT 176 (by decide +kernel))⟩
theorem lk_5_2_3 : pv_sem pv_prog [5, 2, 3] := fun own h1 => by cases h1; exact ⟨(pv_mT 309 (by decide +kernel)), (pv_mT 175 (by decide +kernel)), (pv_mT 176 (by decide +kernel))⟩
theorem lk_5_3_3 : pv_sem pv_prog [5, 3, 3] := fun own h1 => by cases h1; exact ⟨(pv_mT 182 (by decide +kernel)), (pv_mT 175 (by decide +kernel)), (pv_mT 176 (by decide +kernel))⟩
theorem lk_5_4_3 : pv_sem pv_prog [5, 4, 3] := fun own h1 => by cases h1; exact ⟨(pv_mT 540 (by decide +kernel)), (pv_mT 175 (by decide +kernel)), (pv_mT 176 (by decide +kernel))⟩
theorem lk_5_5_1 : pv_sem pv_prog [5, 5, 1] := fun own h1 => by cases h1; exact ⟨(pv_mT 487 (by decide +kernel)), (pv_mT 175 (by decide +kernel)), (pv_mT 176 (by decide +kernel))⟩
theorem lk_5_6_5 : pv_sem pv_prog [5, 6, 5] := fun own h1 => by cases h1; exact ⟨(pv_mT 509 (by decide +kernel)), (pv_mT 175 (by decide +kernel)), (pv_mT 176 (by decide +kernel))⟩
theorem lk_5_7_1 : pv_sem pv_prog [5, 7, 1] := fun own h1 => by cases h1; exact ⟨(pv_mT 368 (by decide +kernel)), (pv_mT 175 (by decide +kernel)), (pv_mT 176 (by decide +kernel))⟩
theorem lk_5_8_3 : pv_sem pv_prog [5, 8, 3] := fun own h1 => by cases h1; exact ⟨(pv_mT 572 (by decide +kernel)), (pv_mT 175 (by decide +kernel)), (pv_mT 176 (by decide +kernel))⟩
theorem lk_5_9_1 : pv_sem pv_prog [5, 9, 1] := fun own h1 => by cases h1; exact ⟨(pv_mT 472 (by decide +kernel)), (pv_mT 175 (by decide +kernel)), (pv_mT 176 (by decide +kernel))⟩
theorem lk_5_10_3 : pv_sem pv_prog [5, 10, 3] := fun own h1 => by cases h1; exact ⟨(pv_mT 430 (by decide +kernel)), (pv_mT 175 (by decide +kernel)), (pv_mT 176 (by decide +kernel))⟩
theorem lk_5_11_3 : pv_sem pv_prog [5, 11, 3] := fun own h1 => by cases h1; exact ⟨(pv_mT 174 (by decide +kernel)), (pv_mT 175 (by decide +kernel)), (pv_mT 176 (by decide +kernel))⟩
theorem lk_5_12_1 : pv_sem pv_prog [5, 12, 1] := fun own h1 => by cases h1; exact ⟨(pv_mT 1303 (by decide +kernel)), (pv_mT 175 (by decide +kernel)), (pv_mT 176 (by decide +kernel))⟩
theorem lk_6_4_60_3 : pv_sem pv_prog [6, 4, 60, 3] := fun own h1 => by cases h1; exact ⟨(pv_mT 1208 (by decide +kernel)), (pv_mT 942 (by decide +kernel)), (pv_mT 166 (by decide +kernel)), (pv_mT 943 (by decide +kernel))⟩
theorem lk_6_5_98_1 : pv_sem pv_prog [6, 5, 98, 1] := fun own h1 => by cases h1; exact ⟨(pv_mT 868 (by decide +kernel)), (pv_mT 755 (by decide +kernel)), (pv_mT 162 (by decide +kernel)), (pv_mT 756 (by decide +kernel))⟩
theorem lk_6_6_73_1 : pv_sem pv_prog [6, 6, 73, 1] := fun own h1 => by cases h1; exact ⟨(pv_mT 1148 (by decide +kernel)), (pv_mT 755 (by decide +kernel)), (pv_mT 162 (by decide +kernel)), (pv_mT 756 (by decide +kernel))⟩
theorem lk_6_7_42_1 : pv_sem pv_prog [6, 7, 42, 1] := fun own h1 => by cases h1; exact ⟨(pv_mT 920 (by decide +kernel)), (pv_mT 755 (by decide +kernel)), (pv_mT 162 (by decide +kernel)), (pv_mT 756 (by decide +kernel))⟩
theorem lk_6_8_32_3 : pv_sem pv_prog [6, 8, 32, 3] := fun own h1 => by cases h1; exact ⟨(pv_mT 1179 (by decide +kernel)), (pv_mT 942 (by decide +kernel)), (pv_mT 166 (by decide +kernel)), (pv_mT 943 (by decide +kernel))⟩
theorem lk_6_8_38_0 : pv_sem pv_prog [6, 8, 38, 0] := fun own h1 => by cases h1; exact ⟨(pv_mT 1180 (by decide +kernel)), (pv_mT 752 (by decide +kernel)), (pv_mT 162 (by decide +kernel)), (pv_mT 753 (by decide +kernel))⟩
theorem lk_6_8_44_1 : pv_sem pv_prog [6, 8, 44, 1] := fun own h1 => by cases h1; exact ⟨(pv_mT 1181 (by decide +kernel)), (pv_mT 755 (by decide +kernel)), (pv_mT 162 (by decide +kernel)), (pv_mT 756 (by decide +kernel))⟩
theorem lk_6_11_370_0 : pv_sem pv_prog [6, 11, 370, 0] := fun own h1 => by cases h1; exact ⟨(pv_mT 1039 (by decide +kernel)), (pv_mT 752 (by decide +kernel)), (pv_mT 162 (by decide +kernel)), (pv_mT 753 (by decide +kernel))⟩
theorem lk_7_1_47_20_1 : pv_sem pv_prog [7, 1, 47, 20, 1] := fun own q h1 h2 => by cases h1; cases h2; exact ⟨Or.inr ⟨"CliffGarden", pv_mN 972 (by decide +kernel)⟩, (pv_mT 883 (by decide +kernel)), by decide +kernel⟩
theorem lk_7_1_66_250_2 : pv_sem pv_prog [7, 1, 66, 250, 2] := fun own q h1 h2 => by cases h1; cases h2; exact ⟨Or.inl (pv_mT 901 (by decide +kernel)), (pv_mT 184 (by decide +kernel)), by decide +kernel⟩
theorem lk_7_3_66_138_2 : pv_sem pv_prog [7, 3, 66, 138, 2] := fun own q h1 h2 => by cases h1; cases h2; exact ⟨Or.inr ⟨"CliffGarden", pv_mN 673 (by decide +kernel)⟩, (pv_mT 638 (by decide +kernel)), by decide +kernel⟩
theorem lk_7_4_52_142_2 : pv_sem pv_prog [7, 4, 52, 142, 2] := fun own q h1 h2 => by cases h1; cases h2; exact ⟨Or.inr ⟨"CliffGarden", pv_mN 1203 (by decide +kernel)⟩, (pv_mT 1114 (by decide +kernel)), by decide +kernel⟩
theorem lk_7_4_88_138_2 : pv_sem pv_prog [7, 4, 88, 138, 2] := fun own q h1 h2 => by cases h1; cases h2; exact ⟨Or.inr ⟨"CliffGarden", pv_mN 1226 (by decide +kernel)⟩, (pv_mT 638 (by decide +kernel)), by decide +kernel⟩
theorem lk_7_6_37_142_2 : pv_sem pv_prog [7, 6, 37, 142, 2] := fun own q h1 h2 => by cases h1; cases h2; exact ⟨Or.inr ⟨"CliffGarden", pv_mN 1120 (by decide +kernel)⟩, (pv_mT 1114 (by decide +kernel)), by decide +kernel⟩
theorem lk_7_6_51_250_2 : pv_sem pv_prog [7, 6, 51, 250, 2] := fun own q h1 h2 => by cases h1; cases h2; exact ⟨Or.inl (pv_mT 1269 (by decide +kernel)), (pv_mT 184 (by decide +kernel)), by decide +kernel⟩
theorem lk_7_6_76_138_2 : pv_sem pv_prog [7, 6, 76, 138, 2] := fun own q h1 h2 => by cases h1; cases h2; exact ⟨Or.inr ⟨"CliffGarden", pv_mN 1161 (by decide +kernel)⟩, (pv_mT 638 (by decide +kernel)), by decide +kernel⟩
theorem lk_7_7_54_78_3 : pv_sem pv_prog [7, 7, 54, 78, 3] := fun own q h1 h2 => by cases h1; cases h2; exact ⟨Or.inl (pv_mT 917 (by decide +kernel)), (pv_mT 918 (by decide +kernel)), by decide +kernel⟩
theorem lk_7_10_47_250_2 : pv_sem pv_prog [7, 10, 47, 250, 2] := fun own q h1 h2 => by cases h1; cases h2; exact ⟨Or.inl (pv_mT 944 (by decide +kernel)), (pv_mT 184 (by decide +kernel)), by decide +kernel⟩
theorem lk_7_10_106_138_2 : pv_sem pv_prog [7, 10, 106, 138, 2] := fun own q h1 h2 => by cases h1; cases h2; exact ⟨Or.inr ⟨"CliffGarden", pv_mN 1260 (by decide +kernel)⟩, (pv_mT 638 (by decide +kernel)), by decide +kernel⟩
theorem lk_7_11_310_248_1 : pv_sem pv_prog [7, 11, 310, 248, 1] := fun own q h1 h2 => by cases h1; cases h2; exact ⟨Or.inl (pv_mT 1231 (by decide +kernel)), (pv_mT 1232 (by decide +kernel)), by decide +kernel⟩
theorem lk_7_11_382_20_1 : pv_sem pv_prog [7, 11, 382, 20, 1] := fun own q h1 h2 => by cases h1; cases h2; exact ⟨Or.inr ⟨"CliffGarden", pv_mN 1011 (by decide +kernel)⟩, (pv_mT 883 (by decide +kernel)), by decide +kernel⟩
theorem lk_7_12_279_170_1 : pv_sem pv_prog [7, 12, 279, 170, 1] := fun own q h1 h2 => by cases h1; cases h2; exact ⟨Or.inl (pv_mT 1642 (by decide +kernel)), (pv_mT 1643 (by decide +kernel)), by decide +kernel⟩
theorem lk_7_12_286_171_1 : pv_sem pv_prog [7, 12, 286, 171, 1] := fun own q h1 h2 => by cases h1; cases h2; exact ⟨Or.inl (pv_mT 1645 (by decide +kernel)), (pv_mT 1646 (by decide +kernel)), by decide +kernel⟩
theorem lk_7_12_311_181_1 : pv_sem pv_prog [7, 12, 311, 181, 1] := fun own q h1 h2 => by cases h1; cases h2; exact ⟨Or.inl (pv_mT 1610 (by decide +kernel)), (pv_mT 1611 (by decide +kernel)), by decide +kernel⟩
theorem lk_7_12_329_184_3 : pv_sem pv_prog [7, 12, 329, 184, 3] := fun own q h1 h2 => by cases h1; cases h2; exact ⟨Or.inl (pv_mT 1716 (by decide +kernel)), (pv_mT 1717 (by decide +kernel)), by decide +kernel⟩
theorem lk_7_12_446_226_2 : pv_sem pv_prog [7, 12, 446, 226, 2] := fun own q h1 h2 => by cases h1; cases h2; exact ⟨Or.inl (pv_mT 1869 (by decide +kernel)), (pv_mT 1870 (by decide +kernel)), by decide +kernel⟩
theorem lk_7_12_458_228_2 : pv_sem pv_prog [7, 12, 458, 228, 2] := fun own q h1 h2 => by cases h1; cases h2; exact ⟨Or.inl (pv_mT 1873 (by decide +kernel)), (pv_mT 1874 (by decide +kernel)), by decide +kernel⟩
theorem lk_7_12_468_236_1 : pv_sem pv_prog [7, 12, 468, 236, 1] := fun own q h1 h2 => by cases h1; cases h2; exact ⟨Or.inl (pv_mT 1896 (by decide +kernel)), (pv_mT 1897 (by decide +kernel)), by decide +kernel⟩
theorem lk_8_1_53_21_1_3 : pv_sem pv_prog [8, 1, 53, 21, 1, 3] := fun own M q h1 h2 h3 => by cases h1; cases h2; cases h3; exact ⟨Or.inr ⟨"CliffGarden", pv_mN 973 (by decide +kernel)⟩, (pv_mT 642 (by decide +kernel)), (pv_mT 0 (by decide +kernel)), by decide +kernel, rfl⟩
theorem lk_8_1_93_22_1_3 : pv_sem pv_prog [8, 1, 93, 22, 1, 3] := fun own M q h1 h2 h3 => by cases h1; cases h2; cases h3; exact ⟨Or.inr ⟨"CliffGarden", pv_mN 902 (by decide +kernel)⟩, (pv_mT 670 (by decide +kernel)), (pv_mT 4 (by decide +kernel)), by decide +kernel, rfl⟩
theorem lk_8_1_102_23_1_3 : pv_sem pv_prog [8, 1, 102, 23, 1, 3] := fun own M q h1 h2 h3 => by cases h1; cases h2; cases h3; exact ⟨Or.inr ⟨"CliffGarden", pv_mN 903 (by decide +kernel)⟩, (pv_mT 905 (by decide +kernel)), (pv_mT 27 (by decide +kernel)), by decide +kernel, rfl⟩
theorem lk_8_2_48_23_1_3 : pv_sem pv_prog [8, 2, 48, 23, 1, 3] := fun own M q h1 h2 h3 => by cases h1; cases h2; cases h3; exact ⟨Or.inr ⟨"CliffGarden", pv_mN 967 (by decide +kernel)⟩, (pv_mT 905 (by decide +kernel)), (pv_mT 27 (by decide +kernel)), by decide +kernel, rfl⟩
theorem lk_8_3_73_25_3_3 : pv_sem pv_prog [8, 3, 73, 25, 3, 3] := fun own M q h1 h2 h3 => by cases h1; cases h2; cases h3; exact ⟨Or.inl (pv_mT 648 (by decide +kernel)), (pv_mT 650 (by decide +kernel)), (pv_mT 2 (by decide +kernel)), by decide +kernel, rfl⟩
theorem lk_8_3_102_32_2_3 : pv_sem pv_prog [8, 3, 102, 32, 2, 3] := fun own M q h1 h2 h3 => by cases h1; cases h2; cases h3; exact ⟨Or.inl (pv_mT 1050 (by decide +kernel)), (pv_mT 1014 (by decide +kernel)), (pv_mT 47 (by decide +kernel)), by decide +kernel, rfl⟩
theorem lk_8_3_105_31_0_3 : pv_sem pv_prog [8, 3, 105, 31, 0, 3] := fun own M q h1 h2 h3 => by cases h1; cases h2; cases h3; exact ⟨Or.inl (pv_mT 1051 (by decide +kernel)), (pv_mT 1004 (by decide +kernel)), (pv_mT 45 (by decide +kernel)), by decide +kernel, rfl⟩
theorem lk_8_4_39_21_1_3 : pv_sem pv_prog [8, 4, 39, 21, 1, 3] := fun own M q h1 h2 h3 => by cases h1; cases h2; cases h3; exact ⟨Or.inr ⟨"CliffGarden", pv_mN 1198 (by decide +kernel)⟩, (pv_mT 642 (by decide +kernel)), (pv_mT 0 (by decide +kernel)), by decide +kernel, rfl⟩
theorem lk_8_4_48_30_1_3 : pv_sem pv_prog [8, 4, 48, 30, 1, 3] := fun own M q h1 h2 h3 => by cases h1; cases h2; cases h3; exact ⟨Or.inr ⟨"CliffGarden", pv_mN 1199 (by decide +kernel)⟩, (pv_mT 1201 (by decide +kernel)), (pv_mT 73 (by decide +kernel)), by decide +kernel, rfl⟩
theorem lk_8_4_69_40_2_4 : pv_sem pv_prog [8, 4, 69, 40, 2, 4] := fun own M q h1 h2 h3 => by cases h1; cases h2; cases h3; exact ⟨Or.inl (pv_mT 1209 (by decide +kernel)), (pv_mT 1211 (by decide +kernel)), (pv_mT 75 (by decide +kernel)), by decide +kernel, rfl⟩
theorem lk_8_4_84_25_3_3 : pv_sem pv_prog [8, 4, 84, 25, 3, 3] := fun own M q h1 h2 h3 => by cases h1; cases h2; cases h3; exact ⟨Or.inr ⟨"CliffGarden", pv_mN 1221 (by decide +kernel)⟩, (pv_mT 650 (by decide +kernel)), (pv_mT 2 (by decide +kernel)), by decide +kernel, rfl⟩
theorem lk_8_5_35_51_0_5 : pv_sem pv_prog [8, 5, 35, 51, 0, 5] := fun own M q h1 h2 h3 => by cases h1; cases h2; cases h3; exact ⟨Or.inl (pv_mT 711 (by decide +kernel)), (pv_mT 713 (by decide +kernel)), (pv_mT 7 (by decide +kernel)), by decide +kernel, rfl⟩
theorem lk_8_5_111_56_1_5 : pv_sem pv_prog [8, 5, 111, 56, 1, 5] := fun own M q h1 h2 h3 => by cases h1; cases h2; cases h3; exact ⟨Or.inl (pv_mT 859 (by decide +kernel)), (pv_mT 861 (by decide +kernel)), (pv_mT 20 (by decide +kernel)), by decide +kernel, rfl⟩
theorem lk_8_5_129_61_0_5 : pv_sem pv_prog [8, 5, 129, 61, 0, 5] := fun own M q h1 h2 h3 => by cases h1; cases h2; cases h3; exact ⟨Or.inl (pv_mT 836 (by decide +kernel)), (pv_mT 838 (by decide +kernel)), (pv_mT 15 (by decide +kernel)), by decide +kernel, rfl⟩
theorem lk_8_6_60_69_3_6 : pv_sem pv_prog [8, 6, 60, 69, 3, 6] := fun own M q h1 h2 h3 => by cases h1; cases h2; cases h3; exact ⟨Or.inl (pv_mT 1139 (by decide +kernel)), (pv_mT 1141 (by decide +kernel)), (pv_mT 63 (by decide +kernel)), by decide +kernel, rfl⟩
theorem lk_8_6_64_71_1_6 : pv_sem pv_prog [8, 6, 64, 71, 1, 6] := fun own M q h1 h2 h3 => by cases h1; cases h2; cases h3; exact ⟨Or.inl (pv_mT 1149 (by decide +kernel)), (pv_mT 1151 (by decide +kernel)), (pv_mT 65 (by decide +kernel)), by decide +kernel, rfl⟩
theorem lk_8_8_50_82_1_8 : pv_sem pv_prog [8, 8, 50, 82, 1, 8] := fun own M q h1 h2 h3 => by cases h1; cases h2; cases h3; exact ⟨Or.inl (pv_mT 1182 (by decide +kernel)), (pv_mT 1184 (by decide +kernel)), (pv_mT 71 (by decide +kernel)), by decide +kernel, rfl⟩
theorem lk_8_10_65_21_1_3 : pv_sem pv_prog [8, 10, 65, 21, 1, 3] := fun own M q h1 h2 h3 => by cases h1; cases h2; cases h3; exact ⟨Or.inr ⟨"CliffGarden", pv_mN 950 (by decide +kernel)⟩, (pv_mT 642 (by decide +kernel)), (pv_mT 0 (by decide +kernel)), by decide +kernel, rfl⟩
theorem lk_8_10_72_88_3_10 : pv_sem pv_prog [8, 10, 72, 88, 3, 10] := fun own M q h1 h2 h3 => by cases h1; cases h2; cases h3; exact ⟨Or.inl (pv_mT 951 (by decide +kernel)), (pv_mT 953 (by decide +kernel)), (pv_mT 35 (by decide +kernel)), by decide +kernel, rfl⟩
theorem lk_8_10_80_90_1_10 : pv_sem pv_prog [8, 10, 80, 90, 1, 10] := fun own M q h1 h2 h3 => by cases h1; cases h2; cases h3; exact ⟨Or.inl (pv_mT 1241 (by decide +kernel)), (pv_mT 1243 (by decide +kernel)), (pv_mT 80 (by decide +kernel)), by decide +kernel, rfl⟩
theorem lk_8_10_91_22_1_3 : pv_sem pv_prog [8, 10, 91, 22, 1, 3] := fun own M q h1 h2 h3 => by cases h1; cases h2; cases h3; exact ⟨Or.inr ⟨"CliffGarden", pv_mN 1245 (by decide +kernel)⟩, (pv_mT 670 (by decide +kernel)), (pv_mT 4 (by decide +kernel)), by decide +kernel, rfl⟩
theorem lk_8_10_94_4_2_1 : pv_sem pv_prog [8, 10, 94, 4, 2, 1] := fun own M q h1 h2 h3 => by cases h1; cases h2; cases h3; exact ⟨Or.inr ⟨"CliffGarden", pv_mN 1246 (by decide +kernel)⟩, (pv_mT 923 (by decide +kernel)), (pv_mT 30 (by decide +kernel)), by decide +kernel, rfl⟩
theorem lk_8_10_99_92_0_10 : pv_sem pv_prog [8, 10, 99, 92, 0, 10] := fun own M q h1 h2 h3 => by cases h1; cases h2; cases h3; exact ⟨Or.inl (pv_mT 1251 (by decide +kernel)), (pv_mT 1253 (by decide +kernel)), (pv_mT 82 (by decide +kernel)), by decide +kernel, rfl⟩
theorem lk_8_10_102_87_2_10 : pv_sem pv_prog [8, 10, 102, 87, 2, 10] := fun own M q h1 h2 h3 => by cases h1; cases h2; cases h3; exact ⟨Or.inl (pv_mT 1255 (by decide +kernel)), (pv_mT 939 (by decide +kernel)), (pv_mT 33 (by decide +kernel)), by decide +kernel, rfl⟩
theorem lk_8_11_150_25_3_3 : pv_sem pv_prog [8, 11, 150, 25, 3, 3] := fun own M q h1 h2 h3 => by cases h1; cases h2; cases h3; exact ⟨Or.inr ⟨"CliffGarden", pv_mN 674 (by decide +kernel)⟩, (pv_mT 650 (by decide +kernel)), (pv_mT 2 (by decide +kernel)), by decide +kernel, rfl⟩
theorem lk_8_11_182_45_3_5 : pv_sem pv_prog [8, 11, 182, 45, 3, 5] := fun own M q h1 h2 h3 => by cases h1; cases h2; cases h3; exact ⟨Or.inr ⟨"CliffGarden", pv_mN 707 (by decide +kernel)⟩, (pv_mT 709 (by decide +kernel)), (pv_mT 6 (by decide +kernel)), by decide +kernel, rfl⟩
theorem lk_8_11_189_28_2_3 : pv_sem pv_prog [8, 11, 189, 28, 2, 3] := fun own M q h1 h2 h3 => by cases h1; cases h2; cases h3; exact ⟨Or.inr ⟨"CliffGarden", pv_mN 874 (by decide +kernel)⟩, (pv_mT 876 (by decide +kernel)), (pv_mT 22 (by decide +kernel)), by decide +kernel, rfl⟩
theorem lk_8_11_216_129_0_11 : pv_sem pv_prog [8, 11, 216, 129, 0, 11] := fun own M q h1 h2 h3 => by cases h1; cases h2; cases h3; exact ⟨Or.inl (pv_mT 1026 (by decide +kernel)), (pv_mT 1028 (by decide +kernel)), (pv_mT 49 (by decide +kernel)), by decide +kernel, rfl⟩
theorem lk_8_11_219_130_0_11 : pv_sem pv_prog [8, 11, 219, 130, 0, 11] := fun own M q h1 h2 h3 => by cases h1; cases h2; cases h3; exact ⟨Or.inl (pv_mT 1031 (by decide +kernel)), (pv_mT 1033 (by decide +kernel)), (pv_mT 50 (by decide +kernel)), by decide +kernel, rfl⟩
theorem lk_8_11_222_131_0_11 : pv_sem pv_prog [8, 11, 222, 131, 0, 11] := fun own M q h1 h2 h3 => by cases h1; cases h2; cases h3; exact ⟨Or.inl (pv_mT 1035 (by decide +kernel)), (pv_mT 1037 (by decide +kernel)), (pv_mT 51 (by decide +kernel)), by decide +kernel, rfl⟩
theorem lk_8_11_230_34_1_3 : pv_sem pv_prog [8, 11, 230, 34, 1, 3] := fun own M q h1 h2 h3 => by cases h1; cases h2; cases h3; exact ⟨Or.inr ⟨"CliffGarden", pv_mN 1045 (by decide +kernel)⟩, (pv_mT 1047 (by decide +kernel)), (pv_mT 52 (by decide +kernel)), by decide +kernel, rfl⟩
theorem lk_8_11_237_18_2_2 : pv_sem pv_prog [8, 11, 237, 18, 2, 2] := fun own M q h1 h2 h3 => by cases h1; cases h2; cases h3; exact ⟨Or.inr ⟨"CliffGarden", pv_mN 1060 (by decide +kernel)⟩, (pv_mT 1062 (by decide +kernel)), (pv_mT 54 (by decide +kernel)), by decide +kernel, rfl⟩
theorem lk_8_11_248_2_2_0 : pv_sem pv_prog [8, 11, 248, 2, 2, 0] := fun own M q h1 h2 h3 => by cases h1; cases h2; cases h3; exact ⟨Or.inr ⟨"CliffGarden", pv_mN 1088 (by decide +kernel)⟩, (pv_mT 1090 (by decide +kernel)), (pv_mT 57 (by decide +kernel)), by decide +kernel, rfl⟩
theorem lk_8_11_265_64_1_6 : pv_sem pv_prog [8, 11, 265, 64, 1, 6] := fun own M q h1 h2 h3 => by cases h1; cases h2; cases h3; exact ⟨Or.inr ⟨"CliffGarden", pv_mN 1121 (by decide +kernel)⟩, (pv_mT 1123 (by decide +kernel)), (pv_mT 60 (by decide +kernel)), by decide +kernel, rfl⟩
theorem lk_8_11_277_35_1_3 : pv_sem pv_prog [8, 11, 277, 35, 1, 3] := fun own M q h1 h2 h3 => by cases h1; cases h2; cases h3; exact ⟨Or.inr ⟨"CliffGarden", pv_mN 1166 (by decide +kernel)⟩, (pv_mT 1168 (by decide +kernel)), (pv_mT 68 (by decide +kernel)), by decide +kernel, rfl⟩
theorem lk_8_11_280_80_4_8 : pv_sem pv_prog [8, 11, 280, 80, 4, 8] := fun own M q h1 h2 h3 => by cases h1; cases h2; cases h3; exact ⟨Or.inr ⟨"CliffGarden", pv_mN 1170 (by decide +kernel)⟩, (pv_mT 1172 (by decide +kernel)), (pv_mT 69 (by decide +kernel)), by decide +kernel, rfl⟩
theorem lk_8_11_297_38_1_4 : pv_sem pv_prog [8, 11, 297, 38, 1, 4] := fun own M q h1 h2 h3 => by cases h1; cases h2; cases h3; exact ⟨Or.inr ⟨"CliffGarden", pv_mN 1194 (by decide +kernel)⟩, (pv_mT 1196 (by decide +kernel)), (pv_mT 72 (by decide +kernel)), by decide +kernel, rfl⟩
theorem lk_8_11_301_42_0_4 : pv_sem pv_prog [8, 11, 301, 42, 0, 4] := fun own M q h1 h2 h3 => by cases h1; cases h2; cases h3; exact ⟨Or.inr ⟨"CliffGarden", pv_mN 1217 (by decide +kernel)⟩, (pv_mT 1219 (by decide +kernel)), (pv_mT 77 (by decide +kernel)), by decide +kernel, rfl⟩
theorem lk_8_11_307_43_1_4 : pv_sem pv_prog [8, 11, 307, 43, 1, 4] := fun own M q h1 h2 h3 => by cases h1; cases h2; cases h3; exact ⟨Or.inr ⟨"CliffGarden", pv_mN 1222 (by decide +kernel)⟩, (pv_mT 1224 (by decide +kernel)), (pv_mT 78 (by decide +kernel)), by decide +kernel, rfl⟩
theorem lk_8_11_315_89_2_10 : pv_sem pv_prog [8, 11, 315, 89, 2, 10] := fun own M q h1 h2 h3 => by cases h1; cases h2; cases h3; exact ⟨Or.inr ⟨"CliffGarden", pv_mN 1237 (by decide +kernel)⟩, (pv_mT 1239 (by decide +kernel)), (pv_mT 79 (by decide +kernel)), by decide +kernel, rfl⟩
theorem lk_8_11_322_93_1_10 : pv_sem pv_prog [8, 11, 322, 93, 1, 10] := fun own M q h1 h2 h3 => by cases h1; cases h2; cases h3; exact ⟨Or.inr ⟨"CliffGarden", pv_mN 1256 (by decide +kernel)⟩, (pv_mT 1258 (by decide +kernel)), (pv_mT 83 (by decide +kernel)), by decide +kernel, rfl⟩
theorem lk_8_11_325_66_1_6 : pv_sem pv_prog [8, 11, 325, 66, 1, 6] := fun own M q h1 h2 h3 => by cases h1; cases h2; cases h3; exact ⟨Or.inr ⟨"CliffGarden", pv_mN 1265 (by decide +kernel)⟩, (pv_mT 1267 (by decide +kernel)), (pv_mT 84 (by decide +kernel)), by decide +kernel, rfl⟩
theorem lk_8_11_329_36_2_3 : pv_sem pv_prog [8, 11, 329, 36, 2, 3] := fun own M q h1 h2 h3 => by cases h1; cases h2; cases h3; exact ⟨Or.inr ⟨"CliffGarden", pv_mN 1274 (by decide +kernel)⟩, (pv_mT 1276 (by decide +kernel)), (pv_mT 85 (by decide +kernel)), by decide +kernel, rfl⟩
theorem lk_8_11_335_85_1_9 : pv_sem pv_prog [8, 11, 335, 85, 1, 9] := fun own M q h1 h2 h3 => by cases h1; cases h2; cases h3; exact ⟨Or.inr ⟨"CliffGarden", pv_mN 1282 (by decide +kernel)⟩, (pv_mT 1284 (by decide +kernel)), (pv_mT 86 (by decide +kernel)), by decide +kernel, rfl⟩
theorem lk_8_11_354_27_0_3 : pv_sem pv_prog [8, 11, 354, 27, 0, 3] := fun own M q h1 h2 h3 => by cases h1; cases h2; cases h3; exact ⟨Or.inr ⟨"CliffGarden", pv_mN 1290 (by decide +kernel)⟩, (pv_mT 1292 (by decide +kernel)), (pv_mT 87 (by decide +kernel)), by decide +kernel, rfl⟩
theorem lk_8_11_357_127_1_11 : pv_sem pv_prog [8, 11, 357, 127, 1, 11] := fun own M q h1 h2 h3 => by cases h1; cases h2; cases h3; exact ⟨Or.inl (pv_mT 1294 (by decide +kernel)), (pv_mT 1296 (by decide +kernel)), (pv_mT 88 (by decide +kernel)), by decide +kernel, rfl⟩
theorem lk_8_11_360_87_2_10 : pv_sem pv_prog [8, 11, 360, 87, 2, 10] := fun own M q h1 h2 h3 => by cases h1; cases h2; cases h3; exact ⟨Or.inr ⟨"CliffGarden", pv_mN 937 (by decide +kernel)⟩, (pv_mT 939 (by decide +kernel)), (pv_mT 33 (by decide +kernel)), by decide +kernel, rfl⟩
theorem lk_8_11_373_31_0_3 : pv_sem pv_prog [8, 11, 373, 31, 0, 3] := fun own M q h1 h2 h3 => by cases h1; cases h2; cases h3; exact ⟨Or.inr ⟨"CliffGarden", pv_mN 1002 (by decide +kernel)⟩, (pv_mT 1004 (by decide +kernel)), (pv_mT 45 (by decide +kernel)), by decide +kernel, rfl⟩
theorem lk_8_11_376_133_1_11 : pv_sem pv_prog [8, 11, 376, 133, 1, 11] := fun own M q h1 h2 h3 => by cases h1; cases h2; cases h3; exact ⟨Or.inl (pv_mT 1006 (by decide +kernel)), (pv_mT 1008 (by decide +kernel)), (pv_mT 46 (by decide +kernel)), by decide +kernel, rfl⟩
theorem lk_8_11_379_29_1_3 : pv_sem pv_prog [8, 11, 379, 29, 1, 3] := fun own M q h1 h2 h3 => by cases h1; cases h2; cases h3; exact ⟨Or.inr ⟨"CliffGarden", pv_mN 1010 (by decide +kernel)⟩, (pv_mT 880 (by decide +kernel)), (pv_mT 23 (by decide +kernel)), by decide +kernel, rfl⟩
theorem lk_8_11_385_32_2_3 : pv_sem pv_prog [8, 11, 385, 32, 2, 3] := fun own M q h1 h2 h3 => by cases h1; cases h2; cases h3; exact ⟨Or.inr ⟨"CliffGarden", pv_mN 1012 (by decide +kernel)⟩, (pv_mT 1014 (by decide +kernel)), (pv_mT 47 (by decide +kernel)), by decide +kernel, rfl⟩
theorem lk_8_11_388_15_3_2 : pv_sem pv_prog [8, 11, 388, 15, 3, 2] := fun own M q h1 h2 h3 => by cases h1; cases h2; cases h3; exact ⟨Or.inr ⟨"CliffGarden", pv_mN 963 (by decide +kernel)⟩, (pv_mT 965 (by decide +kernel)), (pv_mT 37 (by decide +kernel)), by decide +kernel, rfl⟩
theorem lk_8_11_392_7_1_1 : pv_sem pv_prog [8, 11, 392, 7, 1, 1] := fun own M q h1 h2 h3 => by cases h1; cases h2; cases h3; exact ⟨Or.inr ⟨"CliffGarden", pv_mN 968 (by decide +kernel)⟩, (pv_mT 970 (by decide +kernel)), (pv_mT 38 (by decide +kernel)), by decide +kernel, rfl⟩
theorem lk_8_11_399_8_1_1 : pv_sem pv_prog [8, 11, 399, 8, 1, 1] := fun own M q h1 h2 h3 => by cases h1; cases h2; cases h3; exact ⟨Or.inr ⟨"CliffGarden", pv_mN 978 (by decide +kernel)⟩, (pv_mT 980 (by decide +kernel)), (pv_mT 40 (by decide +kernel)), by decide +kernel, rfl⟩
theorem lk_8_11_402_135_2_11 : pv_sem pv_prog [8, 11, 402, 135, 2, 11] := fun own M q h1 h2 h3 => by cases h1; cases h2; cases h3; exact ⟨Or.inl (pv_mT 986 (by decide +kernel)), (pv_mT 988 (by decide +kernel)), (pv_mT 42 (by decide +kernel)), by decide +kernel, rfl⟩
theorem lk_8_11_405_16_0_2 : pv_sem pv_prog [8, 11, 405, 16, 0, 2] := fun own M q h1 h2 h3 => by cases h1; cases h2; cases h3; exact ⟨Or.inr ⟨"CliffGarden", pv_mN 990 (by decide +kernel)⟩, (pv_mT 992 (by decide +kernel)), (pv_mT 43 (by decide +kernel)), by decide +kernel, rfl⟩
theorem lk_8_11_412_9_2_1 : pv_sem pv_prog [8, 11, 412, 9, 2, 1] := fun own M q h1 h2 h3 => by cases h1; cases h2; cases h3; exact ⟨Or.inr ⟨"CliffGarden", pv_mN 1072 (by decide +kernel)⟩, (pv_mT 1074 (by decide +kernel)), (pv_mT 56 (by decide +kernel)), by decide +kernel, rfl⟩
theorem lk_8_12_276_166_0_12 : pv_sem pv_prog [8, 12, 276, 166, 0, 12] := fun own M q h1 h2 h3 => by cases h1; cases h2; cases h3; exact ⟨Or.inl (pv_mT 1634 (by decide +kernel)), (pv_mT 1636 (by decide +kernel)), (pv_mT 99 (by decide +kernel)), by decide +kernel, rfl⟩
theorem lk_8_12_302_179_0_12 : pv_sem pv_prog [8, 12, 302, 179, 0, 12] := fun own M q h1 h2 h3 => by cases h1; cases h2; cases h3; exact ⟨Or.inl (pv_mT 1664 (by decide +kernel)), (pv_mT 1666 (by decide +kernel)), (pv_mT 105 (by decide +kernel)), by decide +kernel, rfl⟩
theorem lk_8_12_308_178_1_12 : pv_sem pv_prog [8, 12, 308, 178, 1, 12] := fun own M q h1 h2 h3 => by cases h1; cases h2; cases h3; exact ⟨Or.inl (pv_mT 1676 (by decide +kernel)), (pv_mT 1678 (by decide +kernel)), (pv_mT 108 (by decide +kernel)), by decide +kernel, rfl⟩
theorem lk_8_12_317_180_0_12 : pv_sem pv_prog [8, 12, 317, 180, 0, 12] := fun own M q h1 h2 h3 => by cases h1; cases h2; cases h3; exact ⟨Or.inl (pv_mT 1660 (by decide +kernel)), (pv_mT 1662 (by decide +kernel)), (pv_mT 104 (by decide +kernel)), by decide +kernel, rfl⟩
theorem lk_8_12_323_165_1_12 : pv_sem pv_prog [8, 12, 323, 165, 1, 12] := fun own M q h1 h2 h3 => by cases h1; cases h2; cases h3; exact ⟨Or.inl (pv_mT 1680 (by decide +kernel)), (pv_mT 1682 (by decide +kernel)), (pv_mT 109 (by decide +kernel)), by decide +kernel, rfl⟩
theorem lk_8_12_365_194_2_12 : pv_sem pv_prog [8, 12, 365, 194, 2, 12] := fun own M q h1 h2 h3 => by cases h1; cases h2; cases h3; exact ⟨Or.inl (pv_mT 1727 (by decide +kernel)), (pv_mT 1729 (by decide +kernel)), (pv_mT 118 (by decide +kernel)), by decide +kernel, rfl⟩
theorem lk_8_12_371_197_1_12 : pv_sem pv_prog [8, 12, 371, 197, 1, 12] := fun own M q h1 h2 h3 => by cases h1; cases h2; cases h3; exact ⟨Or.inl (pv_mT 1746 (by decide +kernel)), (pv_mT 1748 (by decide +kernel)), (pv_mT 121 (by decide +kernel)), by decide +kernel, rfl⟩
theorem lk_8_12_383_200_1_12 : pv_sem pv_prog [8, 12, 383, 200, 1, 12] := fun own M q h1 h2 h3 => by cases h1; cases h2; cases h3; exact ⟨Or.inl (pv_mT 1758 (by decide +kernel)), (pv_mT 1760 (by decide +kernel)), (pv_mT 123 (by decide +kernel)), by decide +kernel, rfl⟩
theorem lk_8_12_408_196_0_12 : pv_sem pv_prog [8, 12, 408, 196, 0, 12] := fun own M q h1 h2 h3 => by cases h1; cases h2; cases h3; exact ⟨Or.inl (pv_mT 1794 (by decide +kernel)), (pv_mT 1720 (by decide +kernel)), (pv_mT 1721 (by decide +kernel)), by decide +kernel, rfl⟩
theorem lk_8_12_412_207_0_12 : pv_sem pv_prog [8, 12, 412, 207, 0, 12] := fun own M q h1 h2 h3 => by cases h1; cases h2; cases h3; exact ⟨Or.inl (pv_mT 1796 (by decide +kernel)), (pv_mT 1767 (by decide +kernel)), (pv_mT 1768 (by decide +kernel)), by decide +kernel, rfl⟩
theorem lk_8_12_440_222_0_12 : pv_sem pv_prog [8, 12, 440, 222, 0, 12] := fun own M q h1 h2 h3 => by cases h1; cases h2; cases h3; exact ⟨Or.inl (pv_mT 1842 (by decide +kernel)), (pv_mT 1844 (by decide +kernel)), (pv_mT 132 (by decide +kernel)), by decide +kernel, rfl⟩
theorem lk_8_12_443_224_2_12 : pv_sem pv_prog [8, 12, 443, 224, 2, 12] := fun own M q h1 h2 h3 => by cases h1; cases h2; cases h3; exact ⟨Or.inl (pv_mT 1861 (by decide +kernel)), (pv_mT 1863 (by decide +kernel)), (pv_mT 134 (by decide +kernel)), by decide +kernel, rfl⟩
theorem lk_8_12_453_227_0_12 : pv_sem pv_prog [8, 12, 453, 227, 0, 12] := fun own M q h1 h2 h3 => by cases h1; cases h2; cases h3; exact ⟨Or.inl (pv_mT 1865 (by decide +kernel)), (pv_mT 1867 (by decide +kernel)), (pv_mT 135 (by decide +kernel)), by decide +kernel, rfl⟩
theorem lk_8_12_462_232_0_12 : pv_sem pv_prog [8, 12, 462, 232, 0, 12] := fun own M q h1 h2 h3 => by cases h1; cases h2; cases h3; exact ⟨Or.inl (pv_mT 1884 (by decide +kernel)), (pv_mT 1886 (by decide +kernel)), (pv_mT 136 (by decide +kernel)), by decide +kernel, rfl⟩
theorem lk_8_12_465_231_0_12 : pv_sem pv_prog [8, 12, 465, 231, 0, 12] := fun own M q h1 h2 h3 => by cases h1; cases h2; cases h3; exact ⟨Or.inl (pv_mT 1888 (by decide +kernel)), (pv_mT 1890 (by decide +kernel)), (pv_mT 137 (by decide +kernel)), by decide +kernel, rfl⟩
theorem lk_8_12_471_234_0_12 : pv_sem pv_prog [8, 12, 471, 234, 0, 12] := fun own M q h1 h2 h3 => by cases h1; cases h2; cases h3; exact ⟨Or.inl (pv_mT 1899 (by decide +kernel)), (pv_mT 1901 (by decide +kernel)), (pv_mT 138 (by decide +kernel)), by decide +kernel, rfl⟩
theorem lk_8_12_477_238_1_12 : pv_sem pv_prog [8, 12, 477, 238, 1, 12] := fun own M q h1 h2 h3 => by cases h1; cases h2; cases h3; exact ⟨Or.inl (pv_mT 1915 (by decide +kernel)), (pv_mT 1917 (by decide +kernel)), (pv_mT 141 (by decide +kernel)), by decide +kernel, rfl⟩
theorem lk_8_12_486_242_2_12 : pv_sem pv_prog [8, 12, 486, 242, 2, 12] := fun own M q h1 h2 h3 => by cases h1; cases h2; cases h3; exact ⟨Or.inl (pv_mT 1926 (by decide +kernel)), (pv_mT 1928 (by decide +kernel)), (pv_mT 142 (by decide +kernel)), by decide +kernel, rfl⟩
theorem lk_8_12_489_244_1_12 : pv_sem pv_prog [8, 12, 489, 244, 1, 12] := fun own M q h1 h2 h3 => by cases h1; cases h2; cases h3; exact ⟨Or.inl (pv_mT 1934 (by decide +kernel)), (pv_mT 1936 (by decide +kernel)), (pv_mT 143 (by decide +kernel)), by decide +kernel, rfl⟩
theorem lk_9_1_17_74_0 : pv_sem pv_prog [9, 1, 17, 74, 0] := fun own q h1 h2 => by cases h1; cases h2; exact ⟨Or.inr ⟨"CliffGarden", pv_mN 365 (by decide +kernel)⟩, (pv_mT 366 (by decide +kernel)), by decide +kernel, rfl, rfl⟩
theorem lk_9_11_11_19_0 : pv_sem pv_prog [9, 11, 11, 19, 0] := fun own q h1 h2 => by cases h1; cases h2; exact ⟨Or.inr ⟨"CliffGarden", pv_mN 179 (by decide +kernel)⟩, (pv_mT 180 (by decide +kernel)), by decide +kernel, rfl, rfl⟩
theorem lk_9_11_18_0_0 : pv_sem pv_prog [9, 11, 18, 0, 0] := fun own q h1 h2 => by cases h1; cases h2; exact ⟨Or.inr ⟨"CliffGarden", pv_mN 260 (by decide +kernel)⟩, (pv_mT 261 (by decide +kernel)), by decide +kernel, rfl, rfl⟩
theorem lk_9_11_25_14_0 : pv_sem pv_prog [9, 11, 25, 14, 0] := fun own q h1 h2 => by cases h1; cases h2; exact ⟨Or.inr ⟨"CliffGarden", pv_mN 306 (by decide +kernel)⟩, (pv_mT 307 (by decide +kernel)), by decide +kernel, rfl, rfl⟩
theorem lk_9_11_32_3_3 : pv_sem pv_prog [9, 11, 32, 3, 3] := fun own q h1 h2 => by cases h1; cases h2; exact ⟨Or.inr ⟨"CliffGarden", pv_mN 359 (by decide +kernel)⟩, (pv_mT 360 (by decide +kernel)), by decide +kernel, rfl, rfl⟩
theorem lk_9_11_41_86_2 : pv_sem pv_prog [9, 11, 41, 86, 2] := fun own q h1 h2 => by cases h1; cases h2; exact ⟨Or.inr ⟨"CliffGarden", pv_mN 427 (by decide +kernel)⟩, (pv_mT 428 (by decide +kernel)), by decide +kernel, rfl, rfl⟩
theorem lk_9_11_50_83_0 : pv_sem pv_prog [9, 11, 50, 83, 0] := fun own q h1 h2 => by cases h1; cases h2; exact ⟨Or.inr ⟨"CliffGarden", pv_mN 469 (by decide +kernel)⟩, (pv_mT 470 (by decide +kernel)), by decide +kernel, rfl, rfl⟩
theorem lk_9_11_57_44_0 : pv_sem pv_prog [9, 11, 57, 44, 0] := fun own q h1 h2 => by cases h1; cases h2; exact ⟨Or.inr ⟨"CliffGarden", pv_mN 484 (by decide +kernel)⟩, (pv_mT 485 (by decide +kernel)), by decide +kernel, rfl, rfl⟩
theorem lk_9_11_64_62_0 : pv_sem pv_prog [9, 11, 64, 62, 0] := fun own q h1 h2 => by cases h1; cases h2; exact ⟨Or.inr ⟨"CliffGarden", pv_mN 506 (by decide +kernel)⟩, (pv_mT 507 (by decide +kernel)), by decide +kernel, rfl, rfl⟩
theorem lk_9_11_71_37_2 : pv_sem pv_prog [9, 11, 71, 37, 2] := fun own q h1 h2 => by cases h1; cases h2; exact ⟨Or.inr ⟨"CliffGarden", pv_mN 537 (by decide +kernel)⟩, (pv_mT 538 (by decide +kernel)), by decide +kernel, rfl, rfl⟩
theorem lk_9_11_80_79_0 : pv_sem pv_prog [9, 11, 80, 79, 0] := fun own q h1 h2 => by cases h1; cases h2; exact ⟨Or.inr ⟨"CliffGarden", pv_mN 569 (by decide +kernel)⟩, (pv_mT 570 (by decide +kernel)), by decide +kernel, rfl, rfl⟩
theorem lk_9_11_87_74_0 : pv_sem pv_prog [9, 11, 87, 74, 0] := fun own q h1 h2 => by cases h1; cases h2; exact ⟨Or.inr ⟨"CliffGarden", pv_mN 589 (by decide +kernel)⟩, (pv_mT 366 (by decide +kernel)), by decide +kernel, rfl, rfl⟩
theorem lk_10_5_62_1 : pv_sem pv_prog [10, 5, 62, 1] := trivial
theorem lk_10_5_114_2 : pv_sem pv_prog [10, 5, 114, 2] := trivial
theorem lk_10_5_119_3 : pv_sem pv_prog [10, 5, 119, 3] := trivial
theorem lk_10_5_124_4 : pv_sem pv_prog [10, 5, 124, 4] := trivial
