theorem li_bipush_m3 : ((Int8.ofInt (-3)).toInt32).toInt = (-3) := by decide
theorem li_bipush_m2 : ((Int8.ofInt (-2)).toInt32).toInt = (-2) := by decide
theorem li_bipush_6 : ((Int8.ofInt 6).toInt32).toInt = 6 := by decide
theorem li_bipush_7 : ((Int8.ofInt 7).toInt32).toInt = 7 := by decide
theorem li_bipush_8 : ((Int8.ofInt 8).toInt32).toInt = 8 := by decide
theorem li_bipush_9 : ((Int8.ofInt 9).toInt32).toInt = 9 := by decide
theorem li_bipush_10 : ((Int8.ofInt 10).toInt32).toInt = 10 := by decide
theorem li_bipush_11 : ((Int8.ofInt 11).toInt32).toInt = 11 := by decide
theorem li_bipush_12 : ((Int8.ofInt 12).toInt32).toInt = 12 := by decide
theorem li_bipush_13 : ((Int8.ofInt 13).toInt32).toInt = 13 := by decide
theorem li_bipush_14 : ((Int8.ofInt 14).toInt32).toInt = 14 := by decide
theorem li_bipush_16 : ((Int8.ofInt 16).toInt32).toInt = 16 := by decide
theorem li_bipush_17 : ((Int8.ofInt 17).toInt32).toInt = 17 := by decide
theorem li_bipush_18 : ((Int8.ofInt 18).toInt32).toInt = 18 := by decide
theorem li_bipush_20 : ((Int8.ofInt 20).toInt32).toInt = 20 := by decide
theorem li_bipush_21 : ((Int8.ofInt 21).toInt32).toInt = 21 := by decide
theorem li_bipush_24 : ((Int8.ofInt 24).toInt32).toInt = 24 := by decide
theorem li_bipush_32 : ((Int8.ofInt 32).toInt32).toInt = 32 := by decide
theorem li_bipush_33 : ((Int8.ofInt 33).toInt32).toInt = 33 := by decide
theorem li_bipush_36 : ((Int8.ofInt 36).toInt32).toInt = 36 := by decide
theorem li_bipush_37 : ((Int8.ofInt 37).toInt32).toInt = 37 := by decide
theorem li_bipush_38 : ((Int8.ofInt 38).toInt32).toInt = 38 := by decide
theorem li_bipush_40 : ((Int8.ofInt 40).toInt32).toInt = 40 := by decide
theorem li_bipush_41 : ((Int8.ofInt 41).toInt32).toInt = 41 := by decide
theorem li_bipush_42 : ((Int8.ofInt 42).toInt32).toInt = 42 := by decide
theorem li_bipush_43 : ((Int8.ofInt 43).toInt32).toInt = 43 := by decide
theorem li_bipush_45 : ((Int8.ofInt 45).toInt32).toInt = 45 := by decide
theorem li_bipush_47 : ((Int8.ofInt 47).toInt32).toInt = 47 := by decide
theorem li_bipush_48 : ((Int8.ofInt 48).toInt32).toInt = 48 := by decide
theorem li_bipush_50 : ((Int8.ofInt 50).toInt32).toInt = 50 := by decide
theorem li_bipush_57 : ((Int8.ofInt 57).toInt32).toInt = 57 := by decide
theorem li_bipush_59 : ((Int8.ofInt 59).toInt32).toInt = 59 := by decide
theorem li_bipush_60 : ((Int8.ofInt 60).toInt32).toInt = 60 := by decide
theorem li_bipush_61 : ((Int8.ofInt 61).toInt32).toInt = 61 := by decide
theorem li_bipush_62 : ((Int8.ofInt 62).toInt32).toInt = 62 := by decide
theorem li_bipush_63 : ((Int8.ofInt 63).toInt32).toInt = 63 := by decide
theorem li_bipush_64 : ((Int8.ofInt 64).toInt32).toInt = 64 := by decide
theorem li_bipush_72 : ((Int8.ofInt 72).toInt32).toInt = 72 := by decide
theorem li_bipush_91 : ((Int8.ofInt 91).toInt32).toInt = 91 := by decide
theorem li_bipush_93 : ((Int8.ofInt 93).toInt32).toInt = 93 := by decide
theorem li_bipush_97 : ((Int8.ofInt 97).toInt32).toInt = 97 := by decide
theorem li_bipush_99 : ((Int8.ofInt 99).toInt32).toInt = 99 := by decide
theorem li_bipush_102 : ((Int8.ofInt 102).toInt32).toInt = 102 := by decide
theorem li_bipush_103 : ((Int8.ofInt 103).toInt32).toInt = 103 := by decide
theorem li_bipush_107 : ((Int8.ofInt 107).toInt32).toInt = 107 := by decide
theorem li_bipush_111 : ((Int8.ofInt 111).toInt32).toInt = 111 := by decide
theorem li_bipush_113 : ((Int8.ofInt 113).toInt32).toInt = 113 := by decide
theorem li_bipush_124 : ((Int8.ofInt 124).toInt32).toInt = 124 := by decide
theorem li_bipush_127 : ((Int8.ofInt 127).toInt32).toInt = 127 := by decide
theorem li_iconst_m1 : (Int32.ofInt (-1)).toInt = (-1) := by decide
theorem li_iconst_0 : (Int32.ofInt 0).toInt = 0 := by decide
theorem li_iconst_1 : (Int32.ofInt 1).toInt = 1 := by decide
theorem li_iconst_2 : (Int32.ofInt 2).toInt = 2 := by decide
theorem li_iconst_3 : (Int32.ofInt 3).toInt = 3 := by decide
theorem li_iconst_4 : (Int32.ofInt 4).toInt = 4 := by decide
theorem li_iconst_5 : (Int32.ofInt 5).toInt = 5 := by decide
theorem li_sipush_m1000 : ((Int16.ofInt (-1000)).toInt32).toInt = (-1000) := by decide
theorem li_sipush_199 : ((Int16.ofInt 199).toInt32).toInt = 199 := by decide
theorem li_sipush_200 : ((Int16.ofInt 200).toInt32).toInt = 200 := by decide
theorem li_sipush_220 : ((Int16.ofInt 220).toInt32).toInt = 220 := by decide
theorem li_sipush_255 : ((Int16.ofInt 255).toInt32).toInt = 255 := by decide
theorem li_sipush_256 : ((Int16.ofInt 256).toInt32).toInt = 256 := by decide
theorem li_sipush_999 : ((Int16.ofInt 999).toInt32).toInt = 999 := by decide
theorem li_sipush_1000 : ((Int16.ofInt 1000).toInt32).toInt = 1000 := by decide
theorem li_sipush_1008 : ((Int16.ofInt 1008).toInt32).toInt = 1008 := by decide
theorem li_sipush_2048 : ((Int16.ofInt 2048).toInt32).toInt = 2048 := by decide
theorem li_sipush_2304 : ((Int16.ofInt 2304).toInt32).toInt = 2304 := by decide
theorem li_sipush_9999 : ((Int16.ofInt 9999).toInt32).toInt = 9999 := by decide
theorem li_sipush_13849 : ((Int16.ofInt 13849).toInt32).toInt = 13849 := by decide
theorem li_sipush_25173 : ((Int16.ofInt 25173).toInt32).toInt = 25173 := by decide
theorem li_ldc_65535 : (Int32.ofNat 65535).toInt = 65535 := by decide
theorem li_ldc_65536 : (Int32.ofNat 65536).toInt = 65536 := by decide
theorem li_ldc_1048576 : (Int32.ofNat 1048576).toInt = 1048576 := by decide
theorem li_ldc_252645135 : (Int32.ofNat 252645135).toInt = 252645135 := by decide
theorem li_ldc_858993459 : (Int32.ofNat 858993459).toInt = 858993459 := by decide
theorem li_ldc_1000000000 : (Int32.ofNat 1000000000).toInt = 1000000000 := by decide
theorem li_ldc_1431655765 : (Int32.ofNat 1431655765).toInt = 1431655765 := by decide
theorem li_0 : (0 : Int32).toInt = 0 := by decide
set_option maxHeartbeats 1600000 in
set_option maxRecDepth 20000 in
theorem an_seedC (x : Int32) (f : Nat → Nat → Int32) (g : Nat → Nat → Int64) (hF : fr_ok vlC f) : wR 12 102 [.ref 0, .int x] (gC f g) (fun v h => v = some (.int (if 0 ≤ x.toInt ∧ x.toInt ≤ 65535 then 1 else 0)) ∧ h.length = 79) := by
  refine wR_in rfl (Nat.le_of_ble_eq_true rfl) ?_
  repeat' (first | refine wG_b1t rfl (by decide) ?_ | refine wG_b1f rfl (by decide) ?_ | refine wG_b2t rfl (by decide) ?_ | refine wG_b2f rfl (by decide) ?_ | refine wG_b1 rfl (fun _ => ?_) (fun _ => ?_) | refine wG_b2 rfl (fun _ => ?_) (fun _ => ?_) | refine wG_put rfl rfl (Nat.le_of_ble_eq_true rfl) rfl rfl ?_ | refine wG_ildF hF rfl rfl rfl ?_ ?_ | refine wG_bldF hF rfl (Or.inl rfl) rfl rfl ?_ ?_ | refine wG_ild rfl rfl ?_ ?_ | refine wG_ist rfl rfl ?_ ?_ | refine wG_bld rfl (Or.inl rfl) rfl ?_ ?_ | refine wG_zst rfl rfl ?_ ?_ | refine wG_call rfl rfl rfl (wR_in rfl (Nat.le_of_ble_eq_true rfl) ?_) | refine wG_ret rfl rfl ?_ | refine wG_step rfl rfl rfl rfl ?_)
  all_goals (try simp only [li_hz, pc_lt, pc_nlt, pc_ge, pc_nge, pc_gt, pc_ngt, pc_le, pc_nle, pc_eq, pc_neq, pc_ne, pc_nne, li_bipush_m3, li_bipush_m2, li_bipush_6, li_bipush_7, li_bipush_8, li_bipush_9, li_bipush_10, li_bipush_11, li_bipush_12, li_bipush_13, li_bipush_14, li_bipush_16, li_bipush_17, li_bipush_18, li_bipush_20, li_bipush_21, li_bipush_24, li_bipush_32, li_bipush_33, li_bipush_36, li_bipush_37, li_bipush_38, li_bipush_40, li_bipush_41, li_bipush_42, li_bipush_43, li_bipush_45, li_bipush_47, li_bipush_48, li_bipush_50, li_bipush_57, li_bipush_59, li_bipush_60, li_bipush_61, li_bipush_62, li_bipush_63, li_bipush_64, li_bipush_72, li_bipush_91, li_bipush_93, li_bipush_97, li_bipush_99, li_bipush_102, li_bipush_103, li_bipush_107, li_bipush_111, li_bipush_113, li_bipush_124, li_bipush_127, li_iconst_m1, li_iconst_0, li_iconst_1, li_iconst_2, li_iconst_3, li_iconst_4, li_iconst_5, li_sipush_m1000, li_sipush_199, li_sipush_200, li_sipush_220, li_sipush_255, li_sipush_256, li_sipush_999, li_sipush_1000, li_sipush_1008, li_sipush_2048, li_sipush_2304, li_sipush_9999, li_sipush_13849, li_sipush_25173, li_ldc_65535, li_ldc_65536, li_ldc_1048576, li_ldc_252645135, li_ldc_858993459, li_ldc_1000000000, li_ldc_1431655765, li_0] at *)
  all_goals first
    | (exfalso; omega)
    | (rw [vp_in_iff]; omega)
    | (refine ⟨?_, by simp [gC]⟩; first | (rw [if_pos (by omega)]; rfl) | (rw [if_neg (by omega)]; rfl))

set_option maxHeartbeats 1600000 in
set_option maxRecDepth 20000 in
theorem an_seedM (x : Int32) (f : Nat → Nat → Int32) (g : Nat → Nat → Int64) (hF : fr_ok vlM f) : wR 12 159 [.ref 0, .int x] (gM f g) (fun v h => v = some (.int (if 0 ≤ x.toInt ∧ x.toInt ≤ 65535 then 1 else 0)) ∧ h.length = 64) := by
  refine wR_in rfl (Nat.le_of_ble_eq_true rfl) ?_
  repeat' (first | refine wG_b1t rfl (by decide) ?_ | refine wG_b1f rfl (by decide) ?_ | refine wG_b2t rfl (by decide) ?_ | refine wG_b2f rfl (by decide) ?_ | refine wG_b1 rfl (fun _ => ?_) (fun _ => ?_) | refine wG_b2 rfl (fun _ => ?_) (fun _ => ?_) | refine wG_put rfl rfl (Nat.le_of_ble_eq_true rfl) rfl rfl ?_ | refine wG_ildF hF rfl rfl rfl ?_ ?_ | refine wG_bldF hF rfl (Or.inl rfl) rfl rfl ?_ ?_ | refine wG_ild rfl rfl ?_ ?_ | refine wG_ist rfl rfl ?_ ?_ | refine wG_bld rfl (Or.inl rfl) rfl ?_ ?_ | refine wG_zst rfl rfl ?_ ?_ | refine wG_call rfl rfl rfl (wR_in rfl (Nat.le_of_ble_eq_true rfl) ?_) | refine wG_ret rfl rfl ?_ | refine wG_step rfl rfl rfl rfl ?_)
  all_goals (try simp only [li_hz, pc_lt, pc_nlt, pc_ge, pc_nge, pc_gt, pc_ngt, pc_le, pc_nle, pc_eq, pc_neq, pc_ne, pc_nne, li_bipush_m3, li_bipush_m2, li_bipush_6, li_bipush_7, li_bipush_8, li_bipush_9, li_bipush_10, li_bipush_11, li_bipush_12, li_bipush_13, li_bipush_14, li_bipush_16, li_bipush_17, li_bipush_18, li_bipush_20, li_bipush_21, li_bipush_24, li_bipush_32, li_bipush_33, li_bipush_36, li_bipush_37, li_bipush_38, li_bipush_40, li_bipush_41, li_bipush_42, li_bipush_43, li_bipush_45, li_bipush_47, li_bipush_48, li_bipush_50, li_bipush_57, li_bipush_59, li_bipush_60, li_bipush_61, li_bipush_62, li_bipush_63, li_bipush_64, li_bipush_72, li_bipush_91, li_bipush_93, li_bipush_97, li_bipush_99, li_bipush_102, li_bipush_103, li_bipush_107, li_bipush_111, li_bipush_113, li_bipush_124, li_bipush_127, li_iconst_m1, li_iconst_0, li_iconst_1, li_iconst_2, li_iconst_3, li_iconst_4, li_iconst_5, li_sipush_m1000, li_sipush_199, li_sipush_200, li_sipush_220, li_sipush_255, li_sipush_256, li_sipush_999, li_sipush_1000, li_sipush_1008, li_sipush_2048, li_sipush_2304, li_sipush_9999, li_sipush_13849, li_sipush_25173, li_ldc_65535, li_ldc_65536, li_ldc_1048576, li_ldc_252645135, li_ldc_858993459, li_ldc_1000000000, li_ldc_1431655765, li_0] at *)
  all_goals first
    | (exfalso; omega)
    | (rw [vp_in_iff]; omega)
    | (refine ⟨?_, by simp [gM]⟩; first | (rw [if_pos (by omega)]; rfl) | (rw [if_neg (by omega)]; rfl))

set_option maxHeartbeats 1600000 in
set_option maxRecDepth 20000 in
theorem an_knotC (a b c : Int32) (f : Nat → Nat → Int32) (g : Nat → Nat → Int64) (hF : fr_ok vlC f) : wR 12 96 [.ref 0, .int a, .int b, .int c] (gC f g) (fun v h => v = some (.int (if (0 : Int) ≤ 0 then 0 else 0)) ∧ h.length = 79) := by
  refine wR_in rfl (Nat.le_of_ble_eq_true rfl) ?_
  repeat' (first | refine wG_b1t rfl (by decide) ?_ | refine wG_b1f rfl (by decide) ?_ | refine wG_b2t rfl (by decide) ?_ | refine wG_b2f rfl (by decide) ?_ | refine wG_b1 rfl (fun _ => ?_) (fun _ => ?_) | refine wG_b2 rfl (fun _ => ?_) (fun _ => ?_) | refine wG_put rfl rfl (Nat.le_of_ble_eq_true rfl) rfl rfl ?_ | refine wG_ildF hF rfl rfl rfl ?_ ?_ | refine wG_bldF hF rfl (Or.inl rfl) rfl rfl ?_ ?_ | refine wG_ild rfl rfl ?_ ?_ | refine wG_ist rfl rfl ?_ ?_ | refine wG_bld rfl (Or.inl rfl) rfl ?_ ?_ | refine wG_zst rfl rfl ?_ ?_ | refine wG_call rfl rfl rfl (wR_in rfl (Nat.le_of_ble_eq_true rfl) ?_) | refine wG_ret rfl rfl ?_ | refine wG_step rfl rfl rfl rfl ?_)
  all_goals (try have e1 := i_at1 a b)
  all_goals (try have e2 := i_at2 a b)
  all_goals (try simp only [li_hz, pc_lt, pc_nlt, pc_ge, pc_nge, pc_gt, pc_ngt, pc_le, pc_nle, pc_eq, pc_neq, pc_ne, pc_nne, li_bipush_m3, li_bipush_m2, li_bipush_6, li_bipush_7, li_bipush_8, li_bipush_9, li_bipush_10, li_bipush_11, li_bipush_12, li_bipush_13, li_bipush_14, li_bipush_16, li_bipush_17, li_bipush_18, li_bipush_20, li_bipush_21, li_bipush_24, li_bipush_32, li_bipush_33, li_bipush_36, li_bipush_37, li_bipush_38, li_bipush_40, li_bipush_41, li_bipush_42, li_bipush_43, li_bipush_45, li_bipush_47, li_bipush_48, li_bipush_50, li_bipush_57, li_bipush_59, li_bipush_60, li_bipush_61, li_bipush_62, li_bipush_63, li_bipush_64, li_bipush_72, li_bipush_91, li_bipush_93, li_bipush_97, li_bipush_99, li_bipush_102, li_bipush_103, li_bipush_107, li_bipush_111, li_bipush_113, li_bipush_124, li_bipush_127, li_iconst_m1, li_iconst_0, li_iconst_1, li_iconst_2, li_iconst_3, li_iconst_4, li_iconst_5, li_sipush_m1000, li_sipush_199, li_sipush_200, li_sipush_220, li_sipush_255, li_sipush_256, li_sipush_999, li_sipush_1000, li_sipush_1008, li_sipush_2048, li_sipush_2304, li_sipush_9999, li_sipush_13849, li_sipush_25173, li_ldc_65535, li_ldc_65536, li_ldc_1048576, li_ldc_252645135, li_ldc_858993459, li_ldc_1000000000, li_ldc_1431655765, li_0] at *)
  all_goals first
    | (exfalso; omega)
    | (rw [vp_in_iff]; omega)
    | (refine ⟨?_, by simp [gC]⟩; first | (rw [if_pos (by omega)]; rfl) | (rw [if_neg (by omega)]; rfl))

set_option maxHeartbeats 1600000 in
set_option maxRecDepth 20000 in
theorem an_knotM (a b c : Int32) (f : Nat → Nat → Int32) (g : Nat → Nat → Int64) (hF : fr_ok vlM f) : wR 12 153 [.ref 0, .int a, .int b, .int c] (gM f g) (fun v h => v = some (.int (if (0 : Int) ≤ 0 then 0 else 0)) ∧ h.length = 64) := by
  refine wR_in rfl (Nat.le_of_ble_eq_true rfl) ?_
  repeat' (first | refine wG_b1t rfl (by decide) ?_ | refine wG_b1f rfl (by decide) ?_ | refine wG_b2t rfl (by decide) ?_ | refine wG_b2f rfl (by decide) ?_ | refine wG_b1 rfl (fun _ => ?_) (fun _ => ?_) | refine wG_b2 rfl (fun _ => ?_) (fun _ => ?_) | refine wG_put rfl rfl (Nat.le_of_ble_eq_true rfl) rfl rfl ?_ | refine wG_ildF hF rfl rfl rfl ?_ ?_ | refine wG_bldF hF rfl (Or.inl rfl) rfl rfl ?_ ?_ | refine wG_ild rfl rfl ?_ ?_ | refine wG_ist rfl rfl ?_ ?_ | refine wG_bld rfl (Or.inl rfl) rfl ?_ ?_ | refine wG_zst rfl rfl ?_ ?_ | refine wG_call rfl rfl rfl (wR_in rfl (Nat.le_of_ble_eq_true rfl) ?_) | refine wG_ret rfl rfl ?_ | refine wG_step rfl rfl rfl rfl ?_)
  all_goals (try have e1 := i_at1 a b)
  all_goals (try have e2 := i_at2 a b)
  all_goals (try simp only [li_hz, pc_lt, pc_nlt, pc_ge, pc_nge, pc_gt, pc_ngt, pc_le, pc_nle, pc_eq, pc_neq, pc_ne, pc_nne, li_bipush_m3, li_bipush_m2, li_bipush_6, li_bipush_7, li_bipush_8, li_bipush_9, li_bipush_10, li_bipush_11, li_bipush_12, li_bipush_13, li_bipush_14, li_bipush_16, li_bipush_17, li_bipush_18, li_bipush_20, li_bipush_21, li_bipush_24, li_bipush_32, li_bipush_33, li_bipush_36, li_bipush_37, li_bipush_38, li_bipush_40, li_bipush_41, li_bipush_42, li_bipush_43, li_bipush_45, li_bipush_47, li_bipush_48, li_bipush_50, li_bipush_57, li_bipush_59, li_bipush_60, li_bipush_61, li_bipush_62, li_bipush_63, li_bipush_64, li_bipush_72, li_bipush_91, li_bipush_93, li_bipush_97, li_bipush_99, li_bipush_102, li_bipush_103, li_bipush_107, li_bipush_111, li_bipush_113, li_bipush_124, li_bipush_127, li_iconst_m1, li_iconst_0, li_iconst_1, li_iconst_2, li_iconst_3, li_iconst_4, li_iconst_5, li_sipush_m1000, li_sipush_199, li_sipush_200, li_sipush_220, li_sipush_255, li_sipush_256, li_sipush_999, li_sipush_1000, li_sipush_1008, li_sipush_2048, li_sipush_2304, li_sipush_9999, li_sipush_13849, li_sipush_25173, li_ldc_65535, li_ldc_65536, li_ldc_1048576, li_ldc_252645135, li_ldc_858993459, li_ldc_1000000000, li_ldc_1431655765, li_0] at *)
  all_goals first
    | (exfalso; omega)
    | (rw [vp_in_iff]; omega)
    | (refine ⟨?_, by simp [gM]⟩; first | (rw [if_pos (by omega)]; rfl) | (rw [if_neg (by omega)]; rfl))

