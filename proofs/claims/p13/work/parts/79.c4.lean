def fC_seeCell (c : Int) (A : qA) : qA := qlet (fC_fill35 0 A) fun A3 => qlet (qd c 6) fun v9 => qlet (qu A3 35 2 v9) fun A12 => qlet (qm c 6) fun v17 => qlet (qu A12 35 3 v17) fun A20 => qlet (A20 3 c) fun v25 => qlet (qu A20 35 4 v25) fun A27 => qlet (A27 2 c) fun v32 => qlet (qu A27 35 5 v32) fun A35 => qlet (A35 4 c) fun v40 => qlet (qu A35 35 6 v40) fun A42 => qlet (A42 9 c) fun v47 => qlet (qu A42 35 7 v47) fun A50 => qlet (A50 15 (fd 8)) fun v55 => qlet (qu A50 35 10 v55) fun A57 => qlet (qd c 6) fun v62 => qlet (A57 17 v62) fun v65 => qlet (qu A57 35 11 v65) fun A68 => A68
def sC_seeCell : qS := fun as A K => ∃ c : Int, as = [rf 34, ni c] ∧ (iva IC A ∧ ivf JC A ∧ 0 ≤ c ∧ c ≤ 47) ∧ (∀ A' : qA, iva IC A' → ivf JC A' → frm [35] [] A A' → (A' = fC_seeCell c A) → K none A')
theorem okC_seeCell : okM LC 2 10 sC_seeCell := by
  refine qmeth [] false [(250, sC_fill35)] 79 rfl ⟨okC_fill35.le (by decide), trivial⟩ ?_
  rintro _ A K hA has ⟨c, rfl, ⟨i0, j0, p1, p2⟩, hK⟩
  have rg_c : rng c := has (ni c) (by simp)
  have f0 := frm_0 [35] [] A
  have hT : _ = fC_seeCell c A := (fC_seeCell.eq_1 c A).symm
  refine ⟨Nat.le_of_ble_eq_true rfl, [], trivial, ?_⟩
  refine Exists.intro 0 (And.intro rfl (And.intro (And.intro i0 j0) (fun A3 i4 j5 f6 g7 => ?_)))
  replace hT := qlc g7 hT
  have f8 := frm_c f0 f6 rfl
  refine And.intro (by (first | (clear hm hnf; omega) | omega)) (fun v9 e10 => ?_)
  replace hT := qlc e10 hT
  have h11 := qd_nn (a := c) (b := 6) (by (first | (clear hm hnf; omega) | omega))
  refine And.intro (by (first | (clear hm hnf; omega) | omega)) (And.intro (by (first | (clear hm hnf; omega) | omega)) (fun A12 e13 => ?_))
  replace hT := qlc e13 hT
  have i14 := iva_st i4 e13 trivial
  have j15 := ivf_sa j5 e13 rfl
  have f16 := frm_s f8 e13 rfl
  refine And.intro (by (first | (clear hm hnf; omega) | omega)) (fun v17 e18 => ?_)
  replace hT := qlc e18 hT
  have h19 := qm_nn (a := c) (b := 6) (by (first | (clear hm hnf; omega) | omega))
  refine And.intro (by (first | (clear hm hnf; omega) | omega)) (fun A20 e21 => ?_)
  replace hT := qlc e21 hT
  have i22 := iva_st i14 e21 trivial
  have j23 := ivf_sa j15 e21 rfl
  have f24 := frm_s f16 e21 rfl
  refine And.intro (by (first | (clear hm hnf; omega) | omega)) (fun v25 gv25 e26 => ?_)
  replace hT := qlc e26 hT
  refine And.intro (by (first | (clear hm hnf; omega) | omega)) (fun A27 e28 => ?_)
  replace hT := qlc e28 hT
  have i29 := iva_st i22 e28 trivial
  have j30 := ivf_sa j23 e28 rfl
  have f31 := frm_s f24 e28 rfl
  refine And.intro (by (first | (clear hm hnf; omega) | omega)) (fun v32 gv32 e33 => ?_)
  replace hT := qlc e33 hT
  have b34 := iva_at i29 0 rfl (i := c) (by (first | (clear hm hnf; omega) | omega)) (by (first | (clear hm hnf; omega) | omega))
  refine And.intro (by (first | (clear hm hnf; omega) | omega)) (fun A35 e36 => ?_)
  replace hT := qlc e36 hT
  have i37 := iva_st i29 e36 trivial
  have j38 := ivf_sa j30 e36 rfl
  have f39 := frm_s f31 e36 rfl
  refine And.intro (by (first | (clear hm hnf; omega) | omega)) (fun v40 gv40 e41 => ?_)
  replace hT := qlc e41 hT
  refine And.intro (by (first | (clear hm hnf; omega) | omega)) (fun A42 e43 => ?_)
  replace hT := qlc e43 hT
  have i44 := iva_st i37 e43 trivial
  have j45 := ivf_sa j38 e43 rfl
  have f46 := frm_s f39 e43 rfl
  refine And.intro (by (first | (clear hm hnf; omega) | omega)) (fun v47 gv47 e48 => ?_)
  replace hT := qlc e48 hT
  have b49 := iva_at i44 4 rfl (i := c) (by (first | (clear hm hnf; omega) | omega)) (by (first | (clear hm hnf; omega) | omega))
  refine And.intro (by (first | (clear hm hnf; omega) | omega)) (fun A50 e51 => ?_)
  replace hT := qlc e51 hT
  have i52 := iva_st i44 e51 trivial
  have j53 := ivf_sa j45 e51 rfl
  have f54 := frm_s f46 e51 rfl
  refine fun v55 gv55 e56 => ?_
  replace hT := qlc e56 hT
  refine And.intro (by (first | (clear hm hnf; omega) | omega)) (fun A57 e58 => ?_)
  replace hT := qlc e58 hT
  have i59 := iva_st i52 e58 trivial
  have j60 := ivf_sa j53 e58 rfl
  have f61 := frm_s f54 e58 rfl
  refine And.intro (by (first | (clear hm hnf; omega) | omega)) (fun v62 e63 => ?_)
  replace hT := qlc e63 hT
  have h64 := qd_nn (a := c) (b := 6) (by (first | (clear hm hnf; omega) | omega))
  refine And.intro (by (first | (clear hm hnf; omega) | omega)) (fun v65 gv65 e66 => ?_)
  replace hT := qlc e66 hT
  have b67 := iva_at i59 13 rfl (i := v62) (by (first | (clear hm hnf; omega) | omega)) (by (first | (clear hm hnf; omega) | omega))
  refine And.intro (by (first | (clear hm hnf; omega) | omega)) (fun A68 e69 => ?_)
  replace hT := qlc e69 hT
  have i70 := iva_st i59 e69 trivial
  have j71 := ivf_sa j60 e69 rfl
  have f72 := frm_s f61 e69 rfl
  exact hK _ i70 j71 f72 hT
theorem pC_seeCell {c : Int} {A : qA} (hA : qokA LC A) (p0 : iva IC A) (p1 : ivf JC A) (p2 : 0 ≤ c) (p3 : c ≤ 47) : qokA LC (fC_seeCell c A) ∧ iva IC (fC_seeCell c A) ∧ ivf JC (fC_seeCell c A) ∧ frm [35] [] A (fC_seeCell c A) := by
  obtain ⟨r, B, hB, _, hk⟩ := okM_ex okC_seeCell (as := [rf 34, ni c]) (K := fun _ B => B = (fC_seeCell c A) ∧ iva IC (fC_seeCell c A) ∧ ivf JC (fC_seeCell c A) ∧ frm [35] [] A (fC_seeCell c A)) hA (qoks_c (show qok (rf _) from trivial) (qoks_c (show rng c from ⟨by (first | (clear hm hnf; omega) | omega), by (first | (clear hm hnf; omega) | omega)⟩) qoks_n)) ⟨c, rfl, ⟨p0, p1, p2, p3⟩, fun A9 i9 j9 f9 x0 => (by rw [← x0]; exact ⟨rfl, i9, j9, f9⟩)⟩
  exact ⟨hk.1 ▸ hB, hk.2⟩
def fC_seeFallen (i : Int) (A : qA) : qA := qlet (A 26 i) fun v3 => qlet (qu A 35 0 v3) fun A6 => qlet (A6 27 i) fun v11 => qlet (qu A6 35 1 v11) fun A14 => qlet (A14 28 i) fun v19 => (if v19 = 0 then qlet (qu A14 35 8 0) fun A23 => qlet (A23 29 i) fun v28 => (if v28 = 0 then qlet (qu A23 35 9 0) fun A32 => A32 else qlet (qu A23 35 9 1) fun A37 => A37) else qlet (qu A14 35 8 1) fun A42 => qlet (A42 29 i) fun v47 => (if v47 = 0 then qlet (qu A42 35 9 0) fun A51 => A51 else qlet (qu A42 35 9 1) fun A56 => A56))
def sC_seeFallen : qS := fun as A K => ∃ i : Int, as = [rf 34, ni i] ∧ (iva IC A ∧ ivf JC A ∧ 0 ≤ i ∧ i ≤ 60) ∧ (∀ A' : qA, iva IC A' → ivf JC A' → frm [35] [] A A' → (A' = fC_seeFallen i A) → K none A')
theorem okC_seeFallen : okM LC 1 12 sC_seeFallen := by
  refine qmeth [] false [] 51 rfl trivial ?_
  rintro _ A K hA has ⟨i, rfl, ⟨i0, j0, p1, p2⟩, hK⟩
  have rg_i : rng i := has (ni i) (by simp)
  have f0 := frm_0 [35] [] A
  have hT : _ = fC_seeFallen i A := (fC_seeFallen.eq_1 i A).symm
  refine ⟨Nat.le_of_ble_eq_true rfl, [], trivial, ?_⟩
  refine And.intro (by (first | (clear hm hnf; omega) | omega)) (fun v3 gv3 e4 => ?_)
  replace hT := qlc e4 hT
  have b5 := iva_at i0 18 rfl (i := i) (by (first | (clear hm hnf; omega) | omega)) (by (first | (clear hm hnf; omega) | omega))
  refine And.intro (by (first | (clear hm hnf; omega) | omega)) (fun A6 e7 => ?_)
  replace hT := qlc e7 hT
  have i8 := iva_st i0 e7 trivial
  have j9 := ivf_sa j0 e7 rfl
  have f10 := frm_s f0 e7 rfl
  refine And.intro (by (first | (clear hm hnf; omega) | omega)) (fun v11 gv11 e12 => ?_)
  replace hT := qlc e12 hT
  have b13 := iva_at i8 19 rfl (i := i) (by (first | (clear hm hnf; omega) | omega)) (by (first | (clear hm hnf; omega) | omega))
  refine And.intro (by (first | (clear hm hnf; omega) | omega)) (fun A14 e15 => ?_)
  replace hT := qlc e15 hT
  have i16 := iva_st i8 e15 trivial
  have j17 := ivf_sa j9 e15 rfl
  have f18 := frm_s f10 e15 rfl
  refine And.intro (by (first | (clear hm hnf; omega) | omega)) (fun v19 gv19 e20 => ?_)
  replace hT := qlc e20 hT
  have b21 := iva_at i16 6 rfl (i := i) (by (first | (clear hm hnf; omega) | omega)) (by (first | (clear hm hnf; omega) | omega))
  refine And.intro (fun h22 => ?_) (fun h22 => ?_)
  · replace hT := (if_pos h22).symm.trans hT
    refine And.intro (by (first | (clear hm hnf; omega) | omega)) (fun A23 e24 => ?_)
    replace hT := qlc e24 hT
    have i25 := iva_st i16 e24 trivial
    have j26 := ivf_sa j17 e24 rfl
    have f27 := frm_s f18 e24 rfl
    refine And.intro (by (first | (clear hm hnf; omega) | omega)) (fun v28 gv28 e29 => ?_)
    replace hT := qlc e29 hT
    have b30 := iva_at i25 7 rfl (i := i) (by (first | (clear hm hnf; omega) | omega)) (by (first | (clear hm hnf; omega) | omega))
    refine And.intro (fun h31 => ?_) (fun h31 => ?_)
    · replace hT := (if_pos h31).symm.trans hT
      refine And.intro (by (first | (clear hm hnf; omega) | omega)) (fun A32 e33 => ?_)
      replace hT := qlc e33 hT
      have i34 := iva_st i25 e33 trivial
      have j35 := ivf_sa j26 e33 rfl
      have f36 := frm_s f27 e33 rfl
      exact hK _ i34 j35 f36 hT
    · replace hT := (if_neg h31).symm.trans hT
      refine And.intro (by (first | (clear hm hnf; omega) | omega)) (fun A37 e38 => ?_)
      replace hT := qlc e38 hT
      have i39 := iva_st i25 e38 trivial
      have j40 := ivf_sa j26 e38 rfl
      have f41 := frm_s f27 e38 rfl
      exact hK _ i39 j40 f41 hT
  · replace hT := (if_neg h22).symm.trans hT
    refine And.intro (by (first | (clear hm hnf; omega) | omega)) (fun A42 e43 => ?_)
    replace hT := qlc e43 hT
    have i44 := iva_st i16 e43 trivial
    have j45 := ivf_sa j17 e43 rfl
    have f46 := frm_s f18 e43 rfl
    refine And.intro (by (first | (clear hm hnf; omega) | omega)) (fun v47 gv47 e48 => ?_)
    replace hT := qlc e48 hT
    have b49 := iva_at i44 7 rfl (i := i) (by (first | (clear hm hnf; omega) | omega)) (by (first | (clear hm hnf; omega) | omega))
    refine And.intro (fun h50 => ?_) (fun h50 => ?_)
    · replace hT := (if_pos h50).symm.trans hT
      refine And.intro (by (first | (clear hm hnf; omega) | omega)) (fun A51 e52 => ?_)
      replace hT := qlc e52 hT
      have i53 := iva_st i44 e52 trivial
      have j54 := ivf_sa j45 e52 rfl
      have f55 := frm_s f46 e52 rfl
      exact hK _ i53 j54 f55 hT
    · replace hT := (if_neg h50).symm.trans hT
      refine And.intro (by (first | (clear hm hnf; omega) | omega)) (fun A56 e57 => ?_)
      replace hT := qlc e57 hT
      have i58 := iva_st i44 e57 trivial
      have j59 := ivf_sa j45 e57 rfl
      have f60 := frm_s f46 e57 rfl
      exact hK _ i58 j59 f60 hT
theorem pC_seeFallen {i : Int} {A : qA} (hA : qokA LC A) (p0 : iva IC A) (p1 : ivf JC A) (p2 : 0 ≤ i) (p3 : i ≤ 60) : qokA LC (fC_seeFallen i A) ∧ iva IC (fC_seeFallen i A) ∧ ivf JC (fC_seeFallen i A) ∧ frm [35] [] A (fC_seeFallen i A) := by
  obtain ⟨r, B, hB, _, hk⟩ := okM_ex okC_seeFallen (as := [rf 34, ni i]) (K := fun _ B => B = (fC_seeFallen i A) ∧ iva IC (fC_seeFallen i A) ∧ ivf JC (fC_seeFallen i A) ∧ frm [35] [] A (fC_seeFallen i A)) hA (qoks_c (show qok (rf _) from trivial) (qoks_c (show rng i from ⟨by (first | (clear hm hnf; omega) | omega), by (first | (clear hm hnf; omega) | omega)⟩) qoks_n)) ⟨i, rfl, ⟨p0, p1, p2, p3⟩, fun A9 i9 j9 f9 x0 => (by rw [← x0]; exact ⟨rfl, i9, j9, f9⟩)⟩
  exact ⟨hk.1 ▸ hB, hk.2⟩
def fC_seeCellAndCrop (c : Int) (A : qA) : qA := qlet (fC_seeCell c A) fun A3 => (if 0 ≤ c ∧ c ≤ 47 ∧ HG A3 c ∧ 0 ≤ A3 6 c ∧ A3 6 c ≤ 5 then qlet (A3 6 c) fun v13 => qlet (qu A3 35 0 v13) fun A17 => qlet (A17 7 c) fun v22 => qlet (qu A17 35 1 v22) fun A25 => qlet (fC_isRipe c A25) fun r30 => (if r30 = 0 then qlet (qu A25 35 8 0) fun A35 => qlet (A35 10 c) fun v40 => (if v40 = 0 then qlet (qu A35 35 9 0) fun A44 => A44 else qlet (qu A35 35 9 1) fun A49 => A49) else qlet (qu A25 35 8 1) fun A54 => qlet (A54 10 c) fun v59 => (if v59 = 0 then qlet (qu A54 35 9 0) fun A63 => A63 else qlet (qu A54 35 9 1) fun A68 => A68)) else A3)
def sC_seeCellAndCrop : qS := fun as A K => ∃ c : Int, as = [rf 34, ni c] ∧ (iva IC A ∧ ivf JC A ∧ 0 ≤ c ∧ c ≤ 47) ∧ (∀ A' : qA, iva IC A' → ivf JC A' → frm [35] [] A A' → (A' = fC_seeCellAndCrop c A) → K none A')
theorem okC_seeCellAndCrop : okM LC 4 11 sC_seeCellAndCrop := by
  refine qmeth [] false [(10, sC_seeCell), (22, sC_hasCrop), (23, sC_isRipe)] 58 rfl ⟨okC_seeCell.le (by decide), ⟨okC_hasCrop.le (by decide), ⟨okC_isRipe.le (by decide), trivial⟩⟩⟩ ?_
  rintro _ A K hA has ⟨c, rfl, ⟨i0, j0, p1, p2⟩, hK⟩
  have rg_c : rng c := has (ni c) (by simp)
  have f0 := frm_0 [35] [] A
  have hT : _ = fC_seeCellAndCrop c A := (fC_seeCellAndCrop.eq_1 c A).symm
  refine ⟨Nat.le_of_ble_eq_true rfl, [], trivial, ?_⟩
  refine Exists.intro c (And.intro rfl (And.intro (And.intro i0 (And.intro j0 (And.intro (by (first | (clear hm hnf; omega) | omega)) (by (first | (clear hm hnf; omega) | omega))))) (fun A3 i4 j5 f6 g7 => ?_)))
  replace hT := qlc g7 hT
  have f8 := frm_c f0 f6 rfl
  refine Exists.intro c (And.intro rfl (And.intro (fun h9 => ?_) (fun h9 => ?_)))
  · replace hT := (if_pos h9).symm.trans hT
    obtain ⟨v10, e11⟩ : ∃ v, v = A3 6 c := ⟨_, rfl⟩
    refine And.intro (fun h12 => by exfalso; omega) (fun h12 => ?_)
    refine And.intro (by (first | (clear hm hnf; omega) | omega)) (fun v13 gv13 e14 => ?_)
    replace hT := qlc e14 hT
    have b15 := iva_at i4 2 rfl (i := c) (by (first | (clear hm hnf; omega) | omega)) (by (first | (clear hm hnf; omega) | omega))
    have q16 : v10 = v13 := (e14.trans e11.symm).symm
    subst q16
    refine And.intro (by (first | (clear hm hnf; omega) | omega)) (fun A17 e18 => ?_)
    replace hT := qlc e18 hT
    have i19 := iva_st i4 e18 trivial
    have j20 := ivf_sa j5 e18 rfl
    have f21 := frm_s f8 e18 rfl
    refine And.intro (by (first | (clear hm hnf; omega) | omega)) (fun v22 gv22 e23 => ?_)
    replace hT := qlc e23 hT
    have b24 := iva_at i19 3 rfl (i := c) (by (first | (clear hm hnf; omega) | omega)) (by (first | (clear hm hnf; omega) | omega))
    refine And.intro (by (first | (clear hm hnf; omega) | omega)) (fun A25 e26 => ?_)
    replace hT := qlc e26 hT
    have i27 := iva_st i19 e26 trivial
    have j28 := ivf_sa j20 e26 rfl
    have f29 := frm_s f21 e26 rfl
    refine Exists.intro c (And.intro rfl (And.intro (And.intro i27 j28) (fun r30 g32 g33 g31 => ?_)))
    replace hT := qlc g31 hT
    clear g31
    refine And.intro (fun h34 => ?_) (fun h34 => ?_)
    · replace hT := (if_pos h34).symm.trans hT
      refine And.intro (by (first | (clear hm hnf; omega) | omega)) (fun A35 e36 => ?_)
      replace hT := qlc e36 hT
      have i37 := iva_st i27 e36 trivial
      have j38 := ivf_sa j28 e36 rfl
      have f39 := frm_s f29 e36 rfl
      refine And.intro (by (first | (clear hm hnf; omega) | omega)) (fun v40 gv40 e41 => ?_)
      replace hT := qlc e41 hT
      have b42 := iva_at i37 5 rfl (i := c) (by (first | (clear hm hnf; omega) | omega)) (by (first | (clear hm hnf; omega) | omega))
      refine And.intro (fun h43 => ?_) (fun h43 => ?_)
      · replace hT := (if_pos h43).symm.trans hT
        refine And.intro (by (first | (clear hm hnf; omega) | omega)) (fun A44 e45 => ?_)
        replace hT := qlc e45 hT
        have i46 := iva_st i37 e45 trivial
        have j47 := ivf_sa j38 e45 rfl
        have f48 := frm_s f39 e45 rfl
        exact hK _ i46 j47 f48 hT
      · replace hT := (if_neg h43).symm.trans hT
        refine And.intro (by (first | (clear hm hnf; omega) | omega)) (fun A49 e50 => ?_)
        replace hT := qlc e50 hT
        have i51 := iva_st i37 e50 trivial
        have j52 := ivf_sa j38 e50 rfl
        have f53 := frm_s f39 e50 rfl
        exact hK _ i51 j52 f53 hT
    · replace hT := (if_neg h34).symm.trans hT
      refine And.intro (by (first | (clear hm hnf; omega) | omega)) (fun A54 e55 => ?_)
      replace hT := qlc e55 hT
      have i56 := iva_st i27 e55 trivial
      have j57 := ivf_sa j28 e55 rfl
      have f58 := frm_s f29 e55 rfl
      refine And.intro (by (first | (clear hm hnf; omega) | omega)) (fun v59 gv59 e60 => ?_)
      replace hT := qlc e60 hT
      have b61 := iva_at i56 5 rfl (i := c) (by (first | (clear hm hnf; omega) | omega)) (by (first | (clear hm hnf; omega) | omega))
      refine And.intro (fun h62 => ?_) (fun h62 => ?_)
      · replace hT := (if_pos h62).symm.trans hT
        refine And.intro (by (first | (clear hm hnf; omega) | omega)) (fun A63 e64 => ?_)
        replace hT := qlc e64 hT
        have i65 := iva_st i56 e64 trivial
        have j66 := ivf_sa j57 e64 rfl
        have f67 := frm_s f58 e64 rfl
        exact hK _ i65 j66 f67 hT
      · replace hT := (if_neg h62).symm.trans hT
        refine And.intro (by (first | (clear hm hnf; omega) | omega)) (fun A68 e69 => ?_)
        replace hT := qlc e69 hT
        have i70 := iva_st i56 e69 trivial
        have j71 := ivf_sa j57 e69 rfl
        have f72 := frm_s f58 e69 rfl
        exact hK _ i70 j71 f72 hT
  · replace hT := (if_neg h9).symm.trans hT
    refine And.intro (fun h73 => ?_) (fun h73 => by exfalso; omega)
    exact hK _ i4 j5 f8 hT
theorem pC_seeCellAndCrop {c : Int} {A : qA} (hA : qokA LC A) (p0 : iva IC A) (p1 : ivf JC A) (p2 : 0 ≤ c) (p3 : c ≤ 47) : qokA LC (fC_seeCellAndCrop c A) ∧ iva IC (fC_seeCellAndCrop c A) ∧ ivf JC (fC_seeCellAndCrop c A) ∧ frm [35] [] A (fC_seeCellAndCrop c A) := by
  obtain ⟨r, B, hB, _, hk⟩ := okM_ex okC_seeCellAndCrop (as := [rf 34, ni c]) (K := fun _ B => B = (fC_seeCellAndCrop c A) ∧ iva IC (fC_seeCellAndCrop c A) ∧ ivf JC (fC_seeCellAndCrop c A) ∧ frm [35] [] A (fC_seeCellAndCrop c A)) hA (qoks_c (show qok (rf _) from trivial) (qoks_c (show rng c from ⟨by (first | (clear hm hnf; omega) | omega), by (first | (clear hm hnf; omega) | omega)⟩) qoks_n)) ⟨c, rfl, ⟨p0, p1, p2, p3⟩, fun A9 i9 j9 f9 x0 => (by rw [← x0]; exact ⟨rfl, i9, j9, f9⟩)⟩
  exact ⟨hk.1 ▸ hB, hk.2⟩
def fC_seeFall (i : Int) (A : qA) : qA := qlet (A 25 i) fun v3 => qlet (fC_seeCell v3 A) fun A6 => qlet (fC_seeFallen i A6) fun A12 => qlet (A12 30 i) fun v18 => qlet (A12 25 i) fun v21 => qlet (qm v3 6) fun v25 => qlet (v18 - v25) fun v28 => qlet (qu A12 35 12 v28) fun A30 => A30
def sC_seeFall : qS := fun as A K => ∃ i : Int, as = [rf 34, ni i] ∧ (iva IC A ∧ ivf JC A ∧ 0 ≤ i ∧ i ≤ 60) ∧ (∀ A' : qA, iva IC A' → ivf JC A' → frm [35] [] A A' → (A' = fC_seeFall i A) → K none A')
theorem okC_seeFall : okM LC 3 13 sC_seeFall := by
  refine qmeth [] false [(10, sC_seeCell), (12, sC_seeFallen)] 34 rfl ⟨okC_seeCell.le (by decide), ⟨okC_seeFallen.le (by decide), trivial⟩⟩ ?_
  rintro _ A K hA has ⟨i, rfl, ⟨i0, j0, p1, p2⟩, hK⟩
  have rg_i : rng i := has (ni i) (by simp)
  have f0 := frm_0 [35] [] A
  have hT : _ = fC_seeFall i A := (fC_seeFall.eq_1 i A).symm
  refine ⟨Nat.le_of_ble_eq_true rfl, [], trivial, ?_⟩
  refine And.intro (by (first | (clear hm hnf; omega) | omega)) (fun v3 gv3 e4 => ?_)
  replace hT := qlc e4 hT
  have b5 := iva_at i0 17 rfl (i := i) (by (first | (clear hm hnf; omega) | omega)) (by (first | (clear hm hnf; omega) | omega))
  refine Exists.intro v3 (And.intro rfl (And.intro (And.intro i0 (And.intro j0 (And.intro (by (first | (clear hm hnf; omega) | omega)) (by (first | (clear hm hnf; omega) | omega))))) (fun A6 i7 j8 f9 g10 => ?_)))
  replace hT := qlc g10 hT
  have f11 := frm_c f0 f9 rfl
  refine Exists.intro i (And.intro rfl (And.intro (And.intro i7 (And.intro j8 (And.intro (by (first | (clear hm hnf; omega) | omega)) (by (first | (clear hm hnf; omega) | omega))))) (fun A12 i13 j14 f15 g16 => ?_)))
  replace hT := qlc g16 hT
  have f17 := frm_c f11 f15 rfl
  refine And.intro (by (first | (clear hm hnf; omega) | omega)) (fun v18 gv18 e19 => ?_)
  replace hT := qlc e19 hT
  have b20 := iva_at i13 20 rfl (i := i) (by (first | (clear hm hnf; omega) | omega)) (by (first | (clear hm hnf; omega) | omega))
  refine And.intro (by (first | (clear hm hnf; omega) | omega)) (fun v21 gv21 e22 => ?_)
  replace hT := qlc e22 hT
  have b23 := iva_at i13 17 rfl (i := i) (by (first | (clear hm hnf; omega) | omega)) (by (first | (clear hm hnf; omega) | omega))
  have q24 : v3 = v21 := (e22.trans ((congrFun (Eq.trans (frm_a f15 rfl) (frm_a f9 rfl)) _).trans e4.symm)).symm
  subst q24
  refine And.intro (by (first | (clear hm hnf; omega) | omega)) (fun v25 e26 => ?_)
  replace hT := qlc e26 hT
  have h27 := qm_nn (a := v3) (b := 6) (by (first | (clear hm hnf; omega) | omega))
  refine fun v28 e29 => ?_
  replace hT := qlc e29 hT
  refine And.intro (by (first | (clear hm hnf; omega) | omega)) (And.intro (by (first | (clear hm hnf; omega) | omega)) (fun A30 e31 => ?_))
  replace hT := qlc e31 hT
  have i32 := iva_st i13 e31 trivial
  have j33 := ivf_sa j14 e31 rfl
  have f34 := frm_s f17 e31 rfl
  exact hK _ i32 j33 f34 hT
theorem pC_seeFall {i : Int} {A : qA} (hA : qokA LC A) (p0 : iva IC A) (p1 : ivf JC A) (p2 : 0 ≤ i) (p3 : i ≤ 60) : qokA LC (fC_seeFall i A) ∧ iva IC (fC_seeFall i A) ∧ ivf JC (fC_seeFall i A) ∧ frm [35] [] A (fC_seeFall i A) := by
  obtain ⟨r, B, hB, _, hk⟩ := okM_ex okC_seeFall (as := [rf 34, ni i]) (K := fun _ B => B = (fC_seeFall i A) ∧ iva IC (fC_seeFall i A) ∧ ivf JC (fC_seeFall i A) ∧ frm [35] [] A (fC_seeFall i A)) hA (qoks_c (show qok (rf _) from trivial) (qoks_c (show rng i from ⟨by (first | (clear hm hnf; omega) | omega), by (first | (clear hm hnf; omega) | omega)⟩) qoks_n)) ⟨i, rfl, ⟨p0, p1, p2, p3⟩, fun A9 i9 j9 f9 x0 => (by rw [← x0]; exact ⟨rfl, i9, j9, f9⟩)⟩
  exact ⟨hk.1 ▸ hB, hk.2⟩
def fC_growth36 (c d : Int) (A : qA) : Int × qA := qlet (fC_seeCellAndCrop c A) fun A7 => qlet (qu A7 35 7 d) fun A13 => qlp (fC_answer36 103 50 A13) fun r25 A21 => (r25, A21)
def sC_growth36 : qS := fun as A K => ∃ c d : Int, as = [rf 34, ni c, ni d] ∧ (iva IC A ∧ ivf JC A ∧ 0 ≤ c ∧ c ≤ 47 ∧ (36 ≤ A 34 (fd 4) ∧ A 34 (fd 4) ≤ 36) ∧ (KO A)) ∧ (∀ A' : qA, iva IC A' → ivf JC A' → frm [35, 43, 78] [(36, 9), (71, 9)] A A' → ∀ r : Int, 0 ≤ r → r ≤ 50 → (r = (fC_growth36 c d A).1) → (A' = (fC_growth36 c d A).2) → K (some (ni r)) A')
theorem okC_growth36 : okM LC 5 4 sC_growth36 := by
  refine qmeth [(34, 4, 36)] false [(11, sC_seeCellAndCrop), (76, sC_answer36)] 22 rfl ⟨okC_seeCellAndCrop.le (by decide), ⟨okC_answer36.le (by decide), trivial⟩⟩ ?_
  rintro _ A K hA has ⟨c, d, rfl, ⟨i0, j0, p1, p2, p3, p4⟩, hK⟩
  have rg_c : rng c := has (ni c) (by simp)
  have rg_d : rng d := has (ni d) (by simp)
  have f0 := frm_0 [35, 43, 78] [(36, 9), (71, 9)] A
  obtain ⟨v5, e6⟩ : ∃ v, v = A 34 (fd 4) := ⟨_, rfl⟩
  rw [← e6] at p3
  have hT : _ = fC_growth36 c d A := (fC_growth36.eq_1 c d A).symm
  refine ⟨Nat.le_of_ble_eq_true rfl, [], trivial, ?_⟩
  refine Exists.intro c (And.intro rfl (And.intro (And.intro i0 (And.intro j0 (And.intro (by (first | (clear hm hnf; omega) | omega)) (by (first | (clear hm hnf; omega) | omega))))) (fun A7 i8 j9 f10 g11 => ?_)))
  replace hT := qlc g11 hT
  have f12 := frm_c f0 f10 rfl
  refine And.intro (by (first | (clear hm hnf; omega) | omega)) (fun A13 e14 => ?_)
  replace hT := qlc e14 hT
  have i15 := iva_st i8 e14 trivial
  have j16 := ivf_sa j9 e14 rfl
  have f17 := frm_s f12 e14 rfl
  obtain ⟨v18, e19⟩ : ∃ v, v = A13 34 (fd 4) := ⟨_, rfl⟩
  have q20 : v5 = v18 := (e19.trans ((Eq.trans (congrFun (st_a e14 rfl) _) (frm_f f10 rfl)).trans e6.symm)).symm
  subst q20
  refine And.intro (show A13 34 (fd 4) = ((36 : Nat) : Int) by (first | (clear hm hnf; omega) | omega)) ?_
  refine Exists.intro 103 (Exists.intro 50 (And.intro rfl (And.intro (And.intro i15 (And.intro j16 (And.intro (by (first | (clear hm hnf; omega) | omega)) (And.intro (by (first | (clear hm hnf; omega) | omega)) (KO_fr p4 f17 rfl))))) (fun A21 i22 j23 f24 r25 g29 g30 g26 g27 g28 => ?_))))
  replace hT := qlpc g27 g28 hT
  clear g27 g28
  have f31 := frm_c f17 f24 rfl
  exact hK _ i22 j23 f31 _ (by (first | (clear hm hnf; omega) | omega)) (by (first | (clear hm hnf; omega) | omega)) (congrArg Prod.fst hT) (congrArg Prod.snd hT)
theorem pC_growth36 {c d : Int} {A : qA} (hA : qokA LC A) (rg_d : rng d) (p0 : iva IC A) (p1 : ivf JC A) (p2 : 0 ≤ c) (p3 : c ≤ 47) (p4 : (36 ≤ A 34 (fd 4) ∧ A 34 (fd 4) ≤ 36)) (p5 : KO A) : qokA LC (fC_growth36 c d A).2 ∧ iva IC (fC_growth36 c d A).2 ∧ ivf JC (fC_growth36 c d A).2 ∧ frm [35, 43, 78] [(36, 9), (71, 9)] A (fC_growth36 c d A).2 ∧ (0 ≤ (fC_growth36 c d A).1 ∧ (fC_growth36 c d A).1 ≤ 50) := by
  obtain ⟨r, B, hB, _, hk⟩ := okM_ex okC_growth36 (as := [rf 34, ni c, ni d]) (K := fun _ B => B = (fC_growth36 c d A).2 ∧ iva IC (fC_growth36 c d A).2 ∧ ivf JC (fC_growth36 c d A).2 ∧ frm [35, 43, 78] [(36, 9), (71, 9)] A (fC_growth36 c d A).2 ∧ (0 ≤ (fC_growth36 c d A).1 ∧ (fC_growth36 c d A).1 ≤ 50)) hA (qoks_c (show qok (rf _) from trivial) (qoks_c (show rng c from ⟨by (first | (clear hm hnf; omega) | omega), by (first | (clear hm hnf; omega) | omega)⟩) (qoks_c (rg_d) qoks_n))) ⟨c, d, rfl, ⟨p0, p1, p2, p3, p4, p5⟩, fun A9 i9 j9 f9 r9 g8 g9 x0 x1 => (by rw [← x1]; (try rw [← x0]); exact ⟨rfl, i9, j9, f9, ⟨g8, g9⟩⟩)⟩
  exact ⟨hk.1 ▸ hB, hk.2⟩
def fC_growth71 (c d : Int) (A : qA) : Int × qA := qlet (fC_seeCellAndCrop c A) fun A7 => qlet (qu A7 35 7 d) fun A13 => qlp (fC_answer71 103 50 A13) fun r25 A21 => (r25, A21)
def sC_growth71 : qS := fun as A K => ∃ c d : Int, as = [rf 34, ni c, ni d] ∧ (iva IC A ∧ ivf JC A ∧ 0 ≤ c ∧ c ≤ 47 ∧ (71 ≤ A 34 (fd 4) ∧ A 34 (fd 4) ≤ 71) ∧ (KO A)) ∧ (∀ A' : qA, iva IC A' → ivf JC A' → frm [35, 43, 78] [(36, 9), (71, 9)] A A' → ∀ r : Int, 0 ≤ r → r ≤ 50 → (r = (fC_growth71 c d A).1) → (A' = (fC_growth71 c d A).2) → K (some (ni r)) A')
theorem okC_growth71 : okM LC 5 4 sC_growth71 := by
  refine qmeth [(34, 4, 71)] false [(11, sC_seeCellAndCrop), (76, sC_answer71)] 22 rfl ⟨okC_seeCellAndCrop.le (by decide), ⟨okC_answer71.le (by decide), trivial⟩⟩ ?_
  rintro _ A K hA has ⟨c, d, rfl, ⟨i0, j0, p1, p2, p3, p4⟩, hK⟩
  have rg_c : rng c := has (ni c) (by simp)
  have rg_d : rng d := has (ni d) (by simp)
  have f0 := frm_0 [35, 43, 78] [(36, 9), (71, 9)] A
  obtain ⟨v5, e6⟩ : ∃ v, v = A 34 (fd 4) := ⟨_, rfl⟩
  rw [← e6] at p3
  have hT : _ = fC_growth71 c d A := (fC_growth71.eq_1 c d A).symm
  refine ⟨Nat.le_of_ble_eq_true rfl, [], trivial, ?_⟩
  refine Exists.intro c (And.intro rfl (And.intro (And.intro i0 (And.intro j0 (And.intro (by (first | (clear hm hnf; omega) | omega)) (by (first | (clear hm hnf; omega) | omega))))) (fun A7 i8 j9 f10 g11 => ?_)))
  replace hT := qlc g11 hT
  have f12 := frm_c f0 f10 rfl
  refine And.intro (by (first | (clear hm hnf; omega) | omega)) (fun A13 e14 => ?_)
  replace hT := qlc e14 hT
  have i15 := iva_st i8 e14 trivial
  have j16 := ivf_sa j9 e14 rfl
  have f17 := frm_s f12 e14 rfl
  obtain ⟨v18, e19⟩ : ∃ v, v = A13 34 (fd 4) := ⟨_, rfl⟩
  have q20 : v5 = v18 := (e19.trans ((Eq.trans (congrFun (st_a e14 rfl) _) (frm_f f10 rfl)).trans e6.symm)).symm
  subst q20
  refine And.intro (show A13 34 (fd 4) = ((71 : Nat) : Int) by (first | (clear hm hnf; omega) | omega)) ?_
  refine Exists.intro 103 (Exists.intro 50 (And.intro rfl (And.intro (And.intro i15 (And.intro j16 (And.intro (by (first | (clear hm hnf; omega) | omega)) (And.intro (by (first | (clear hm hnf; omega) | omega)) (KO_fr p4 f17 rfl))))) (fun A21 i22 j23 f24 r25 g29 g30 g26 g27 g28 => ?_))))
  replace hT := qlpc g27 g28 hT
  clear g27 g28
  have f31 := frm_c f17 f24 rfl
  exact hK _ i22 j23 f31 _ (by (first | (clear hm hnf; omega) | omega)) (by (first | (clear hm hnf; omega) | omega)) (congrArg Prod.fst hT) (congrArg Prod.snd hT)
theorem pC_growth71 {c d : Int} {A : qA} (hA : qokA LC A) (rg_d : rng d) (p0 : iva IC A) (p1 : ivf JC A) (p2 : 0 ≤ c) (p3 : c ≤ 47) (p4 : (71 ≤ A 34 (fd 4) ∧ A 34 (fd 4) ≤ 71)) (p5 : KO A) : qokA LC (fC_growth71 c d A).2 ∧ iva IC (fC_growth71 c d A).2 ∧ ivf JC (fC_growth71 c d A).2 ∧ frm [35, 43, 78] [(36, 9), (71, 9)] A (fC_growth71 c d A).2 ∧ (0 ≤ (fC_growth71 c d A).1 ∧ (fC_growth71 c d A).1 ≤ 50) := by
  obtain ⟨r, B, hB, _, hk⟩ := okM_ex okC_growth71 (as := [rf 34, ni c, ni d]) (K := fun _ B => B = (fC_growth71 c d A).2 ∧ iva IC (fC_growth71 c d A).2 ∧ ivf JC (fC_growth71 c d A).2 ∧ frm [35, 43, 78] [(36, 9), (71, 9)] A (fC_growth71 c d A).2 ∧ (0 ≤ (fC_growth71 c d A).1 ∧ (fC_growth71 c d A).1 ≤ 50)) hA (qoks_c (show qok (rf _) from trivial) (qoks_c (show rng c from ⟨by (first | (clear hm hnf; omega) | omega), by (first | (clear hm hnf; omega) | omega)⟩) (qoks_c (rg_d) qoks_n))) ⟨c, d, rfl, ⟨p0, p1, p2, p3, p4, p5⟩, fun A9 i9 j9 f9 r9 g8 g9 x0 x1 => (by rw [← x1]; (try rw [← x0]); exact ⟨rfl, i9, j9, f9, ⟨g8, g9⟩⟩)⟩
  exact ⟨hk.1 ▸ hB, hk.2⟩
def fC_growth (c d : Int) (A : qA) : Int × qA := if A 34 (fd 4) = 36 then fC_growth36 c d A else fC_growth71 c d A
def sC_growth : qS := fun as A K => ∃ c d : Int, as = [rf 34, ni c, ni d] ∧ (iva IC A ∧ ivf JC A ∧ 0 ≤ c ∧ c ≤ 47 ∧ (LW A) ∧ (KO A)) ∧ (∀ A' : qA, iva IC A' → ivf JC A' → frm [35, 43, 78] [(36, 9), (71, 9)] A A' → ∀ r : Int, 0 ≤ r → r ≤ 50 → (r = (fC_growth c d A).1) → (A' = (fC_growth c d A).2) → K (some (ni r)) A')
theorem okC_growth : okM LC 5 4 sC_growth := by
  refine okM_or (okC_growth36.le (by decide)) (okC_growth71.le (by decide)) ?_
  rintro _ A K ⟨c, d, rfl, ⟨h0, h1, h2, h3, h4, h5⟩, hK⟩
  rcases h4 with q | q
  · exact Or.inl ⟨c, d, rfl, ⟨h0, h1, h2, h3, ⟨by (first | (clear hm hnf; omega) | omega), by (first | (clear hm hnf; omega) | omega)⟩, h5⟩, fun A9 i9 j9 f9 r9 g9 g8 x0 x1 => hK A9 i9 j9 f9 r9 g9 g8 (by rw [fC_growth, if_pos q]; exact x0) (by rw [fC_growth, if_pos q]; exact x1)⟩
  · exact Or.inr ⟨c, d, rfl, ⟨h0, h1, h2, h3, ⟨by (first | (clear hm hnf; omega) | omega), by (first | (clear hm hnf; omega) | omega)⟩, h5⟩, fun A9 i9 j9 f9 r9 g9 g8 x0 x1 => hK A9 i9 j9 f9 r9 g9 g8 (by rw [fC_growth, if_neg (by (first | (clear hm hnf; omega) | omega))]; exact x0) (by rw [fC_growth, if_neg (by (first | (clear hm hnf; omega) | omega))]; exact x1)⟩
theorem pC_growth {c d : Int} {A : qA} (hA : qokA LC A) (rg_d : rng d) (p0 : iva IC A) (p1 : ivf JC A) (p2 : 0 ≤ c) (p3 : c ≤ 47) (p4 : LW A) (p5 : KO A) : qokA LC (fC_growth c d A).2 ∧ iva IC (fC_growth c d A).2 ∧ ivf JC (fC_growth c d A).2 ∧ frm [35, 43, 78] [(36, 9), (71, 9)] A (fC_growth c d A).2 ∧ (0 ≤ (fC_growth c d A).1 ∧ (fC_growth c d A).1 ≤ 50) := by
  obtain ⟨r, B, hB, _, hk⟩ := okM_ex okC_growth (as := [rf 34, ni c, ni d]) (K := fun _ B => B = (fC_growth c d A).2 ∧ iva IC (fC_growth c d A).2 ∧ ivf JC (fC_growth c d A).2 ∧ frm [35, 43, 78] [(36, 9), (71, 9)] A (fC_growth c d A).2 ∧ (0 ≤ (fC_growth c d A).1 ∧ (fC_growth c d A).1 ≤ 50)) hA (qoks_c (show qok (rf _) from trivial) (qoks_c (show rng c from ⟨by (first | (clear hm hnf; omega) | omega), by (first | (clear hm hnf; omega) | omega)⟩) (qoks_c (rg_d) qoks_n))) ⟨c, d, rfl, ⟨p0, p1, p2, p3, p4, p5⟩, fun A9 i9 j9 f9 r9 g8 g9 x0 x1 => (by rw [← x1]; (try rw [← x0]); exact ⟨rfl, i9, j9, f9, ⟨g8, g9⟩⟩)⟩
  exact ⟨hk.1 ▸ hB, hk.2⟩
def fC_odds36 (c : Int) (A : qA) : Int × qA := qlet (fC_seeCellAndCrop c A) fun A7 => qlp (fC_answer36 102 1000 A7) fun r20 A16 => (r20, A16)
def sC_odds36 : qS := fun as A K => ∃ c : Int, as = [rf 34, ni c] ∧ (iva IC A ∧ ivf JC A ∧ 0 ≤ c ∧ c ≤ 47 ∧ (36 ≤ A 34 (fd 4) ∧ A 34 (fd 4) ≤ 36) ∧ (KO A)) ∧ (∀ A' : qA, iva IC A' → ivf JC A' → frm [35, 43, 78] [(36, 9), (71, 9)] A A' → ∀ r : Int, 0 ≤ r → r ≤ 1000 → (r = (fC_odds36 c A).1) → (A' = (fC_odds36 c A).2) → K (some (ni r)) A')
theorem okC_odds36 : okM LC 5 5 sC_odds36 := by
  refine qmeth [(34, 4, 36)] false [(11, sC_seeCellAndCrop), (76, sC_answer36)] 17 rfl ⟨okC_seeCellAndCrop.le (by decide), ⟨okC_answer36.le (by decide), trivial⟩⟩ ?_
  rintro _ A K hA has ⟨c, rfl, ⟨i0, j0, p1, p2, p3, p4⟩, hK⟩
  have rg_c : rng c := has (ni c) (by simp)
  have f0 := frm_0 [35, 43, 78] [(36, 9), (71, 9)] A
  obtain ⟨v5, e6⟩ : ∃ v, v = A 34 (fd 4) := ⟨_, rfl⟩
  rw [← e6] at p3
  have hT : _ = fC_odds36 c A := (fC_odds36.eq_1 c A).symm
  refine ⟨Nat.le_of_ble_eq_true rfl, [], trivial, ?_⟩
  refine Exists.intro c (And.intro rfl (And.intro (And.intro i0 (And.intro j0 (And.intro (by (first | (clear hm hnf; omega) | omega)) (by (first | (clear hm hnf; omega) | omega))))) (fun A7 i8 j9 f10 g11 => ?_)))
  replace hT := qlc g11 hT
  have f12 := frm_c f0 f10 rfl
  obtain ⟨v13, e14⟩ : ∃ v, v = A7 34 (fd 4) := ⟨_, rfl⟩
  have q15 : v5 = v13 := (e14.trans ((frm_f f10 rfl).trans e6.symm)).symm
  subst q15
  refine And.intro (show A7 34 (fd 4) = ((36 : Nat) : Int) by (first | (clear hm hnf; omega) | omega)) ?_
  refine Exists.intro 102 (Exists.intro 1000 (And.intro rfl (And.intro (And.intro i8 (And.intro j9 (And.intro (by (first | (clear hm hnf; omega) | omega)) (And.intro (by (first | (clear hm hnf; omega) | omega)) (KO_fr p4 f12 rfl))))) (fun A16 i17 j18 f19 r20 g24 g25 g21 g22 g23 => ?_))))
  replace hT := qlpc g22 g23 hT
  clear g22 g23
  have f26 := frm_c f12 f19 rfl
  exact hK _ i17 j18 f26 _ (by (first | (clear hm hnf; omega) | omega)) (by (first | (clear hm hnf; omega) | omega)) (congrArg Prod.fst hT) (congrArg Prod.snd hT)
theorem pC_odds36 {c : Int} {A : qA} (hA : qokA LC A) (p0 : iva IC A) (p1 : ivf JC A) (p2 : 0 ≤ c) (p3 : c ≤ 47) (p4 : (36 ≤ A 34 (fd 4) ∧ A 34 (fd 4) ≤ 36)) (p5 : KO A) : qokA LC (fC_odds36 c A).2 ∧ iva IC (fC_odds36 c A).2 ∧ ivf JC (fC_odds36 c A).2 ∧ frm [35, 43, 78] [(36, 9), (71, 9)] A (fC_odds36 c A).2 ∧ (0 ≤ (fC_odds36 c A).1 ∧ (fC_odds36 c A).1 ≤ 1000) := by
  obtain ⟨r, B, hB, _, hk⟩ := okM_ex okC_odds36 (as := [rf 34, ni c]) (K := fun _ B => B = (fC_odds36 c A).2 ∧ iva IC (fC_odds36 c A).2 ∧ ivf JC (fC_odds36 c A).2 ∧ frm [35, 43, 78] [(36, 9), (71, 9)] A (fC_odds36 c A).2 ∧ (0 ≤ (fC_odds36 c A).1 ∧ (fC_odds36 c A).1 ≤ 1000)) hA (qoks_c (show qok (rf _) from trivial) (qoks_c (show rng c from ⟨by (first | (clear hm hnf; omega) | omega), by (first | (clear hm hnf; omega) | omega)⟩) qoks_n)) ⟨c, rfl, ⟨p0, p1, p2, p3, p4, p5⟩, fun A9 i9 j9 f9 r9 g8 g9 x0 x1 => (by rw [← x1]; (try rw [← x0]); exact ⟨rfl, i9, j9, f9, ⟨g8, g9⟩⟩)⟩
  exact ⟨hk.1 ▸ hB, hk.2⟩
def fC_odds71 (c : Int) (A : qA) : Int × qA := qlet (fC_seeCellAndCrop c A) fun A7 => qlp (fC_answer71 102 1000 A7) fun r20 A16 => (r20, A16)
def sC_odds71 : qS := fun as A K => ∃ c : Int, as = [rf 34, ni c] ∧ (iva IC A ∧ ivf JC A ∧ 0 ≤ c ∧ c ≤ 47 ∧ (71 ≤ A 34 (fd 4) ∧ A 34 (fd 4) ≤ 71) ∧ (KO A)) ∧ (∀ A' : qA, iva IC A' → ivf JC A' → frm [35, 43, 78] [(36, 9), (71, 9)] A A' → ∀ r : Int, 0 ≤ r → r ≤ 1000 → (r = (fC_odds71 c A).1) → (A' = (fC_odds71 c A).2) → K (some (ni r)) A')
theorem okC_odds71 : okM LC 5 5 sC_odds71 := by
  refine qmeth [(34, 4, 71)] false [(11, sC_seeCellAndCrop), (76, sC_answer71)] 17 rfl ⟨okC_seeCellAndCrop.le (by decide), ⟨okC_answer71.le (by decide), trivial⟩⟩ ?_
  rintro _ A K hA has ⟨c, rfl, ⟨i0, j0, p1, p2, p3, p4⟩, hK⟩
  have rg_c : rng c := has (ni c) (by simp)
  have f0 := frm_0 [35, 43, 78] [(36, 9), (71, 9)] A
  obtain ⟨v5, e6⟩ : ∃ v, v = A 34 (fd 4) := ⟨_, rfl⟩
  rw [← e6] at p3
  have hT : _ = fC_odds71 c A := (fC_odds71.eq_1 c A).symm
  refine ⟨Nat.le_of_ble_eq_true rfl, [], trivial, ?_⟩
  refine Exists.intro c (And.intro rfl (And.intro (And.intro i0 (And.intro j0 (And.intro (by (first | (clear hm hnf; omega) | omega)) (by (first | (clear hm hnf; omega) | omega))))) (fun A7 i8 j9 f10 g11 => ?_)))
  replace hT := qlc g11 hT
  have f12 := frm_c f0 f10 rfl
  obtain ⟨v13, e14⟩ : ∃ v, v = A7 34 (fd 4) := ⟨_, rfl⟩
  have q15 : v5 = v13 := (e14.trans ((frm_f f10 rfl).trans e6.symm)).symm
  subst q15
  refine And.intro (show A7 34 (fd 4) = ((71 : Nat) : Int) by (first | (clear hm hnf; omega) | omega)) ?_
  refine Exists.intro 102 (Exists.intro 1000 (And.intro rfl (And.intro (And.intro i8 (And.intro j9 (And.intro (by (first | (clear hm hnf; omega) | omega)) (And.intro (by (first | (clear hm hnf; omega) | omega)) (KO_fr p4 f12 rfl))))) (fun A16 i17 j18 f19 r20 g24 g25 g21 g22 g23 => ?_))))
  replace hT := qlpc g22 g23 hT
  clear g22 g23
  have f26 := frm_c f12 f19 rfl
  exact hK _ i17 j18 f26 _ (by (first | (clear hm hnf; omega) | omega)) (by (first | (clear hm hnf; omega) | omega)) (congrArg Prod.fst hT) (congrArg Prod.snd hT)
theorem pC_odds71 {c : Int} {A : qA} (hA : qokA LC A) (p0 : iva IC A) (p1 : ivf JC A) (p2 : 0 ≤ c) (p3 : c ≤ 47) (p4 : (71 ≤ A 34 (fd 4) ∧ A 34 (fd 4) ≤ 71)) (p5 : KO A) : qokA LC (fC_odds71 c A).2 ∧ iva IC (fC_odds71 c A).2 ∧ ivf JC (fC_odds71 c A).2 ∧ frm [35, 43, 78] [(36, 9), (71, 9)] A (fC_odds71 c A).2 ∧ (0 ≤ (fC_odds71 c A).1 ∧ (fC_odds71 c A).1 ≤ 1000) := by
  obtain ⟨r, B, hB, _, hk⟩ := okM_ex okC_odds71 (as := [rf 34, ni c]) (K := fun _ B => B = (fC_odds71 c A).2 ∧ iva IC (fC_odds71 c A).2 ∧ ivf JC (fC_odds71 c A).2 ∧ frm [35, 43, 78] [(36, 9), (71, 9)] A (fC_odds71 c A).2 ∧ (0 ≤ (fC_odds71 c A).1 ∧ (fC_odds71 c A).1 ≤ 1000)) hA (qoks_c (show qok (rf _) from trivial) (qoks_c (show rng c from ⟨by (first | (clear hm hnf; omega) | omega), by (first | (clear hm hnf; omega) | omega)⟩) qoks_n)) ⟨c, rfl, ⟨p0, p1, p2, p3, p4, p5⟩, fun A9 i9 j9 f9 r9 g8 g9 x0 x1 => (by rw [← x1]; (try rw [← x0]); exact ⟨rfl, i9, j9, f9, ⟨g8, g9⟩⟩)⟩
  exact ⟨hk.1 ▸ hB, hk.2⟩
def fC_odds (c : Int) (A : qA) : Int × qA := if A 34 (fd 4) = 36 then fC_odds36 c A else fC_odds71 c A
def sC_odds : qS := fun as A K => ∃ c : Int, as = [rf 34, ni c] ∧ (iva IC A ∧ ivf JC A ∧ 0 ≤ c ∧ c ≤ 47 ∧ (LW A) ∧ (KO A)) ∧ (∀ A' : qA, iva IC A' → ivf JC A' → frm [35, 43, 78] [(36, 9), (71, 9)] A A' → ∀ r : Int, 0 ≤ r → r ≤ 1000 → (r = (fC_odds c A).1) → (A' = (fC_odds c A).2) → K (some (ni r)) A')
theorem okC_odds : okM LC 5 5 sC_odds := by
  refine okM_or (okC_odds36.le (by decide)) (okC_odds71.le (by decide)) ?_
  rintro _ A K ⟨c, rfl, ⟨h0, h1, h2, h3, h4, h5⟩, hK⟩
  rcases h4 with q | q
  · exact Or.inl ⟨c, rfl, ⟨h0, h1, h2, h3, ⟨by (first | (clear hm hnf; omega) | omega), by (first | (clear hm hnf; omega) | omega)⟩, h5⟩, fun A9 i9 j9 f9 r9 g9 g8 x0 x1 => hK A9 i9 j9 f9 r9 g9 g8 (by rw [fC_odds, if_pos q]; exact x0) (by rw [fC_odds, if_pos q]; exact x1)⟩
  · exact Or.inr ⟨c, rfl, ⟨h0, h1, h2, h3, ⟨by (first | (clear hm hnf; omega) | omega), by (first | (clear hm hnf; omega) | omega)⟩, h5⟩, fun A9 i9 j9 f9 r9 g9 g8 x0 x1 => hK A9 i9 j9 f9 r9 g9 g8 (by rw [fC_odds, if_neg (by (first | (clear hm hnf; omega) | omega))]; exact x0) (by rw [fC_odds, if_neg (by (first | (clear hm hnf; omega) | omega))]; exact x1)⟩
theorem pC_odds {c : Int} {A : qA} (hA : qokA LC A) (p0 : iva IC A) (p1 : ivf JC A) (p2 : 0 ≤ c) (p3 : c ≤ 47) (p4 : LW A) (p5 : KO A) : qokA LC (fC_odds c A).2 ∧ iva IC (fC_odds c A).2 ∧ ivf JC (fC_odds c A).2 ∧ frm [35, 43, 78] [(36, 9), (71, 9)] A (fC_odds c A).2 ∧ (0 ≤ (fC_odds c A).1 ∧ (fC_odds c A).1 ≤ 1000) := by
  obtain ⟨r, B, hB, _, hk⟩ := okM_ex okC_odds (as := [rf 34, ni c]) (K := fun _ B => B = (fC_odds c A).2 ∧ iva IC (fC_odds c A).2 ∧ ivf JC (fC_odds c A).2 ∧ frm [35, 43, 78] [(36, 9), (71, 9)] A (fC_odds c A).2 ∧ (0 ≤ (fC_odds c A).1 ∧ (fC_odds c A).1 ≤ 1000)) hA (qoks_c (show qok (rf _) from trivial) (qoks_c (show rng c from ⟨by (first | (clear hm hnf; omega) | omega), by (first | (clear hm hnf; omega) | omega)⟩) qoks_n)) ⟨c, rfl, ⟨p0, p1, p2, p3, p4, p5⟩, fun A9 i9 j9 f9 r9 g8 g9 x0 x1 => (by rw [← x1]; (try rw [← x0]); exact ⟨rfl, i9, j9, f9, ⟨g8, g9⟩⟩)⟩
  exact ⟨hk.1 ▸ hB, hk.2⟩
def fC_ageing36 (c : Int) (A : qA) : Int × qA := qlet (fC_seeCellAndCrop c A) fun A7 => qlp (fC_answer36 97 999 A7) fun r20 A16 => (r20, A16)
def sC_ageing36 : qS := fun as A K => ∃ c : Int, as = [rf 34, ni c] ∧ (iva IC A ∧ ivf JC A ∧ 0 ≤ c ∧ c ≤ 47 ∧ (36 ≤ A 34 (fd 4) ∧ A 34 (fd 4) ≤ 36) ∧ (KO A)) ∧ (∀ A' : qA, iva IC A' → ivf JC A' → frm [35, 43, 78] [(36, 9), (71, 9)] A A' → ∀ r : Int, 0 ≤ r → r ≤ 999 → (r = (fC_ageing36 c A).1) → (A' = (fC_ageing36 c A).2) → K (some (ni r)) A')
theorem okC_ageing36 : okM LC 5 6 sC_ageing36 := by
  refine qmeth [(34, 4, 36)] false [(11, sC_seeCellAndCrop), (76, sC_answer36)] 17 rfl ⟨okC_seeCellAndCrop.le (by decide), ⟨okC_answer36.le (by decide), trivial⟩⟩ ?_
  rintro _ A K hA has ⟨c, rfl, ⟨i0, j0, p1, p2, p3, p4⟩, hK⟩
  have rg_c : rng c := has (ni c) (by simp)
  have f0 := frm_0 [35, 43, 78] [(36, 9), (71, 9)] A
  obtain ⟨v5, e6⟩ : ∃ v, v = A 34 (fd 4) := ⟨_, rfl⟩
  rw [← e6] at p3
  have hT : _ = fC_ageing36 c A := (fC_ageing36.eq_1 c A).symm
  refine ⟨Nat.le_of_ble_eq_true rfl, [], trivial, ?_⟩
  refine Exists.intro c (And.intro rfl (And.intro (And.intro i0 (And.intro j0 (And.intro (by (first | (clear hm hnf; omega) | omega)) (by (first | (clear hm hnf; omega) | omega))))) (fun A7 i8 j9 f10 g11 => ?_)))
  replace hT := qlc g11 hT
  have f12 := frm_c f0 f10 rfl
  obtain ⟨v13, e14⟩ : ∃ v, v = A7 34 (fd 4) := ⟨_, rfl⟩
  have q15 : v5 = v13 := (e14.trans ((frm_f f10 rfl).trans e6.symm)).symm
  subst q15
  refine And.intro (show A7 34 (fd 4) = ((36 : Nat) : Int) by (first | (clear hm hnf; omega) | omega)) ?_
  refine Exists.intro 97 (Exists.intro 999 (And.intro rfl (And.intro (And.intro i8 (And.intro j9 (And.intro (by (first | (clear hm hnf; omega) | omega)) (And.intro (by (first | (clear hm hnf; omega) | omega)) (KO_fr p4 f12 rfl))))) (fun A16 i17 j18 f19 r20 g24 g25 g21 g22 g23 => ?_))))
  replace hT := qlpc g22 g23 hT
  clear g22 g23
  have f26 := frm_c f12 f19 rfl
  exact hK _ i17 j18 f26 _ (by (first | (clear hm hnf; omega) | omega)) (by (first | (clear hm hnf; omega) | omega)) (congrArg Prod.fst hT) (congrArg Prod.snd hT)
theorem pC_ageing36 {c : Int} {A : qA} (hA : qokA LC A) (p0 : iva IC A) (p1 : ivf JC A) (p2 : 0 ≤ c) (p3 : c ≤ 47) (p4 : (36 ≤ A 34 (fd 4) ∧ A 34 (fd 4) ≤ 36)) (p5 : KO A) : qokA LC (fC_ageing36 c A).2 ∧ iva IC (fC_ageing36 c A).2 ∧ ivf JC (fC_ageing36 c A).2 ∧ frm [35, 43, 78] [(36, 9), (71, 9)] A (fC_ageing36 c A).2 ∧ (0 ≤ (fC_ageing36 c A).1 ∧ (fC_ageing36 c A).1 ≤ 999) := by
  obtain ⟨r, B, hB, _, hk⟩ := okM_ex okC_ageing36 (as := [rf 34, ni c]) (K := fun _ B => B = (fC_ageing36 c A).2 ∧ iva IC (fC_ageing36 c A).2 ∧ ivf JC (fC_ageing36 c A).2 ∧ frm [35, 43, 78] [(36, 9), (71, 9)] A (fC_ageing36 c A).2 ∧ (0 ≤ (fC_ageing36 c A).1 ∧ (fC_ageing36 c A).1 ≤ 999)) hA (qoks_c (show qok (rf _) from trivial) (qoks_c (show rng c from ⟨by (first | (clear hm hnf; omega) | omega), by (first | (clear hm hnf; omega) | omega)⟩) qoks_n)) ⟨c, rfl, ⟨p0, p1, p2, p3, p4, p5⟩, fun A9 i9 j9 f9 r9 g8 g9 x0 x1 => (by rw [← x1]; (try rw [← x0]); exact ⟨rfl, i9, j9, f9, ⟨g8, g9⟩⟩)⟩
  exact ⟨hk.1 ▸ hB, hk.2⟩
def fC_ageing71 (c : Int) (A : qA) : Int × qA := qlet (fC_seeCellAndCrop c A) fun A7 => qlp (fC_answer71 97 999 A7) fun r20 A16 => (r20, A16)
def sC_ageing71 : qS := fun as A K => ∃ c : Int, as = [rf 34, ni c] ∧ (iva IC A ∧ ivf JC A ∧ 0 ≤ c ∧ c ≤ 47 ∧ (71 ≤ A 34 (fd 4) ∧ A 34 (fd 4) ≤ 71) ∧ (KO A)) ∧ (∀ A' : qA, iva IC A' → ivf JC A' → frm [35, 43, 78] [(36, 9), (71, 9)] A A' → ∀ r : Int, 0 ≤ r → r ≤ 999 → (r = (fC_ageing71 c A).1) → (A' = (fC_ageing71 c A).2) → K (some (ni r)) A')
theorem okC_ageing71 : okM LC 5 6 sC_ageing71 := by
  refine qmeth [(34, 4, 71)] false [(11, sC_seeCellAndCrop), (76, sC_answer71)] 17 rfl ⟨okC_seeCellAndCrop.le (by decide), ⟨okC_answer71.le (by decide), trivial⟩⟩ ?_
  rintro _ A K hA has ⟨c, rfl, ⟨i0, j0, p1, p2, p3, p4⟩, hK⟩
  have rg_c : rng c := has (ni c) (by simp)
  have f0 := frm_0 [35, 43, 78] [(36, 9), (71, 9)] A
  obtain ⟨v5, e6⟩ : ∃ v, v = A 34 (fd 4) := ⟨_, rfl⟩
  rw [← e6] at p3
  have hT : _ = fC_ageing71 c A := (fC_ageing71.eq_1 c A).symm
  refine ⟨Nat.le_of_ble_eq_true rfl, [], trivial, ?_⟩
  refine Exists.intro c (And.intro rfl (And.intro (And.intro i0 (And.intro j0 (And.intro (by (first | (clear hm hnf; omega) | omega)) (by (first | (clear hm hnf; omega) | omega))))) (fun A7 i8 j9 f10 g11 => ?_)))
  replace hT := qlc g11 hT
  have f12 := frm_c f0 f10 rfl
  obtain ⟨v13, e14⟩ : ∃ v, v = A7 34 (fd 4) := ⟨_, rfl⟩
  have q15 : v5 = v13 := (e14.trans ((frm_f f10 rfl).trans e6.symm)).symm
  subst q15
  refine And.intro (show A7 34 (fd 4) = ((71 : Nat) : Int) by (first | (clear hm hnf; omega) | omega)) ?_
  refine Exists.intro 97 (Exists.intro 999 (And.intro rfl (And.intro (And.intro i8 (And.intro j9 (And.intro (by (first | (clear hm hnf; omega) | omega)) (And.intro (by (first | (clear hm hnf; omega) | omega)) (KO_fr p4 f12 rfl))))) (fun A16 i17 j18 f19 r20 g24 g25 g21 g22 g23 => ?_))))
  replace hT := qlpc g22 g23 hT
  clear g22 g23
  have f26 := frm_c f12 f19 rfl
  exact hK _ i17 j18 f26 _ (by (first | (clear hm hnf; omega) | omega)) (by (first | (clear hm hnf; omega) | omega)) (congrArg Prod.fst hT) (congrArg Prod.snd hT)
theorem pC_ageing71 {c : Int} {A : qA} (hA : qokA LC A) (p0 : iva IC A) (p1 : ivf JC A) (p2 : 0 ≤ c) (p3 : c ≤ 47) (p4 : (71 ≤ A 34 (fd 4) ∧ A 34 (fd 4) ≤ 71)) (p5 : KO A) : qokA LC (fC_ageing71 c A).2 ∧ iva IC (fC_ageing71 c A).2 ∧ ivf JC (fC_ageing71 c A).2 ∧ frm [35, 43, 78] [(36, 9), (71, 9)] A (fC_ageing71 c A).2 ∧ (0 ≤ (fC_ageing71 c A).1 ∧ (fC_ageing71 c A).1 ≤ 999) := by
  obtain ⟨r, B, hB, _, hk⟩ := okM_ex okC_ageing71 (as := [rf 34, ni c]) (K := fun _ B => B = (fC_ageing71 c A).2 ∧ iva IC (fC_ageing71 c A).2 ∧ ivf JC (fC_ageing71 c A).2 ∧ frm [35, 43, 78] [(36, 9), (71, 9)] A (fC_ageing71 c A).2 ∧ (0 ≤ (fC_ageing71 c A).1 ∧ (fC_ageing71 c A).1 ≤ 999)) hA (qoks_c (show qok (rf _) from trivial) (qoks_c (show rng c from ⟨by (first | (clear hm hnf; omega) | omega), by (first | (clear hm hnf; omega) | omega)⟩) qoks_n)) ⟨c, rfl, ⟨p0, p1, p2, p3, p4, p5⟩, fun A9 i9 j9 f9 r9 g8 g9 x0 x1 => (by rw [← x1]; (try rw [← x0]); exact ⟨rfl, i9, j9, f9, ⟨g8, g9⟩⟩)⟩
  exact ⟨hk.1 ▸ hB, hk.2⟩
def fC_ageing (c : Int) (A : qA) : Int × qA := if A 34 (fd 4) = 36 then fC_ageing36 c A else fC_ageing71 c A
def sC_ageing : qS := fun as A K => ∃ c : Int, as = [rf 34, ni c] ∧ (iva IC A ∧ ivf JC A ∧ 0 ≤ c ∧ c ≤ 47 ∧ (LW A) ∧ (KO A)) ∧ (∀ A' : qA, iva IC A' → ivf JC A' → frm [35, 43, 78] [(36, 9), (71, 9)] A A' → ∀ r : Int, 0 ≤ r → r ≤ 999 → (r = (fC_ageing c A).1) → (A' = (fC_ageing c A).2) → K (some (ni r)) A')
theorem okC_ageing : okM LC 5 6 sC_ageing := by
  refine okM_or (okC_ageing36.le (by decide)) (okC_ageing71.le (by decide)) ?_
  rintro _ A K ⟨c, rfl, ⟨h0, h1, h2, h3, h4, h5⟩, hK⟩
  rcases h4 with q | q
  · exact Or.inl ⟨c, rfl, ⟨h0, h1, h2, h3, ⟨by (first | (clear hm hnf; omega) | omega), by (first | (clear hm hnf; omega) | omega)⟩, h5⟩, fun A9 i9 j9 f9 r9 g9 g8 x0 x1 => hK A9 i9 j9 f9 r9 g9 g8 (by rw [fC_ageing, if_pos q]; exact x0) (by rw [fC_ageing, if_pos q]; exact x1)⟩
  · exact Or.inr ⟨c, rfl, ⟨h0, h1, h2, h3, ⟨by (first | (clear hm hnf; omega) | omega), by (first | (clear hm hnf; omega) | omega)⟩, h5⟩, fun A9 i9 j9 f9 r9 g9 g8 x0 x1 => hK A9 i9 j9 f9 r9 g9 g8 (by rw [fC_ageing, if_neg (by (first | (clear hm hnf; omega) | omega))]; exact x0) (by rw [fC_ageing, if_neg (by (first | (clear hm hnf; omega) | omega))]; exact x1)⟩
theorem pC_ageing {c : Int} {A : qA} (hA : qokA LC A) (p0 : iva IC A) (p1 : ivf JC A) (p2 : 0 ≤ c) (p3 : c ≤ 47) (p4 : LW A) (p5 : KO A) : qokA LC (fC_ageing c A).2 ∧ iva IC (fC_ageing c A).2 ∧ ivf JC (fC_ageing c A).2 ∧ frm [35, 43, 78] [(36, 9), (71, 9)] A (fC_ageing c A).2 ∧ (0 ≤ (fC_ageing c A).1 ∧ (fC_ageing c A).1 ≤ 999) := by
  obtain ⟨r, B, hB, _, hk⟩ := okM_ex okC_ageing (as := [rf 34, ni c]) (K := fun _ B => B = (fC_ageing c A).2 ∧ iva IC (fC_ageing c A).2 ∧ ivf JC (fC_ageing c A).2 ∧ frm [35, 43, 78] [(36, 9), (71, 9)] A (fC_ageing c A).2 ∧ (0 ≤ (fC_ageing c A).1 ∧ (fC_ageing c A).1 ≤ 999)) hA (qoks_c (show qok (rf _) from trivial) (qoks_c (show rng c from ⟨by (first | (clear hm hnf; omega) | omega), by (first | (clear hm hnf; omega) | omega)⟩) qoks_n)) ⟨c, rfl, ⟨p0, p1, p2, p3, p4, p5⟩, fun A9 i9 j9 f9 r9 g8 g9 x0 x1 => (by rw [← x1]; (try rw [← x0]); exact ⟨rfl, i9, j9, f9, ⟨g8, g9⟩⟩)⟩
  exact ⟨hk.1 ▸ hB, hk.2⟩
def fC_ownerOf36 (i : Int) (A : qA) : Int × qA := qlet (fC_seeFall i A) fun A7 => qlp (fC_answer36 111 7 A7) fun r20 A16 => (r20, A16)
def sC_ownerOf36 : qS := fun as A K => ∃ i : Int, as = [rf 34, ni i] ∧ (iva IC A ∧ ivf JC A ∧ 0 ≤ i ∧ i ≤ 60 ∧ (36 ≤ A 34 (fd 4) ∧ A 34 (fd 4) ≤ 36) ∧ (KO A)) ∧ (∀ A' : qA, iva IC A' → ivf JC A' → frm [35, 43, 78] [(36, 9), (71, 9)] A A' → ∀ r : Int, 0 ≤ r → r ≤ 7 → (r = (fC_ownerOf36 i A).1) → (A' = (fC_ownerOf36 i A).2) → K (some (ni r)) A')
theorem okC_ownerOf36 : okM LC 4 8 sC_ownerOf36 := by
  refine qmeth [(34, 4, 36)] false [(13, sC_seeFall), (76, sC_answer36)] 17 rfl ⟨okC_seeFall.le (by decide), ⟨okC_answer36.le (by decide), trivial⟩⟩ ?_
  rintro _ A K hA has ⟨i, rfl, ⟨i0, j0, p1, p2, p3, p4⟩, hK⟩
  have rg_i : rng i := has (ni i) (by simp)
  have f0 := frm_0 [35, 43, 78] [(36, 9), (71, 9)] A
  obtain ⟨v5, e6⟩ : ∃ v, v = A 34 (fd 4) := ⟨_, rfl⟩
  rw [← e6] at p3
  have hT : _ = fC_ownerOf36 i A := (fC_ownerOf36.eq_1 i A).symm
  refine ⟨Nat.le_of_ble_eq_true rfl, [], trivial, ?_⟩
  refine Exists.intro i (And.intro rfl (And.intro (And.intro i0 (And.intro j0 (And.intro (by (first | (clear hm hnf; omega) | omega)) (by (first | (clear hm hnf; omega) | omega))))) (fun A7 i8 j9 f10 g11 => ?_)))
  replace hT := qlc g11 hT
  have f12 := frm_c f0 f10 rfl
  obtain ⟨v13, e14⟩ : ∃ v, v = A7 34 (fd 4) := ⟨_, rfl⟩
  have q15 : v5 = v13 := (e14.trans ((frm_f f10 rfl).trans e6.symm)).symm
  subst q15
  refine And.intro (show A7 34 (fd 4) = ((36 : Nat) : Int) by (first | (clear hm hnf; omega) | omega)) ?_
  refine Exists.intro 111 (Exists.intro 7 (And.intro rfl (And.intro (And.intro i8 (And.intro j9 (And.intro (by (first | (clear hm hnf; omega) | omega)) (And.intro (by (first | (clear hm hnf; omega) | omega)) (KO_fr p4 f12 rfl))))) (fun A16 i17 j18 f19 r20 g24 g25 g21 g22 g23 => ?_))))
  replace hT := qlpc g22 g23 hT
  clear g22 g23
  have f26 := frm_c f12 f19 rfl
  exact hK _ i17 j18 f26 _ (by (first | (clear hm hnf; omega) | omega)) (by (first | (clear hm hnf; omega) | omega)) (congrArg Prod.fst hT) (congrArg Prod.snd hT)
theorem pC_ownerOf36 {i : Int} {A : qA} (hA : qokA LC A) (p0 : iva IC A) (p1 : ivf JC A) (p2 : 0 ≤ i) (p3 : i ≤ 60) (p4 : (36 ≤ A 34 (fd 4) ∧ A 34 (fd 4) ≤ 36)) (p5 : KO A) : qokA LC (fC_ownerOf36 i A).2 ∧ iva IC (fC_ownerOf36 i A).2 ∧ ivf JC (fC_ownerOf36 i A).2 ∧ frm [35, 43, 78] [(36, 9), (71, 9)] A (fC_ownerOf36 i A).2 ∧ (0 ≤ (fC_ownerOf36 i A).1 ∧ (fC_ownerOf36 i A).1 ≤ 7) := by
  obtain ⟨r, B, hB, _, hk⟩ := okM_ex okC_ownerOf36 (as := [rf 34, ni i]) (K := fun _ B => B = (fC_ownerOf36 i A).2 ∧ iva IC (fC_ownerOf36 i A).2 ∧ ivf JC (fC_ownerOf36 i A).2 ∧ frm [35, 43, 78] [(36, 9), (71, 9)] A (fC_ownerOf36 i A).2 ∧ (0 ≤ (fC_ownerOf36 i A).1 ∧ (fC_ownerOf36 i A).1 ≤ 7)) hA (qoks_c (show qok (rf _) from trivial) (qoks_c (show rng i from ⟨by (first | (clear hm hnf; omega) | omega), by (first | (clear hm hnf; omega) | omega)⟩) qoks_n)) ⟨i, rfl, ⟨p0, p1, p2, p3, p4, p5⟩, fun A9 i9 j9 f9 r9 g8 g9 x0 x1 => (by rw [← x1]; (try rw [← x0]); exact ⟨rfl, i9, j9, f9, ⟨g8, g9⟩⟩)⟩
  exact ⟨hk.1 ▸ hB, hk.2⟩
def fC_ownerOf71 (i : Int) (A : qA) : Int × qA := qlet (fC_seeFall i A) fun A7 => qlp (fC_answer71 111 7 A7) fun r20 A16 => (r20, A16)
def sC_ownerOf71 : qS := fun as A K => ∃ i : Int, as = [rf 34, ni i] ∧ (iva IC A ∧ ivf JC A ∧ 0 ≤ i ∧ i ≤ 60 ∧ (71 ≤ A 34 (fd 4) ∧ A 34 (fd 4) ≤ 71) ∧ (KO A)) ∧ (∀ A' : qA, iva IC A' → ivf JC A' → frm [35, 43, 78] [(36, 9), (71, 9)] A A' → ∀ r : Int, 0 ≤ r → r ≤ 7 → (r = (fC_ownerOf71 i A).1) → (A' = (fC_ownerOf71 i A).2) → K (some (ni r)) A')
theorem okC_ownerOf71 : okM LC 4 8 sC_ownerOf71 := by
  refine qmeth [(34, 4, 71)] false [(13, sC_seeFall), (76, sC_answer71)] 17 rfl ⟨okC_seeFall.le (by decide), ⟨okC_answer71.le (by decide), trivial⟩⟩ ?_
  rintro _ A K hA has ⟨i, rfl, ⟨i0, j0, p1, p2, p3, p4⟩, hK⟩
  have rg_i : rng i := has (ni i) (by simp)
  have f0 := frm_0 [35, 43, 78] [(36, 9), (71, 9)] A
  obtain ⟨v5, e6⟩ : ∃ v, v = A 34 (fd 4) := ⟨_, rfl⟩
  rw [← e6] at p3
  have hT : _ = fC_ownerOf71 i A := (fC_ownerOf71.eq_1 i A).symm
  refine ⟨Nat.le_of_ble_eq_true rfl, [], trivial, ?_⟩
  refine Exists.intro i (And.intro rfl (And.intro (And.intro i0 (And.intro j0 (And.intro (by (first | (clear hm hnf; omega) | omega)) (by (first | (clear hm hnf; omega) | omega))))) (fun A7 i8 j9 f10 g11 => ?_)))
  replace hT := qlc g11 hT
  have f12 := frm_c f0 f10 rfl
  obtain ⟨v13, e14⟩ : ∃ v, v = A7 34 (fd 4) := ⟨_, rfl⟩
  have q15 : v5 = v13 := (e14.trans ((frm_f f10 rfl).trans e6.symm)).symm
  subst q15
  refine And.intro (show A7 34 (fd 4) = ((71 : Nat) : Int) by (first | (clear hm hnf; omega) | omega)) ?_
  refine Exists.intro 111 (Exists.intro 7 (And.intro rfl (And.intro (And.intro i8 (And.intro j9 (And.intro (by (first | (clear hm hnf; omega) | omega)) (And.intro (by (first | (clear hm hnf; omega) | omega)) (KO_fr p4 f12 rfl))))) (fun A16 i17 j18 f19 r20 g24 g25 g21 g22 g23 => ?_))))
  replace hT := qlpc g22 g23 hT
  clear g22 g23
  have f26 := frm_c f12 f19 rfl
  exact hK _ i17 j18 f26 _ (by (first | (clear hm hnf; omega) | omega)) (by (first | (clear hm hnf; omega) | omega)) (congrArg Prod.fst hT) (congrArg Prod.snd hT)
theorem pC_ownerOf71 {i : Int} {A : qA} (hA : qokA LC A) (p0 : iva IC A) (p1 : ivf JC A) (p2 : 0 ≤ i) (p3 : i ≤ 60) (p4 : (71 ≤ A 34 (fd 4) ∧ A 34 (fd 4) ≤ 71)) (p5 : KO A) : qokA LC (fC_ownerOf71 i A).2 ∧ iva IC (fC_ownerOf71 i A).2 ∧ ivf JC (fC_ownerOf71 i A).2 ∧ frm [35, 43, 78] [(36, 9), (71, 9)] A (fC_ownerOf71 i A).2 ∧ (0 ≤ (fC_ownerOf71 i A).1 ∧ (fC_ownerOf71 i A).1 ≤ 7) := by
  obtain ⟨r, B, hB, _, hk⟩ := okM_ex okC_ownerOf71 (as := [rf 34, ni i]) (K := fun _ B => B = (fC_ownerOf71 i A).2 ∧ iva IC (fC_ownerOf71 i A).2 ∧ ivf JC (fC_ownerOf71 i A).2 ∧ frm [35, 43, 78] [(36, 9), (71, 9)] A (fC_ownerOf71 i A).2 ∧ (0 ≤ (fC_ownerOf71 i A).1 ∧ (fC_ownerOf71 i A).1 ≤ 7)) hA (qoks_c (show qok (rf _) from trivial) (qoks_c (show rng i from ⟨by (first | (clear hm hnf; omega) | omega), by (first | (clear hm hnf; omega) | omega)⟩) qoks_n)) ⟨i, rfl, ⟨p0, p1, p2, p3, p4, p5⟩, fun A9 i9 j9 f9 r9 g8 g9 x0 x1 => (by rw [← x1]; (try rw [← x0]); exact ⟨rfl, i9, j9, f9, ⟨g8, g9⟩⟩)⟩
  exact ⟨hk.1 ▸ hB, hk.2⟩
def fC_ownerOf (i : Int) (A : qA) : Int × qA := if A 34 (fd 4) = 36 then fC_ownerOf36 i A else fC_ownerOf71 i A
def sC_ownerOf : qS := fun as A K => ∃ i : Int, as = [rf 34, ni i] ∧ (iva IC A ∧ ivf JC A ∧ 0 ≤ i ∧ i ≤ 60 ∧ (LW A) ∧ (KO A)) ∧ (∀ A' : qA, iva IC A' → ivf JC A' → frm [35, 43, 78] [(36, 9), (71, 9)] A A' → ∀ r : Int, 0 ≤ r → r ≤ 7 → (r = (fC_ownerOf i A).1) → (A' = (fC_ownerOf i A).2) → K (some (ni r)) A')
theorem okC_ownerOf : okM LC 4 8 sC_ownerOf := by
  refine okM_or (okC_ownerOf36.le (by decide)) (okC_ownerOf71.le (by decide)) ?_
  rintro _ A K ⟨i, rfl, ⟨h0, h1, h2, h3, h4, h5⟩, hK⟩
  rcases h4 with q | q
  · exact Or.inl ⟨i, rfl, ⟨h0, h1, h2, h3, ⟨by (first | (clear hm hnf; omega) | omega), by (first | (clear hm hnf; omega) | omega)⟩, h5⟩, fun A9 i9 j9 f9 r9 g9 g8 x0 x1 => hK A9 i9 j9 f9 r9 g9 g8 (by rw [fC_ownerOf, if_pos q]; exact x0) (by rw [fC_ownerOf, if_pos q]; exact x1)⟩
  · exact Or.inr ⟨i, rfl, ⟨h0, h1, h2, h3, ⟨by (first | (clear hm hnf; omega) | omega), by (first | (clear hm hnf; omega) | omega)⟩, h5⟩, fun A9 i9 j9 f9 r9 g9 g8 x0 x1 => hK A9 i9 j9 f9 r9 g9 g8 (by rw [fC_ownerOf, if_neg (by (first | (clear hm hnf; omega) | omega))]; exact x0) (by rw [fC_ownerOf, if_neg (by (first | (clear hm hnf; omega) | omega))]; exact x1)⟩
theorem pC_ownerOf {i : Int} {A : qA} (hA : qokA LC A) (p0 : iva IC A) (p1 : ivf JC A) (p2 : 0 ≤ i) (p3 : i ≤ 60) (p4 : LW A) (p5 : KO A) : qokA LC (fC_ownerOf i A).2 ∧ iva IC (fC_ownerOf i A).2 ∧ ivf JC (fC_ownerOf i A).2 ∧ frm [35, 43, 78] [(36, 9), (71, 9)] A (fC_ownerOf i A).2 ∧ (0 ≤ (fC_ownerOf i A).1 ∧ (fC_ownerOf i A).1 ≤ 7) := by
  obtain ⟨r, B, hB, _, hk⟩ := okM_ex okC_ownerOf (as := [rf 34, ni i]) (K := fun _ B => B = (fC_ownerOf i A).2 ∧ iva IC (fC_ownerOf i A).2 ∧ ivf JC (fC_ownerOf i A).2 ∧ frm [35, 43, 78] [(36, 9), (71, 9)] A (fC_ownerOf i A).2 ∧ (0 ≤ (fC_ownerOf i A).1 ∧ (fC_ownerOf i A).1 ≤ 7)) hA (qoks_c (show qok (rf _) from trivial) (qoks_c (show rng i from ⟨by (first | (clear hm hnf; omega) | omega), by (first | (clear hm hnf; omega) | omega)⟩) qoks_n)) ⟨i, rfl, ⟨p0, p1, p2, p3, p4, p5⟩, fun A9 i9 j9 f9 r9 g8 g9 x0 x1 => (by rw [← x1]; (try rw [← x0]); exact ⟨rfl, i9, j9, f9, ⟨g8, g9⟩⟩)⟩
  exact ⟨hk.1 ▸ hB, hk.2⟩
def fC_pointsOf36 (i b : Int) (A : qA) : Int × qA := qlet (fC_seeFall i A) fun A9 => qlet (qu A9 35 13 b) fun A15 => qlp (fC_answer36 113 1000 A15) fun r27 A23 => (r27, A23)
def sC_pointsOf36 : qS := fun as A K => ∃ i b : Int, as = [rf 34, ni i, ni b] ∧ (iva IC A ∧ ivf JC A ∧ 0 ≤ i ∧ i ≤ 60 ∧ 0 ≤ b ∧ b ≤ 7 ∧ (36 ≤ A 34 (fd 4) ∧ A 34 (fd 4) ≤ 36) ∧ (KO A)) ∧ (∀ A' : qA, iva IC A' → ivf JC A' → frm [35, 43, 78] [(36, 9), (71, 9)] A A' → ∀ r : Int, 0 ≤ r → r ≤ 1000 → (r = (fC_pointsOf36 i b A).1) → (A' = (fC_pointsOf36 i b A).2) → K (some (ni r)) A')
theorem okC_pointsOf36 : okM LC 4 9 sC_pointsOf36 := by
  refine qmeth [(34, 4, 36)] false [(13, sC_seeFall), (76, sC_answer36)] 22 rfl ⟨okC_seeFall.le (by decide), ⟨okC_answer36.le (by decide), trivial⟩⟩ ?_
  rintro _ A K hA has ⟨i, b, rfl, ⟨i0, j0, p1, p2, p3, p4, p5, p6⟩, hK⟩
  have rg_i : rng i := has (ni i) (by simp)
  have rg_b : rng b := has (ni b) (by simp)
  have f0 := frm_0 [35, 43, 78] [(36, 9), (71, 9)] A
  obtain ⟨v7, e8⟩ : ∃ v, v = A 34 (fd 4) := ⟨_, rfl⟩
  rw [← e8] at p5
  have hT : _ = fC_pointsOf36 i b A := (fC_pointsOf36.eq_1 i b A).symm
  refine ⟨Nat.le_of_ble_eq_true rfl, [], trivial, ?_⟩
  refine Exists.intro i (And.intro rfl (And.intro (And.intro i0 (And.intro j0 (And.intro (by (first | (clear hm hnf; omega) | omega)) (by (first | (clear hm hnf; omega) | omega))))) (fun A9 i10 j11 f12 g13 => ?_)))
  replace hT := qlc g13 hT
  have f14 := frm_c f0 f12 rfl
  refine And.intro (by (first | (clear hm hnf; omega) | omega)) (fun A15 e16 => ?_)
  replace hT := qlc e16 hT
  have i17 := iva_st i10 e16 trivial
  have j18 := ivf_sa j11 e16 rfl
  have f19 := frm_s f14 e16 rfl
  obtain ⟨v20, e21⟩ : ∃ v, v = A15 34 (fd 4) := ⟨_, rfl⟩
  have q22 : v7 = v20 := (e21.trans ((Eq.trans (congrFun (st_a e16 rfl) _) (frm_f f12 rfl)).trans e8.symm)).symm
  subst q22
  refine And.intro (show A15 34 (fd 4) = ((36 : Nat) : Int) by (first | (clear hm hnf; omega) | omega)) ?_
  refine Exists.intro 113 (Exists.intro 1000 (And.intro rfl (And.intro (And.intro i17 (And.intro j18 (And.intro (by (first | (clear hm hnf; omega) | omega)) (And.intro (by (first | (clear hm hnf; omega) | omega)) (KO_fr p6 f19 rfl))))) (fun A23 i24 j25 f26 r27 g31 g32 g28 g29 g30 => ?_))))
  replace hT := qlpc g29 g30 hT
  clear g29 g30
  have f33 := frm_c f19 f26 rfl
  exact hK _ i24 j25 f33 _ (by (first | (clear hm hnf; omega) | omega)) (by (first | (clear hm hnf; omega) | omega)) (congrArg Prod.fst hT) (congrArg Prod.snd hT)
theorem pC_pointsOf36 {i b : Int} {A : qA} (hA : qokA LC A) (p0 : iva IC A) (p1 : ivf JC A) (p2 : 0 ≤ i) (p3 : i ≤ 60) (p4 : 0 ≤ b) (p5 : b ≤ 7) (p6 : (36 ≤ A 34 (fd 4) ∧ A 34 (fd 4) ≤ 36)) (p7 : KO A) : qokA LC (fC_pointsOf36 i b A).2 ∧ iva IC (fC_pointsOf36 i b A).2 ∧ ivf JC (fC_pointsOf36 i b A).2 ∧ frm [35, 43, 78] [(36, 9), (71, 9)] A (fC_pointsOf36 i b A).2 ∧ (0 ≤ (fC_pointsOf36 i b A).1 ∧ (fC_pointsOf36 i b A).1 ≤ 1000) := by
  obtain ⟨r, B, hB, _, hk⟩ := okM_ex okC_pointsOf36 (as := [rf 34, ni i, ni b]) (K := fun _ B => B = (fC_pointsOf36 i b A).2 ∧ iva IC (fC_pointsOf36 i b A).2 ∧ ivf JC (fC_pointsOf36 i b A).2 ∧ frm [35, 43, 78] [(36, 9), (71, 9)] A (fC_pointsOf36 i b A).2 ∧ (0 ≤ (fC_pointsOf36 i b A).1 ∧ (fC_pointsOf36 i b A).1 ≤ 1000)) hA (qoks_c (show qok (rf _) from trivial) (qoks_c (show rng i from ⟨by (first | (clear hm hnf; omega) | omega), by (first | (clear hm hnf; omega) | omega)⟩) (qoks_c (show rng b from ⟨by (first | (clear hm hnf; omega) | omega), by (first | (clear hm hnf; omega) | omega)⟩) qoks_n))) ⟨i, b, rfl, ⟨p0, p1, p2, p3, p4, p5, p6, p7⟩, fun A9 i9 j9 f9 r9 g8 g9 x0 x1 => (by rw [← x1]; (try rw [← x0]); exact ⟨rfl, i9, j9, f9, ⟨g8, g9⟩⟩)⟩
  exact ⟨hk.1 ▸ hB, hk.2⟩
def fC_pointsOf71 (i b : Int) (A : qA) : Int × qA := qlet (fC_seeFall i A) fun A9 => qlet (qu A9 35 13 b) fun A15 => qlp (fC_answer71 113 1000 A15) fun r27 A23 => (r27, A23)
def sC_pointsOf71 : qS := fun as A K => ∃ i b : Int, as = [rf 34, ni i, ni b] ∧ (iva IC A ∧ ivf JC A ∧ 0 ≤ i ∧ i ≤ 60 ∧ 0 ≤ b ∧ b ≤ 7 ∧ (71 ≤ A 34 (fd 4) ∧ A 34 (fd 4) ≤ 71) ∧ (KO A)) ∧ (∀ A' : qA, iva IC A' → ivf JC A' → frm [35, 43, 78] [(36, 9), (71, 9)] A A' → ∀ r : Int, 0 ≤ r → r ≤ 1000 → (r = (fC_pointsOf71 i b A).1) → (A' = (fC_pointsOf71 i b A).2) → K (some (ni r)) A')
theorem okC_pointsOf71 : okM LC 4 9 sC_pointsOf71 := by
  refine qmeth [(34, 4, 71)] false [(13, sC_seeFall), (76, sC_answer71)] 22 rfl ⟨okC_seeFall.le (by decide), ⟨okC_answer71.le (by decide), trivial⟩⟩ ?_
  rintro _ A K hA has ⟨i, b, rfl, ⟨i0, j0, p1, p2, p3, p4, p5, p6⟩, hK⟩
  have rg_i : rng i := has (ni i) (by simp)
  have rg_b : rng b := has (ni b) (by simp)
  have f0 := frm_0 [35, 43, 78] [(36, 9), (71, 9)] A
  obtain ⟨v7, e8⟩ : ∃ v, v = A 34 (fd 4) := ⟨_, rfl⟩
  rw [← e8] at p5
  have hT : _ = fC_pointsOf71 i b A := (fC_pointsOf71.eq_1 i b A).symm
  refine ⟨Nat.le_of_ble_eq_true rfl, [], trivial, ?_⟩
  refine Exists.intro i (And.intro rfl (And.intro (And.intro i0 (And.intro j0 (And.intro (by (first | (clear hm hnf; omega) | omega)) (by (first | (clear hm hnf; omega) | omega))))) (fun A9 i10 j11 f12 g13 => ?_)))
  replace hT := qlc g13 hT
  have f14 := frm_c f0 f12 rfl
  refine And.intro (by (first | (clear hm hnf; omega) | omega)) (fun A15 e16 => ?_)
  replace hT := qlc e16 hT
  have i17 := iva_st i10 e16 trivial
  have j18 := ivf_sa j11 e16 rfl
  have f19 := frm_s f14 e16 rfl
  obtain ⟨v20, e21⟩ : ∃ v, v = A15 34 (fd 4) := ⟨_, rfl⟩
  have q22 : v7 = v20 := (e21.trans ((Eq.trans (congrFun (st_a e16 rfl) _) (frm_f f12 rfl)).trans e8.symm)).symm
  subst q22
  refine And.intro (show A15 34 (fd 4) = ((71 : Nat) : Int) by (first | (clear hm hnf; omega) | omega)) ?_
  refine Exists.intro 113 (Exists.intro 1000 (And.intro rfl (And.intro (And.intro i17 (And.intro j18 (And.intro (by (first | (clear hm hnf; omega) | omega)) (And.intro (by (first | (clear hm hnf; omega) | omega)) (KO_fr p6 f19 rfl))))) (fun A23 i24 j25 f26 r27 g31 g32 g28 g29 g30 => ?_))))
  replace hT := qlpc g29 g30 hT
  clear g29 g30
  have f33 := frm_c f19 f26 rfl
  exact hK _ i24 j25 f33 _ (by (first | (clear hm hnf; omega) | omega)) (by (first | (clear hm hnf; omega) | omega)) (congrArg Prod.fst hT) (congrArg Prod.snd hT)
theorem pC_pointsOf71 {i b : Int} {A : qA} (hA : qokA LC A) (p0 : iva IC A) (p1 : ivf JC A) (p2 : 0 ≤ i) (p3 : i ≤ 60) (p4 : 0 ≤ b) (p5 : b ≤ 7) (p6 : (71 ≤ A 34 (fd 4) ∧ A 34 (fd 4) ≤ 71)) (p7 : KO A) : qokA LC (fC_pointsOf71 i b A).2 ∧ iva IC (fC_pointsOf71 i b A).2 ∧ ivf JC (fC_pointsOf71 i b A).2 ∧ frm [35, 43, 78] [(36, 9), (71, 9)] A (fC_pointsOf71 i b A).2 ∧ (0 ≤ (fC_pointsOf71 i b A).1 ∧ (fC_pointsOf71 i b A).1 ≤ 1000) := by
  obtain ⟨r, B, hB, _, hk⟩ := okM_ex okC_pointsOf71 (as := [rf 34, ni i, ni b]) (K := fun _ B => B = (fC_pointsOf71 i b A).2 ∧ iva IC (fC_pointsOf71 i b A).2 ∧ ivf JC (fC_pointsOf71 i b A).2 ∧ frm [35, 43, 78] [(36, 9), (71, 9)] A (fC_pointsOf71 i b A).2 ∧ (0 ≤ (fC_pointsOf71 i b A).1 ∧ (fC_pointsOf71 i b A).1 ≤ 1000)) hA (qoks_c (show qok (rf _) from trivial) (qoks_c (show rng i from ⟨by (first | (clear hm hnf; omega) | omega), by (first | (clear hm hnf; omega) | omega)⟩) (qoks_c (show rng b from ⟨by (first | (clear hm hnf; omega) | omega), by (first | (clear hm hnf; omega) | omega)⟩) qoks_n))) ⟨i, b, rfl, ⟨p0, p1, p2, p3, p4, p5, p6, p7⟩, fun A9 i9 j9 f9 r9 g8 g9 x0 x1 => (by rw [← x1]; (try rw [← x0]); exact ⟨rfl, i9, j9, f9, ⟨g8, g9⟩⟩)⟩
  exact ⟨hk.1 ▸ hB, hk.2⟩
def fC_pointsOf (i b : Int) (A : qA) : Int × qA := if A 34 (fd 4) = 36 then fC_pointsOf36 i b A else fC_pointsOf71 i b A
def sC_pointsOf : qS := fun as A K => ∃ i b : Int, as = [rf 34, ni i, ni b] ∧ (iva IC A ∧ ivf JC A ∧ 0 ≤ i ∧ i ≤ 60 ∧ 0 ≤ b ∧ b ≤ 7 ∧ (LW A) ∧ (KO A)) ∧ (∀ A' : qA, iva IC A' → ivf JC A' → frm [35, 43, 78] [(36, 9), (71, 9)] A A' → ∀ r : Int, 0 ≤ r → r ≤ 1000 → (r = (fC_pointsOf i b A).1) → (A' = (fC_pointsOf i b A).2) → K (some (ni r)) A')
theorem okC_pointsOf : okM LC 4 9 sC_pointsOf := by
  refine okM_or (okC_pointsOf36.le (by decide)) (okC_pointsOf71.le (by decide)) ?_
  rintro _ A K ⟨i, b, rfl, ⟨h0, h1, h2, h3, h4, h5, h6, h7⟩, hK⟩
  rcases h6 with q | q
  · exact Or.inl ⟨i, b, rfl, ⟨h0, h1, h2, h3, h4, h5, ⟨by (first | (clear hm hnf; omega) | omega), by (first | (clear hm hnf; omega) | omega)⟩, h7⟩, fun A9 i9 j9 f9 r9 g9 g8 x0 x1 => hK A9 i9 j9 f9 r9 g9 g8 (by rw [fC_pointsOf, if_pos q]; exact x0) (by rw [fC_pointsOf, if_pos q]; exact x1)⟩
  · exact Or.inr ⟨i, b, rfl, ⟨h0, h1, h2, h3, h4, h5, ⟨by (first | (clear hm hnf; omega) | omega), by (first | (clear hm hnf; omega) | omega)⟩, h7⟩, fun A9 i9 j9 f9 r9 g9 g8 x0 x1 => hK A9 i9 j9 f9 r9 g9 g8 (by rw [fC_pointsOf, if_neg (by (first | (clear hm hnf; omega) | omega))]; exact x0) (by rw [fC_pointsOf, if_neg (by (first | (clear hm hnf; omega) | omega))]; exact x1)⟩
theorem pC_pointsOf {i b : Int} {A : qA} (hA : qokA LC A) (p0 : iva IC A) (p1 : ivf JC A) (p2 : 0 ≤ i) (p3 : i ≤ 60) (p4 : 0 ≤ b) (p5 : b ≤ 7) (p6 : LW A) (p7 : KO A) : qokA LC (fC_pointsOf i b A).2 ∧ iva IC (fC_pointsOf i b A).2 ∧ ivf JC (fC_pointsOf i b A).2 ∧ frm [35, 43, 78] [(36, 9), (71, 9)] A (fC_pointsOf i b A).2 ∧ (0 ≤ (fC_pointsOf i b A).1 ∧ (fC_pointsOf i b A).1 ≤ 1000) := by
  obtain ⟨r, B, hB, _, hk⟩ := okM_ex okC_pointsOf (as := [rf 34, ni i, ni b]) (K := fun _ B => B = (fC_pointsOf i b A).2 ∧ iva IC (fC_pointsOf i b A).2 ∧ ivf JC (fC_pointsOf i b A).2 ∧ frm [35, 43, 78] [(36, 9), (71, 9)] A (fC_pointsOf i b A).2 ∧ (0 ≤ (fC_pointsOf i b A).1 ∧ (fC_pointsOf i b A).1 ≤ 1000)) hA (qoks_c (show qok (rf _) from trivial) (qoks_c (show rng i from ⟨by (first | (clear hm hnf; omega) | omega), by (first | (clear hm hnf; omega) | omega)⟩) (qoks_c (show rng b from ⟨by (first | (clear hm hnf; omega) | omega), by (first | (clear hm hnf; omega) | omega)⟩) qoks_n))) ⟨i, b, rfl, ⟨p0, p1, p2, p3, p4, p5, p6, p7⟩, fun A9 i9 j9 f9 r9 g8 g9 x0 x1 => (by rw [← x1]; (try rw [← x0]); exact ⟨rfl, i9, j9, f9, ⟨g8, g9⟩⟩)⟩
  exact ⟨hk.1 ▸ hB, hk.2⟩
def fC_catching36_c13 (rec : Nat → List Int → qA → Int × qA) (l1 f e k : Int) (B : qA) : Int × qA := (if k < e then (if 0 ≤ k ∧ k ≤ 47 ∧ HG B k then qlet (fC_seeCell k B) fun A15 => qlet (fC_seeFallen l1 A15) fun A21 => qlet (k - f) fun v27 => qlet (qu A21 35 12 v27) fun A29 => qlp (fC_answer36 99 1 A29) fun r41 A37 => (if 0 < r41 then qlet (qm k 6) fun v51 => (v51, A37) else qlet (k + 1) fun v49 => rec 13 [l1, f, e, v49] A37) else qlet (k + 1) fun v55 => rec 13 [l1, f, e, v55] B) else (6, B))
def fC_catching36_L : Nat → Nat → List Int → qA → Int × qA
  | 0 => fun _ _ B => (0, B)
  | nF + 1 => fun k zs B => bif Nat.beq k 13 then (match zs with | [l1, f, e, k] => fC_catching36_c13 (fC_catching36_L nF) l1 f e k B | _ => (0, B)) else (0, B)
theorem fC_catching36_L13 (nF : Nat) (l1 f e k : Int) (B : qA) : fC_catching36_L (nF + 1) 13 [l1, f, e, k] B = fC_catching36_c13 (fC_catching36_L nF) l1 f e k B := (congrFun (congrFun (congrFun (fC_catching36_L.eq_2 nF) 13) [l1, f, e, k]) B).trans (qL1 rfl rfl)
def fC_catching36 (i : Int) (A : qA) : Int × qA := qlet (A 25 i) fun v7 => qlet (v7 + 1) fun v10 => (fC_catching36_L 100000) 13 [i, v7, ((v7 - v7 % 6 + 6)), v10] A
def sC_catching36 : qS := fun as A K => ∃ i : Int, as = [rf 34, ni i] ∧ (iva IC A ∧ ivf JC A ∧ 0 ≤ i ∧ i ≤ 60 ∧ (36 ≤ A 34 (fd 4) ∧ A 34 (fd 4) ≤ 36) ∧ (KO A)) ∧ (∀ A' : qA, iva IC A' → ivf JC A' → frm [35, 43, 78] [(36, 9), (71, 9)] A A' → ∀ r : Int, 0 ≤ r → r ≤ 6 → (r = (fC_catching36 i A).1) → (A' = (fC_catching36 i A).2) → K (some (ni r)) A')
theorem okC_catching36 : okM LC 4 7 sC_catching36 := by
  refine qmeth [(34, 4, 36)] false [(20, sC_endOfColumn), (21, sC_hangs), (10, sC_seeCell), (12, sC_seeFallen), (76, sC_answer36)] 56 rfl ⟨okC_endOfColumn.le (by decide), ⟨okC_hangs.le (by decide), ⟨okC_seeCell.le (by decide), ⟨okC_seeFallen.le (by decide), ⟨okC_answer36.le (by decide), trivial⟩⟩⟩⟩⟩ ?_
  rintro _ A K hA has ⟨i, rfl, ⟨i0, j0, p1, p2, p3, p4⟩, hK⟩
  have rg_i : rng i := has (ni i) (by simp)
  have f0 := frm_0 [35, 43, 78] [(36, 9), (71, 9)] A
  obtain ⟨v5, e6⟩ : ∃ v, v = A 34 (fd 4) := ⟨_, rfl⟩
  rw [← e6] at p3
  have hT : _ = fC_catching36 i A := (fC_catching36.eq_1 i A).symm
  refine ⟨Nat.le_of_ble_eq_true rfl, [(13, [(0, 2, 34), (1, 0, 0), (2, 0, 0), (3, 0, 0), (4, 0, 0)], fun zs B nn => match zs with | [l1, f, e, k] => iva IC B ∧ ivf JC B ∧ frm [35, 43, 78] [(36, 9), (71, 9)] A B ∧ nn = (48 - k : Int).toNat ∧ (l1 = i) ∧ (0 ≤ f) ∧ (f ≤ 47) ∧ (e = f - f % 6 + 6) ∧ (f + 1 ≤ k) ∧ (k ≤ 48) ∧ (∃ nf : Nat, nn < nf ∧ fC_catching36_L nf 13 [l1, f, e, k] B = fC_catching36 i A) | _ => False)], ?_, ?_⟩
  · refine ⟨⟨rfl, ?_⟩, trivial⟩
    · refine fun l1 f e k B mm hB hz hI => ?_
      obtain ⟨i1, j1, f1, hm, c0, c1, c2, c3, c4, c5, ⟨nf, hnf, hT⟩⟩ := hI
      obtain ⟨hz_l1, hz_f, hz_e, hz_k, _⟩ := hz
      obtain ⟨ng, rfl⟩ : ∃ k, nf = k + 1 := ⟨nf - 1, by omega⟩
      replace hT := (fC_catching36_c13.eq_1 (fC_catching36_L ng) l1 f e k B).symm.trans ((fC_catching36_L13 ng l1 f e k B).symm.trans hT)
      refine And.intro (fun h12 => ?_) (fun h12 => ?_)
      · replace hT := (if_neg (Int.not_lt.mpr h12)).symm.trans hT
        exact hK _ i1 j1 f1 _ (by (first | (clear hm hnf; omega) | omega)) (by (first | (clear hm hnf; omega) | omega)) (congrArg Prod.fst hT) (congrArg Prod.snd hT)
      · replace hT := (if_pos h12).symm.trans hT
        refine Exists.intro k (And.intro rfl (And.intro (fun h13 => ?_) (fun h13 => ?_)))
        · replace hT := (if_pos h13).symm.trans hT
          refine And.intro (fun h14 => by exfalso; omega) (fun h14 => ?_)
          refine Exists.intro k (And.intro rfl (And.intro (And.intro i1 (And.intro j1 (And.intro (by (first | (clear hm hnf; omega) | omega)) (by (first | (clear hm hnf; omega) | omega))))) (fun A15 i16 j17 f18 g19 => ?_)))
          replace hT := qlc g19 hT
          have f20 := frm_c f1 f18 rfl
          refine Exists.intro l1 (And.intro rfl (And.intro (And.intro i16 (And.intro j17 (And.intro (by (first | (clear hm hnf; omega) | omega)) (by (first | (clear hm hnf; omega) | omega))))) (fun A21 i22 j23 f24 g25 => ?_)))
          replace hT := qlc g25 hT
          have f26 := frm_c f20 f24 rfl
          refine fun v27 e28 => ?_
          replace hT := qlc e28 hT
          refine And.intro (by (first | (clear hm hnf; omega) | omega)) (And.intro (by (first | (clear hm hnf; omega) | omega)) (fun A29 e30 => ?_))
          replace hT := qlc e30 hT
          have i31 := iva_st i22 e30 trivial
          have j32 := ivf_sa j23 e30 rfl
          have f33 := frm_s f26 e30 rfl
          obtain ⟨v34, e35⟩ : ∃ v, v = A29 34 (fd 4) := ⟨_, rfl⟩
          have q36 : v5 = v34 := (e35.trans ((Eq.trans (Eq.trans (Eq.trans (congrFun (st_a e30 rfl) _) (frm_f f24 rfl)) (frm_f f18 rfl)) (frm_f f1 rfl)).trans e6.symm)).symm
          subst q36
          refine And.intro (show A29 34 (fd 4) = ((36 : Nat) : Int) by (first | (clear hm hnf; omega) | omega)) ?_
          refine Exists.intro 99 (Exists.intro 1 (And.intro rfl (And.intro (And.intro i31 (And.intro j32 (And.intro (by (first | (clear hm hnf; omega) | omega)) (And.intro (by (first | (clear hm hnf; omega) | omega)) (KO_fr p4 f33 rfl))))) (fun A37 i38 j39 f40 r41 g45 g46 g42 g43 g44 => ?_))))
          replace hT := qlpc g43 g44 hT
          clear g43 g44
          have f47 := frm_c f33 f40 rfl
          refine And.intro (fun h48 => ?_) (fun h48 => ?_)
          · replace hT := (if_neg (Int.not_lt.mpr h48)).symm.trans hT
            refine fun v49 e50 => ?_
            replace hT := qlc e50 hT
            exact And.intro (by (first | (clear hm hnf; omega) | omega)) (Exists.intro (48 - v49 : Int).toNat (And.intro (by first | exact qtn hm (by (try clear hm hnf); omega) | omega) (And.intro i38 (And.intro j39 (And.intro f47 (And.intro rfl (And.intro (by (first | (clear hm hnf; omega) | omega)) (And.intro (by (first | (clear hm hnf; omega) | omega)) (And.intro (by (first | (clear hm hnf; omega) | omega)) (And.intro (by (first | (clear hm hnf; omega) | omega)) (And.intro (by (first | (clear hm hnf; omega) | omega)) (And.intro (by (first | (clear hm hnf; omega) | omega)) (Exists.intro ng (And.intro (by first | exact qtm hm hnf (by (try clear hm hnf); omega) | omega) hT))))))))))))))
          · replace hT := (if_pos h48).symm.trans hT
            refine And.intro (by (first | (clear hm hnf; omega) | omega)) (fun v51 e52 => ?_)
            replace hT := qlc e52 hT
            have h53 := qm_nn (a := k) (b := 6) (by (first | (clear hm hnf; omega) | omega))
            exact hK _ i38 j39 f47 _ (by (first | (clear hm hnf; omega) | omega)) (by (first | (clear hm hnf; omega) | omega)) (congrArg Prod.fst hT) (congrArg Prod.snd hT)
        · replace hT := (if_neg h13).symm.trans hT
          refine And.intro (fun h54 => ?_) (fun h54 => by exfalso; omega)
          refine fun v55 e56 => ?_
          replace hT := qlc e56 hT
          exact And.intro (by (first | (clear hm hnf; omega) | omega)) (Exists.intro (48 - v55 : Int).toNat (And.intro (by first | exact qtn hm (by (try clear hm hnf); omega) | omega) (And.intro i1 (And.intro j1 (And.intro f1 (And.intro rfl (And.intro (by (first | (clear hm hnf; omega) | omega)) (And.intro (by (first | (clear hm hnf; omega) | omega)) (And.intro (by (first | (clear hm hnf; omega) | omega)) (And.intro (by (first | (clear hm hnf; omega) | omega)) (And.intro (by (first | (clear hm hnf; omega) | omega)) (And.intro (by (first | (clear hm hnf; omega) | omega)) (Exists.intro ng (And.intro (by first | exact qtm hm hnf (by (try clear hm hnf); omega) | omega) hT))))))))))))))
  · refine And.intro (by (first | (clear hm hnf; omega) | omega)) (fun v7 gv7 e8 => ?_)
    replace hT := qlc e8 hT
    have b9 := iva_at i0 17 rfl (i := i) (by (first | (clear hm hnf; omega) | omega)) (by (first | (clear hm hnf; omega) | omega))
    refine Exists.intro v7 (And.intro rfl (And.intro (And.intro (by (first | (clear hm hnf; omega) | omega)) (by (first | (clear hm hnf; omega) | omega))) ?_))
    refine fun v10 e11 => ?_
    replace hT := qlc e11 hT
    exact And.intro (by (first | (clear hm hnf; omega) | omega)) (Exists.intro (48 - v10 : Int).toNat (And.intro i0 (And.intro j0 (And.intro f0 (And.intro rfl (And.intro (by (first | (clear hm hnf; omega) | omega)) (And.intro (by (first | (clear hm hnf; omega) | omega)) (And.intro (by (first | (clear hm hnf; omega) | omega)) (And.intro (by (first | (clear hm hnf; omega) | omega)) (And.intro (by (first | (clear hm hnf; omega) | omega)) (And.intro (by (first | (clear hm hnf; omega) | omega)) (Exists.intro 100000 (And.intro (by (first | (clear hm hnf; omega) | omega)) hT)))))))))))))
theorem pC_catching36 {i : Int} {A : qA} (hA : qokA LC A) (p0 : iva IC A) (p1 : ivf JC A) (p2 : 0 ≤ i) (p3 : i ≤ 60) (p4 : (36 ≤ A 34 (fd 4) ∧ A 34 (fd 4) ≤ 36)) (p5 : KO A) : qokA LC (fC_catching36 i A).2 ∧ iva IC (fC_catching36 i A).2 ∧ ivf JC (fC_catching36 i A).2 ∧ frm [35, 43, 78] [(36, 9), (71, 9)] A (fC_catching36 i A).2 ∧ (0 ≤ (fC_catching36 i A).1 ∧ (fC_catching36 i A).1 ≤ 6) := by
  obtain ⟨r, B, hB, _, hk⟩ := okM_ex okC_catching36 (as := [rf 34, ni i]) (K := fun _ B => B = (fC_catching36 i A).2 ∧ iva IC (fC_catching36 i A).2 ∧ ivf JC (fC_catching36 i A).2 ∧ frm [35, 43, 78] [(36, 9), (71, 9)] A (fC_catching36 i A).2 ∧ (0 ≤ (fC_catching36 i A).1 ∧ (fC_catching36 i A).1 ≤ 6)) hA (qoks_c (show qok (rf _) from trivial) (qoks_c (show rng i from ⟨by (first | (clear hm hnf; omega) | omega), by (first | (clear hm hnf; omega) | omega)⟩) qoks_n)) ⟨i, rfl, ⟨p0, p1, p2, p3, p4, p5⟩, fun A9 i9 j9 f9 r9 g8 g9 x0 x1 => (by rw [← x1]; (try rw [← x0]); exact ⟨rfl, i9, j9, f9, ⟨g8, g9⟩⟩)⟩
  exact ⟨hk.1 ▸ hB, hk.2⟩
def fC_catching71_c13 (rec : Nat → List Int → qA → Int × qA) (l1 f e k : Int) (B : qA) : Int × qA := (if k < e then (if 0 ≤ k ∧ k ≤ 47 ∧ HG B k then qlet (fC_seeCell k B) fun A15 => qlet (fC_seeFallen l1 A15) fun A21 => qlet (k - f) fun v27 => qlet (qu A21 35 12 v27) fun A29 => qlp (fC_answer71 99 1 A29) fun r41 A37 => (if 0 < r41 then qlet (qm k 6) fun v51 => (v51, A37) else qlet (k + 1) fun v49 => rec 13 [l1, f, e, v49] A37) else qlet (k + 1) fun v55 => rec 13 [l1, f, e, v55] B) else (6, B))
def fC_catching71_L : Nat → Nat → List Int → qA → Int × qA
  | 0 => fun _ _ B => (0, B)
  | nF + 1 => fun k zs B => bif Nat.beq k 13 then (match zs with | [l1, f, e, k] => fC_catching71_c13 (fC_catching71_L nF) l1 f e k B | _ => (0, B)) else (0, B)
theorem fC_catching71_L13 (nF : Nat) (l1 f e k : Int) (B : qA) : fC_catching71_L (nF + 1) 13 [l1, f, e, k] B = fC_catching71_c13 (fC_catching71_L nF) l1 f e k B := (congrFun (congrFun (congrFun (fC_catching71_L.eq_2 nF) 13) [l1, f, e, k]) B).trans (qL1 rfl rfl)
def fC_catching71 (i : Int) (A : qA) : Int × qA := qlet (A 25 i) fun v7 => qlet (v7 + 1) fun v10 => (fC_catching71_L 100000) 13 [i, v7, ((v7 - v7 % 6 + 6)), v10] A
def sC_catching71 : qS := fun as A K => ∃ i : Int, as = [rf 34, ni i] ∧ (iva IC A ∧ ivf JC A ∧ 0 ≤ i ∧ i ≤ 60 ∧ (71 ≤ A 34 (fd 4) ∧ A 34 (fd 4) ≤ 71) ∧ (KO A)) ∧ (∀ A' : qA, iva IC A' → ivf JC A' → frm [35, 43, 78] [(36, 9), (71, 9)] A A' → ∀ r : Int, 0 ≤ r → r ≤ 6 → (r = (fC_catching71 i A).1) → (A' = (fC_catching71 i A).2) → K (some (ni r)) A')
theorem okC_catching71 : okM LC 4 7 sC_catching71 := by
  refine qmeth [(34, 4, 71)] false [(20, sC_endOfColumn), (21, sC_hangs), (10, sC_seeCell), (12, sC_seeFallen), (76, sC_answer71)] 56 rfl ⟨okC_endOfColumn.le (by decide), ⟨okC_hangs.le (by decide), ⟨okC_seeCell.le (by decide), ⟨okC_seeFallen.le (by decide), ⟨okC_answer71.le (by decide), trivial⟩⟩⟩⟩⟩ ?_
  rintro _ A K hA has ⟨i, rfl, ⟨i0, j0, p1, p2, p3, p4⟩, hK⟩
  have rg_i : rng i := has (ni i) (by simp)
  have f0 := frm_0 [35, 43, 78] [(36, 9), (71, 9)] A
  obtain ⟨v5, e6⟩ : ∃ v, v = A 34 (fd 4) := ⟨_, rfl⟩
  rw [← e6] at p3
  have hT : _ = fC_catching71 i A := (fC_catching71.eq_1 i A).symm
  refine ⟨Nat.le_of_ble_eq_true rfl, [(13, [(0, 2, 34), (1, 0, 0), (2, 0, 0), (3, 0, 0), (4, 0, 0)], fun zs B nn => match zs with | [l1, f, e, k] => iva IC B ∧ ivf JC B ∧ frm [35, 43, 78] [(36, 9), (71, 9)] A B ∧ nn = (48 - k : Int).toNat ∧ (l1 = i) ∧ (0 ≤ f) ∧ (f ≤ 47) ∧ (e = f - f % 6 + 6) ∧ (f + 1 ≤ k) ∧ (k ≤ 48) ∧ (∃ nf : Nat, nn < nf ∧ fC_catching71_L nf 13 [l1, f, e, k] B = fC_catching71 i A) | _ => False)], ?_, ?_⟩
  · refine ⟨⟨rfl, ?_⟩, trivial⟩
    · refine fun l1 f e k B mm hB hz hI => ?_
      obtain ⟨i1, j1, f1, hm, c0, c1, c2, c3, c4, c5, ⟨nf, hnf, hT⟩⟩ := hI
      obtain ⟨hz_l1, hz_f, hz_e, hz_k, _⟩ := hz
      obtain ⟨ng, rfl⟩ : ∃ k, nf = k + 1 := ⟨nf - 1, by omega⟩
      replace hT := (fC_catching71_c13.eq_1 (fC_catching71_L ng) l1 f e k B).symm.trans ((fC_catching71_L13 ng l1 f e k B).symm.trans hT)
      refine And.intro (fun h12 => ?_) (fun h12 => ?_)
      · replace hT := (if_neg (Int.not_lt.mpr h12)).symm.trans hT
        exact hK _ i1 j1 f1 _ (by (first | (clear hm hnf; omega) | omega)) (by (first | (clear hm hnf; omega) | omega)) (congrArg Prod.fst hT) (congrArg Prod.snd hT)
      · replace hT := (if_pos h12).symm.trans hT
        refine Exists.intro k (And.intro rfl (And.intro (fun h13 => ?_) (fun h13 => ?_)))
        · replace hT := (if_pos h13).symm.trans hT
          refine And.intro (fun h14 => by exfalso; omega) (fun h14 => ?_)
          refine Exists.intro k (And.intro rfl (And.intro (And.intro i1 (And.intro j1 (And.intro (by (first | (clear hm hnf; omega) | omega)) (by (first | (clear hm hnf; omega) | omega))))) (fun A15 i16 j17 f18 g19 => ?_)))
          replace hT := qlc g19 hT
          have f20 := frm_c f1 f18 rfl
          refine Exists.intro l1 (And.intro rfl (And.intro (And.intro i16 (And.intro j17 (And.intro (by (first | (clear hm hnf; omega) | omega)) (by (first | (clear hm hnf; omega) | omega))))) (fun A21 i22 j23 f24 g25 => ?_)))
          replace hT := qlc g25 hT
          have f26 := frm_c f20 f24 rfl
          refine fun v27 e28 => ?_
          replace hT := qlc e28 hT
          refine And.intro (by (first | (clear hm hnf; omega) | omega)) (And.intro (by (first | (clear hm hnf; omega) | omega)) (fun A29 e30 => ?_))
          replace hT := qlc e30 hT
          have i31 := iva_st i22 e30 trivial
          have j32 := ivf_sa j23 e30 rfl
          have f33 := frm_s f26 e30 rfl
          obtain ⟨v34, e35⟩ : ∃ v, v = A29 34 (fd 4) := ⟨_, rfl⟩
          have q36 : v5 = v34 := (e35.trans ((Eq.trans (Eq.trans (Eq.trans (congrFun (st_a e30 rfl) _) (frm_f f24 rfl)) (frm_f f18 rfl)) (frm_f f1 rfl)).trans e6.symm)).symm
          subst q36
          refine And.intro (show A29 34 (fd 4) = ((71 : Nat) : Int) by (first | (clear hm hnf; omega) | omega)) ?_
          refine Exists.intro 99 (Exists.intro 1 (And.intro rfl (And.intro (And.intro i31 (And.intro j32 (And.intro (by (first | (clear hm hnf; omega) | omega)) (And.intro (by (first | (clear hm hnf; omega) | omega)) (KO_fr p4 f33 rfl))))) (fun A37 i38 j39 f40 r41 g45 g46 g42 g43 g44 => ?_))))
          replace hT := qlpc g43 g44 hT
          clear g43 g44
          have f47 := frm_c f33 f40 rfl
          refine And.intro (fun h48 => ?_) (fun h48 => ?_)
          · replace hT := (if_neg (Int.not_lt.mpr h48)).symm.trans hT
            refine fun v49 e50 => ?_
            replace hT := qlc e50 hT
            exact And.intro (by (first | (clear hm hnf; omega) | omega)) (Exists.intro (48 - v49 : Int).toNat (And.intro (by first | exact qtn hm (by (try clear hm hnf); omega) | omega) (And.intro i38 (And.intro j39 (And.intro f47 (And.intro rfl (And.intro (by (first | (clear hm hnf; omega) | omega)) (And.intro (by (first | (clear hm hnf; omega) | omega)) (And.intro (by (first | (clear hm hnf; omega) | omega)) (And.intro (by (first | (clear hm hnf; omega) | omega)) (And.intro (by (first | (clear hm hnf; omega) | omega)) (And.intro (by (first | (clear hm hnf; omega) | omega)) (Exists.intro ng (And.intro (by first | exact qtm hm hnf (by (try clear hm hnf); omega) | omega) hT))))))))))))))
          · replace hT := (if_pos h48).symm.trans hT
            refine And.intro (by (first | (clear hm hnf; omega) | omega)) (fun v51 e52 => ?_)
            replace hT := qlc e52 hT
            have h53 := qm_nn (a := k) (b := 6) (by (first | (clear hm hnf; omega) | omega))
            exact hK _ i38 j39 f47 _ (by (first | (clear hm hnf; omega) | omega)) (by (first | (clear hm hnf; omega) | omega)) (congrArg Prod.fst hT) (congrArg Prod.snd hT)
        · replace hT := (if_neg h13).symm.trans hT
          refine And.intro (fun h54 => ?_) (fun h54 => by exfalso; omega)
          refine fun v55 e56 => ?_
          replace hT := qlc e56 hT
          exact And.intro (by (first | (clear hm hnf; omega) | omega)) (Exists.intro (48 - v55 : Int).toNat (And.intro (by first | exact qtn hm (by (try clear hm hnf); omega) | omega) (And.intro i1 (And.intro j1 (And.intro f1 (And.intro rfl (And.intro (by (first | (clear hm hnf; omega) | omega)) (And.intro (by (first | (clear hm hnf; omega) | omega)) (And.intro (by (first | (clear hm hnf; omega) | omega)) (And.intro (by (first | (clear hm hnf; omega) | omega)) (And.intro (by (first | (clear hm hnf; omega) | omega)) (And.intro (by (first | (clear hm hnf; omega) | omega)) (Exists.intro ng (And.intro (by first | exact qtm hm hnf (by (try clear hm hnf); omega) | omega) hT))))))))))))))
  · refine And.intro (by (first | (clear hm hnf; omega) | omega)) (fun v7 gv7 e8 => ?_)
    replace hT := qlc e8 hT
    have b9 := iva_at i0 17 rfl (i := i) (by (first | (clear hm hnf; omega) | omega)) (by (first | (clear hm hnf; omega) | omega))
    refine Exists.intro v7 (And.intro rfl (And.intro (And.intro (by (first | (clear hm hnf; omega) | omega)) (by (first | (clear hm hnf; omega) | omega))) ?_))
    refine fun v10 e11 => ?_
    replace hT := qlc e11 hT
    exact And.intro (by (first | (clear hm hnf; omega) | omega)) (Exists.intro (48 - v10 : Int).toNat (And.intro i0 (And.intro j0 (And.intro f0 (And.intro rfl (And.intro (by (first | (clear hm hnf; omega) | omega)) (And.intro (by (first | (clear hm hnf; omega) | omega)) (And.intro (by (first | (clear hm hnf; omega) | omega)) (And.intro (by (first | (clear hm hnf; omega) | omega)) (And.intro (by (first | (clear hm hnf; omega) | omega)) (And.intro (by (first | (clear hm hnf; omega) | omega)) (Exists.intro 100000 (And.intro (by (first | (clear hm hnf; omega) | omega)) hT)))))))))))))
theorem pC_catching71 {i : Int} {A : qA} (hA : qokA LC A) (p0 : iva IC A) (p1 : ivf JC A) (p2 : 0 ≤ i) (p3 : i ≤ 60) (p4 : (71 ≤ A 34 (fd 4) ∧ A 34 (fd 4) ≤ 71)) (p5 : KO A) : qokA LC (fC_catching71 i A).2 ∧ iva IC (fC_catching71 i A).2 ∧ ivf JC (fC_catching71 i A).2 ∧ frm [35, 43, 78] [(36, 9), (71, 9)] A (fC_catching71 i A).2 ∧ (0 ≤ (fC_catching71 i A).1 ∧ (fC_catching71 i A).1 ≤ 6) := by
  obtain ⟨r, B, hB, _, hk⟩ := okM_ex okC_catching71 (as := [rf 34, ni i]) (K := fun _ B => B = (fC_catching71 i A).2 ∧ iva IC (fC_catching71 i A).2 ∧ ivf JC (fC_catching71 i A).2 ∧ frm [35, 43, 78] [(36, 9), (71, 9)] A (fC_catching71 i A).2 ∧ (0 ≤ (fC_catching71 i A).1 ∧ (fC_catching71 i A).1 ≤ 6)) hA (qoks_c (show qok (rf _) from trivial) (qoks_c (show rng i from ⟨by (first | (clear hm hnf; omega) | omega), by (first | (clear hm hnf; omega) | omega)⟩) qoks_n)) ⟨i, rfl, ⟨p0, p1, p2, p3, p4, p5⟩, fun A9 i9 j9 f9 r9 g8 g9 x0 x1 => (by rw [← x1]; (try rw [← x0]); exact ⟨rfl, i9, j9, f9, ⟨g8, g9⟩⟩)⟩
  exact ⟨hk.1 ▸ hB, hk.2⟩
def fC_catching (i : Int) (A : qA) : Int × qA := if A 34 (fd 4) = 36 then fC_catching36 i A else fC_catching71 i A
def sC_catching : qS := fun as A K => ∃ i : Int, as = [rf 34, ni i] ∧ (iva IC A ∧ ivf JC A ∧ 0 ≤ i ∧ i ≤ 60 ∧ (LW A) ∧ (KO A)) ∧ (∀ A' : qA, iva IC A' → ivf JC A' → frm [35, 43, 78] [(36, 9), (71, 9)] A A' → ∀ r : Int, 0 ≤ r → r ≤ 6 → (r = (fC_catching i A).1) → (A' = (fC_catching i A).2) → K (some (ni r)) A')
theorem okC_catching : okM LC 4 7 sC_catching := by
  refine okM_or (okC_catching36.le (by decide)) (okC_catching71.le (by decide)) ?_
  rintro _ A K ⟨i, rfl, ⟨h0, h1, h2, h3, h4, h5⟩, hK⟩
  rcases h4 with q | q
  · exact Or.inl ⟨i, rfl, ⟨h0, h1, h2, h3, ⟨by (first | (clear hm hnf; omega) | omega), by (first | (clear hm hnf; omega) | omega)⟩, h5⟩, fun A9 i9 j9 f9 r9 g9 g8 x0 x1 => hK A9 i9 j9 f9 r9 g9 g8 (by rw [fC_catching, if_pos q]; exact x0) (by rw [fC_catching, if_pos q]; exact x1)⟩
  · exact Or.inr ⟨i, rfl, ⟨h0, h1, h2, h3, ⟨by (first | (clear hm hnf; omega) | omega), by (first | (clear hm hnf; omega) | omega)⟩, h5⟩, fun A9 i9 j9 f9 r9 g9 g8 x0 x1 => hK A9 i9 j9 f9 r9 g9 g8 (by rw [fC_catching, if_neg (by (first | (clear hm hnf; omega) | omega))]; exact x0) (by rw [fC_catching, if_neg (by (first | (clear hm hnf; omega) | omega))]; exact x1)⟩
theorem pC_catching {i : Int} {A : qA} (hA : qokA LC A) (p0 : iva IC A) (p1 : ivf JC A) (p2 : 0 ≤ i) (p3 : i ≤ 60) (p4 : LW A) (p5 : KO A) : qokA LC (fC_catching i A).2 ∧ iva IC (fC_catching i A).2 ∧ ivf JC (fC_catching i A).2 ∧ frm [35, 43, 78] [(36, 9), (71, 9)] A (fC_catching i A).2 ∧ (0 ≤ (fC_catching i A).1 ∧ (fC_catching i A).1 ≤ 6) := by
  obtain ⟨r, B, hB, _, hk⟩ := okM_ex okC_catching (as := [rf 34, ni i]) (K := fun _ B => B = (fC_catching i A).2 ∧ iva IC (fC_catching i A).2 ∧ ivf JC (fC_catching i A).2 ∧ frm [35, 43, 78] [(36, 9), (71, 9)] A (fC_catching i A).2 ∧ (0 ≤ (fC_catching i A).1 ∧ (fC_catching i A).1 ≤ 6)) hA (qoks_c (show qok (rf _) from trivial) (qoks_c (show rng i from ⟨by (first | (clear hm hnf; omega) | omega), by (first | (clear hm hnf; omega) | omega)⟩) qoks_n)) ⟨i, rfl, ⟨p0, p1, p2, p3, p4, p5⟩, fun A9 i9 j9 f9 r9 g8 g9 x0 x1 => (by rw [← x1]; (try rw [← x0]); exact ⟨rfl, i9, j9, f9, ⟨g8, g9⟩⟩)⟩
  exact ⟨hk.1 ▸ hB, hk.2⟩
