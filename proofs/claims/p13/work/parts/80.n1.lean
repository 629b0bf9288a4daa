def fM_notes (o v : Int) (A : qA) : qA := qlet (A 0 (fd 31)) fun v6 => qlet ((qn 1048576) * o) fun v10 => qlet (v10 + v) fun v12 => qlet (qu A 23 v6 v12) fun A14 => qlet (A14 0 (fd 31)) fun v23 => qlet (v6 + 1) fun v27 => qlet (qu A14 0 (fd 31) v27) fun A29 => A29
def sM_notes : qS := fun as A K => ∃ o v : Int, as = [rf 0, ni o, ni v] ∧ (iva IM A ∧ ivf JM A ∧ 0 ≤ o ∧ o ≤ 12 ∧ 0 ≤ v ∧ v ≤ 99999 ∧ (A 0 (fd 31) ≤ 219)) ∧ (∀ A' : qA, iva IM A' → ivf JM A' → frm [23] [(0, 31)] A A' → (A' 23 = (fun i => if i = A 0 (fd 31) then 1048576 * o + v else A 23 i)) → (A' 0 (fd 31) = A 0 (fd 31) + 1) → (A' = fM_notes o v A) → K none A')
theorem okM_notes : okM LM 1 167 sM_notes := by
  refine qmeth [] false [] 23 rfl trivial ?_
  rintro _ A K hA has ⟨o, v, rfl, ⟨i0, j0, p1, p2, p3, p4, p5⟩, hK⟩
  have rg_o : rng o := has (ni o) (by simp)
  have rg_v : rng v := has (ni v) (by simp)
  have f0 := frm_0 [23] [(0, 31)] A
  have hb_0_27 := ivf_at j0 6 rfl
  have hb_0_28 := ivf_at j0 7 rfl
  have hb_0_31 := ivf_at j0 8 rfl
  have hb_0_32 := ivf_at j0 9 rfl
  have hT : _ = fM_notes o v A := (fM_notes.eq_1 o v A).symm
  refine ⟨Nat.le_of_ble_eq_true rfl, [], trivial, ?_⟩
  refine fun v6 gv6 e7 => ?_
  replace hT := qlc e7 hT
  have b8 := ivf_at j0 8 rfl
  have k9 : qn 1048576 = 1048576 := by decide
  refine fun v10 e11 => ?_
  replace hT := qlc e11 hT
  rw [show qn 1048576 = 1048576 by decide] at e11
  refine fun v12 e13 => ?_
  replace hT := qlc e13 hT
  refine dqA2 (by (first | (clear hm hnf; omega) | omega)) (fun A14 e15 => ?_)
  replace hT := qlc e15 hT
  have i16 := iva_st i0 e15 (And.intro (by (first | (clear hm hnf; omega) | omega)) trivial)
  have j17 := ivf_sa j0 e15 rfl
  have f18 := frm_s f0 e15 rfl
  have t19 : A14 0 (fd 27) = A 0 (fd 27) := (congrFun (st_a e15 rfl) _)
  have t20 : A14 0 (fd 28) = A 0 (fd 28) := (congrFun (st_a e15 rfl) _)
  have t21 : A14 0 (fd 31) = A 0 (fd 31) := (congrFun (st_a e15 rfl) _)
  have t22 : A14 0 (fd 32) = A 0 (fd 32) := (congrFun (st_a e15 rfl) _)
  refine fun v23 gv23 e24 => ?_
  replace hT := qlc e24 hT
  have b25 := ivf_at j17 8 rfl
  have q26 : v6 = v23 := (e24.trans ((congrFun (st_a e15 rfl) _).trans e7.symm)).symm
  subst q26
  refine fun v27 e28 => ?_
  replace hT := qlc e28 hT
  refine And.intro (by (first | (clear hm hnf; omega) | omega)) (fun A29 e30 => ?_)
  replace hT := qlc e30 hT
  have i31 := iva_sf i16 e30 rfl
  have j32 := ivf_st j17 e30 (And.intro (by (first | (clear hm hnf; omega) | omega)) trivial)
  have f33 := frm_sf f18 e30 rfl
  have t34 : A29 0 (fd 27) = A14 0 (fd 27) := (st_f e30 rfl)
  have t35 : A29 0 (fd 28) = A14 0 (fd 28) := (st_f e30 rfl)
  have t36 := st_v e30
  have t37 : A29 0 (fd 32) = A14 0 (fd 32) := (st_f e30 rfl)
  exact hK _ i31 j32 f33 (up2 (Eq.trans (st_a e30 rfl) (st_u e15)) (by (first | (clear hm hnf; omega) | omega)) (by (first | (clear hm hnf; omega) | omega))) (by first | assumption | omega | simp_all) hT
theorem pM_notes {o v : Int} {A : qA} (hA : qokA LM A) (p0 : iva IM A) (p1 : ivf JM A) (p2 : 0 ≤ o) (p3 : o ≤ 12) (p4 : 0 ≤ v) (p5 : v ≤ 99999) (p6 : A 0 (fd 31) ≤ 219) : qokA LM (fM_notes o v A) ∧ iva IM (fM_notes o v A) ∧ ivf JM (fM_notes o v A) ∧ frm [23] [(0, 31)] A (fM_notes o v A) ∧ ((fM_notes o v A) 23 = (fun i => if i = A 0 (fd 31) then 1048576 * o + v else A 23 i)) ∧ ((fM_notes o v A) 0 (fd 31) = A 0 (fd 31) + 1) := by
  obtain ⟨r, B, hB, _, hk⟩ := okM_ex okM_notes (as := [rf 0, ni o, ni v]) (K := fun _ B => B = (fM_notes o v A) ∧ iva IM (fM_notes o v A) ∧ ivf JM (fM_notes o v A) ∧ frm [23] [(0, 31)] A (fM_notes o v A) ∧ ((fM_notes o v A) 23 = (fun i => if i = A 0 (fd 31) then 1048576 * o + v else A 23 i)) ∧ ((fM_notes o v A) 0 (fd 31) = A 0 (fd 31) + 1)) hA (qoks_c (show qok (rf _) from trivial) (qoks_c (show rng o from ⟨by (first | (clear hm hnf; omega) | omega), by (first | (clear hm hnf; omega) | omega)⟩) (qoks_c (show rng v from ⟨by (first | (clear hm hnf; omega) | omega), by (first | (clear hm hnf; omega) | omega)⟩) qoks_n))) ⟨o, v, rfl, ⟨p0, p1, p2, p3, p4, p5, p6⟩, fun A9 i9 j9 f9 x0 x1 x2 => (by rw [← x2]; exact ⟨rfl, i9, j9, f9, x0, x1⟩)⟩
  exact ⟨hk.1 ▸ hB, hk.2⟩
def fM_opens (w : Int) (A : qA) : Int × qA := qlet (A 0 (fd 30)) fun v5 => (if v5 = 6 then qlet (A 0 (fd 27)) fun v73 => qlet (fM_wrongAt 5 v73 A) fun A76 => (0, A76) else qlet (A 0 (fd 30)) fun v8 => qlet (v5 + 1) fun v11 => qlet (qu A 0 (fd 30) (wI v11)) fun A13 => qlet (A13 0 (fd 32)) fun v23 => qlet ((qn 1048576) * w) fun v27 => qlet (qu A13 24 v23 (wI v27)) fun A29 => qlet (A29 0 (fd 32)) fun v40 => qlet (v23 + 1) fun v44 => qlet (qu A29 0 (fd 32) (wI v44)) fun A46 => qlet (A46 0 (fd 27)) fun v57 => qlet (v57 + 1) fun v60 => qlet (qu A46 0 (fd 27) (wI v60)) fun A62 => (1, A62))
def sM_opens : qS := fun as A K => ∃ w : Int, as = [rf 0, ni w] ∧ (iva IM A ∧ ivf JM A ∧ 10 ≤ w ∧ w ≤ 14 ∧ (A 0 (fd 32) ≤ 219) ∧ (A 0 (fd 27) < A 0 (fd 28))) ∧ (∀ A' : qA, iva IM A' → ivf JM A' → frm [24] [(0, 27), (0, 29), (0, 30), (0, 32)] A A' → ∀ r : Int, 0 ≤ r → r ≤ 1 → (r = 0 ∨ A' 24 = (fun i => if i = A 0 (fd 32) then 1048576 * w else A 24 i)) → (r = 0 ∨ A' 0 (fd 32) = A 0 (fd 32) + 1) → (r = 0 ∨ A' 0 (fd 27) = A 0 (fd 27) + 1) → (r = (fM_opens w A).1) → (A' = (fM_opens w A).2) → K (some (ni r)) A')
theorem okM_opens : okM LM 2 168 sM_opens := by
  refine qmeth [] true [(164, sM_wrongAt)] 44 rfl ⟨okM_wrongAt.le (by decide), trivial⟩ ?_
  rintro _ A K hA has ⟨w, rfl, ⟨i0, j0, p1, p2, p3, p4⟩, hK⟩
  have rg_w : rng w := has (ni w) (by simp)
  have f0 := frm_0 [24] [(0, 27), (0, 29), (0, 30), (0, 32)] A
  have hb_0_27 := ivf_at j0 6 rfl
  have hb_0_28 := ivf_at j0 7 rfl
  have hb_0_31 := ivf_at j0 8 rfl
  have hb_0_32 := ivf_at j0 9 rfl
  have hT : _ = fM_opens w A := (fM_opens.eq_1 w A).symm
  refine ⟨Nat.le_of_ble_eq_true rfl, [], trivial, ?_⟩
  refine fun v5 gv5 e6 => ?_
  replace hT := qlc e6 hT
  refine And.intro (fun h7 => ?_) (fun h7 => ?_)
  · replace hT := (if_neg h7).symm.trans hT
    refine fun v8 gv8 e9 => ?_
    replace hT := qlc e9 hT
    have q10 : v5 = v8 := (e9.trans e6.symm).symm
    subst q10
    refine fun v11 e12 => ?_
    replace hT := qlc e12 hT
    have w15 := wI_rng v11
    refine fun A13 e14 => ?_
    replace hT := qlc e14 hT
    have i16 := iva_sf i0 e14 rfl
    have j17 := ivf_st j0 e14 trivial
    have f18 := frm_sf f0 e14 rfl
    have t19 : A13 0 (fd 27) = A 0 (fd 27) := (st_f e14 rfl)
    have t20 : A13 0 (fd 28) = A 0 (fd 28) := (st_f e14 rfl)
    have t21 : A13 0 (fd 31) = A 0 (fd 31) := (st_f e14 rfl)
    have t22 : A13 0 (fd 32) = A 0 (fd 32) := (st_f e14 rfl)
    refine fun v23 gv23 e24 => ?_
    replace hT := qlc e24 hT
    have b25 := ivf_at j17 9 rfl
    have k26 : qn 1048576 = 1048576 := by decide
    refine fun v27 e28 => ?_
    replace hT := qlc e28 hT
    rw [show qn 1048576 = 1048576 by decide] at e28
    have w31 := wI_rng v27
    have w32 : wI v27 = v27 := wI_id (by (first | (clear hm hnf; omega) | omega))
    refine And.intro (by (first | (clear hm hnf; omega) | omega)) (fun A29 e30 => ?_)
    replace hT := qlc e30 hT
    have i33 := iva_st i16 e30 (And.intro (by (first | (clear hm hnf; omega) | omega)) trivial)
    have j34 := ivf_sa j17 e30 rfl
    have f35 := frm_s f18 e30 rfl
    have t36 : A29 0 (fd 27) = A13 0 (fd 27) := (congrFun (st_a e30 rfl) _)
    have t37 : A29 0 (fd 28) = A13 0 (fd 28) := (congrFun (st_a e30 rfl) _)
    have t38 : A29 0 (fd 31) = A13 0 (fd 31) := (congrFun (st_a e30 rfl) _)
    have t39 : A29 0 (fd 32) = A13 0 (fd 32) := (congrFun (st_a e30 rfl) _)
    refine fun v40 gv40 e41 => ?_
    replace hT := qlc e41 hT
    have b42 := ivf_at j34 9 rfl
    have q43 : v23 = v40 := (e41.trans ((congrFun (st_a e30 rfl) _).trans e24.symm)).symm
    subst q43
    refine fun v44 e45 => ?_
    replace hT := qlc e45 hT
    have w48 := wI_rng v44
    have w49 : wI v44 = v44 := wI_id (by (first | (clear hm hnf; omega) | omega))
    refine fun A46 e47 => ?_
    replace hT := qlc e47 hT
    have i50 := iva_sf i33 e47 rfl
    have j51 := ivf_st j34 e47 (And.intro (by (first | (clear hm hnf; omega) | omega)) trivial)
    have f52 := frm_sf f35 e47 rfl
    have t53 : A46 0 (fd 27) = A29 0 (fd 27) := (st_f e47 rfl)
    have t54 : A46 0 (fd 28) = A29 0 (fd 28) := (st_f e47 rfl)
    have t55 : A46 0 (fd 31) = A29 0 (fd 31) := (st_f e47 rfl)
    have t56 := st_v e47
    refine fun v57 gv57 e58 => ?_
    replace hT := qlc e58 hT
    have b59 := ivf_at j51 6 rfl
    refine fun v60 e61 => ?_
    replace hT := qlc e61 hT
    have w64 := wI_rng v60
    have w65 : wI v60 = v60 := wI_id (by (first | (clear hm hnf; omega) | omega))
    refine fun A62 e63 => ?_
    replace hT := qlc e63 hT
    have i66 := iva_sf i50 e63 rfl
    have j67 := ivf_st j51 e63 (And.intro (by (first | (clear hm hnf; omega) | omega)) trivial)
    have f68 := frm_sf f52 e63 rfl
    have t69 := st_v e63
    have t70 : A62 0 (fd 28) = A46 0 (fd 28) := (st_f e63 rfl)
    have t71 : A62 0 (fd 31) = A46 0 (fd 31) := (st_f e63 rfl)
    have t72 : A62 0 (fd 32) = A46 0 (fd 32) := (st_f e63 rfl)
    exact And.intro (by (first | (clear hm hnf; omega) | omega)) (hK _ i66 j67 f68 _ (by (first | (clear hm hnf; omega) | omega)) (by (first | (clear hm hnf; omega) | omega)) (Or.inr (up2 (Eq.trans (Eq.trans (st_a e63 rfl) (st_a e47 rfl)) (Eq.trans (st_u e30) (cu (st_a e14 rfl)))) (by (first | (clear hm hnf; omega) | omega)) (by (first | (clear hm hnf; omega) | omega)))) (by first | assumption | omega | simp_all) (by first | assumption | omega | simp_all) (congrArg Prod.fst hT) (congrArg Prod.snd hT))
  · replace hT := (if_pos h7).symm.trans hT
    refine fun v73 gv73 e74 => ?_
    replace hT := qlc e74 hT
    have b75 := ivf_at j0 6 rfl
    refine Exists.intro 5 (Exists.intro v73 (And.intro rfl (And.intro (And.intro i0 (And.intro j0 (dqA3 (by (first | (clear hm hnf; omega) | omega)) (by (first | (clear hm hnf; omega) | omega))))) (fun A76 i77 j78 f79 g80 => (fun h81 => ?_)))))
    · replace hT := qlc g80 hT
      have f82 := frm_c f0 f79 rfl
      have t83 : A76 0 (fd 27) = A 0 (fd 27) := (frm_f f79 rfl)
      have t84 : A76 0 (fd 28) = A 0 (fd 28) := (frm_f f79 rfl)
      have t85 : A76 0 (fd 31) = A 0 (fd 31) := (frm_f f79 rfl)
      have t86 : A76 0 (fd 32) = A 0 (fd 32) := (frm_f f79 rfl)
      exact And.intro (by (first | (clear hm hnf; omega) | omega)) (hK _ i77 j78 f82 _ (by (first | (clear hm hnf; omega) | omega)) (by (first | (clear hm hnf; omega) | omega)) (Or.inl rfl) (by first | assumption | omega | simp_all) (by first | assumption | omega | simp_all) (congrArg Prod.fst hT) (congrArg Prod.snd hT))
theorem pM_opens {w : Int} {A : qA} (hA : qokA LM A) (p0 : iva IM A) (p1 : ivf JM A) (p2 : 10 ≤ w) (p3 : w ≤ 14) (p4 : A 0 (fd 32) ≤ 219) (p5 : A 0 (fd 27) < A 0 (fd 28)) : qokA LM (fM_opens w A).2 ∧ iva IM (fM_opens w A).2 ∧ ivf JM (fM_opens w A).2 ∧ frm [24] [(0, 27), (0, 29), (0, 30), (0, 32)] A (fM_opens w A).2 ∧ (0 ≤ (fM_opens w A).1 ∧ (fM_opens w A).1 ≤ 1) ∧ ((fM_opens w A).1 = 0 ∨ (fM_opens w A).2 24 = (fun i => if i = A 0 (fd 32) then 1048576 * w else A 24 i)) ∧ ((fM_opens w A).1 = 0 ∨ (fM_opens w A).2 0 (fd 32) = A 0 (fd 32) + 1) ∧ ((fM_opens w A).1 = 0 ∨ (fM_opens w A).2 0 (fd 27) = A 0 (fd 27) + 1) := by
  obtain ⟨r, B, hB, _, hk⟩ := okM_ex okM_opens (as := [rf 0, ni w]) (K := fun _ B => B = (fM_opens w A).2 ∧ iva IM (fM_opens w A).2 ∧ ivf JM (fM_opens w A).2 ∧ frm [24] [(0, 27), (0, 29), (0, 30), (0, 32)] A (fM_opens w A).2 ∧ (0 ≤ (fM_opens w A).1 ∧ (fM_opens w A).1 ≤ 1) ∧ ((fM_opens w A).1 = 0 ∨ (fM_opens w A).2 24 = (fun i => if i = A 0 (fd 32) then 1048576 * w else A 24 i)) ∧ ((fM_opens w A).1 = 0 ∨ (fM_opens w A).2 0 (fd 32) = A 0 (fd 32) + 1) ∧ ((fM_opens w A).1 = 0 ∨ (fM_opens w A).2 0 (fd 27) = A 0 (fd 27) + 1)) hA (qoks_c (show qok (rf _) from trivial) (qoks_c (show rng w from ⟨by (first | (clear hm hnf; omega) | omega), by (first | (clear hm hnf; omega) | omega)⟩) qoks_n)) ⟨w, rfl, ⟨p0, p1, p2, p3, p4, p5⟩, fun A9 i9 j9 f9 r9 g8 g9 x0 x1 x2 x3 x4 => (by rw [← x4]; (try rw [← x3]); exact ⟨rfl, i9, j9, f9, ⟨g8, g9⟩, x0, x1, x2⟩)⟩
  exact ⟨hk.1 ▸ hB, hk.2⟩
def fM_top (A : qA) : Int := qlet (A 0 (fd 32)) fun v1 => (if v1 = 0 then (-1) else qlet (A 0 (fd 32)) fun v5 => qlet (v1 - 1) fun v9 => qlet (A 24 v9) fun v11 => qlet (qd v11 (qn 1048576)) fun v15 => v15)
def sM_top : qS := fun as A K => as = [rf 0] ∧ (iva IM A ∧ ivf JM A) ∧ (∀ r : Int, rng r → ((r = -1 ∧ A 0 (fd 32) = 0) ∨ (1 ≤ A 0 (fd 32) ∧ 0 ≤ r ∧ r ≤ 2047 ∧ r = A 24 (A 0 (fd 32) - 1) / 1048576)) → (r = fM_top A) → K (some (ni r)) A)
theorem okM_top : okM LM 1 169 sM_top := by
  refine qmeth [] false [] 21 rfl trivial ?_
  rintro _ A K hA has ⟨rfl, ⟨i0, j0⟩, hK⟩
  have f0 := frm_0 [] [] A
  have hT : _ = fM_top A := (fM_top.eq_1 A).symm
  refine ⟨Nat.le_of_ble_eq_true rfl, [], trivial, ?_⟩
  refine fun v1 gv1 e2 => ?_
  replace hT := qlc e2 hT
  have b3 := ivf_at j0 9 rfl
  refine And.intro (fun h4 => ?_) (fun h4 => ?_)
  · replace hT := (if_neg h4).symm.trans hT
    refine fun v5 gv5 e6 => ?_
    replace hT := qlc e6 hT
    have b7 := ivf_at j0 9 rfl
    have q8 : v1 = v5 := (e6.trans e2.symm).symm
    subst q8
    refine fun v9 e10 => ?_
    replace hT := qlc e10 hT
    refine And.intro (by (first | (clear hm hnf; omega) | omega)) (fun v11 gv11 e12 => ?_)
    replace hT := qlc e12 hT
    have b13 := iva_at i0 12 rfl (i := v9) (by (first | (clear hm hnf; omega) | omega)) (by (first | (clear hm hnf; omega) | omega))
    have k14 : qn 1048576 = 1048576 := by decide
    refine And.intro (by (first | (clear hm hnf; omega) | omega)) (fun v15 e16 => ?_)
    replace hT := qlc e16 hT
    have h17 := qd_nn (a := v11) (b := (qn 1048576)) (by (first | (clear hm hnf; omega) | omega))
    rw [show qn 1048576 = 1048576 by decide] at h17 e16
    exact And.intro (by (first | (clear hm hnf; omega) | omega)) (hK _ (by first | assumption | exact ⟨by (first | (clear hm hnf; omega) | omega), by (first | (clear hm hnf; omega) | omega)⟩ | exact wI_rng _ | exact i_rng _ | (subst_vars; exact i_rng _) | exact (hA _ _).2 rfl) (by first | omega | (subst_vars; omega)) hT)
  · replace hT := (if_pos h4).symm.trans hT
    exact hK _ (by first | assumption | exact ⟨by (first | (clear hm hnf; omega) | omega), by (first | (clear hm hnf; omega) | omega)⟩ | exact wI_rng _ | exact i_rng _ | (subst_vars; exact i_rng _) | exact (hA _ _).2 rfl) (by first | omega | (subst_vars; omega)) hT
theorem pM_top {A : qA} (hA : qokA LM A) (p0 : iva IM A) (p1 : ivf JM A) : rng (fM_top A) ∧ (((fM_top A) = -1 ∧ A 0 (fd 32) = 0) ∨ (1 ≤ A 0 (fd 32) ∧ 0 ≤ (fM_top A) ∧ (fM_top A) ≤ 2047 ∧ (fM_top A) = A 24 (A 0 (fd 32) - 1) / 1048576)) := by
  obtain ⟨r, B, hB, _, hk⟩ := okM_ex okM_top (as := [rf 0]) (K := fun _ B => B = A ∧ rng (fM_top A) ∧ (((fM_top A) = -1 ∧ A 0 (fd 32) = 0) ∨ (1 ≤ A 0 (fd 32) ∧ 0 ≤ (fM_top A) ∧ (fM_top A) ≤ 2047 ∧ (fM_top A) = A 24 (A 0 (fd 32) - 1) / 1048576))) hA (qoks_c (show qok (rf _) from trivial) qoks_n) ⟨rfl, ⟨p0, p1⟩, fun r9 g9 x0 x1 => (by rw [← x1]; exact ⟨rfl, g9, x0⟩)⟩
  exact hk.2
def fM_readsNumber_c6 (rec : Nat → List Int → qA → Int × qA) (f : Int) (B : qA) : Int × qA := qlet (fM_isDigit B) fun r16 => (if r16 = 0 then (1, B) else qlet (B 0 (fd 27)) fun v23 => qlet (f + 5) fun v26 => (if v23 = v26 then qlet (B 0 (fd 27)) fun v69 => qlet (fM_wrongAt 2 v23 B) fun A73 => (0, A73) else qlet (B 0 (fd 34)) fun v29 => qlet (10 * v29) fun v31 => qlet (fM_here B) fun r33 => qlet (v31 + r33) fun v39 => qlet (v39 - 48) fun v41 => qlet (qu B 0 (fd 34) v41) fun A43 => qlet (A43 0 (fd 27)) fun v53 => qlet (v23 + 1) fun v57 => qlet (qu A43 0 (fd 27) v57) fun A59 => rec 6 [f] A59))
def fM_readsNumber_L : Nat → Nat → List Int → qA → Int × qA
  | 0 => fun _ _ B => (0, B)
  | nF + 1 => fun k zs B => bif Nat.beq k 6 then (match zs with | [f] => fM_readsNumber_c6 (fM_readsNumber_L nF) f B | _ => (0, B)) else (0, B)
theorem fM_readsNumber_L6 (nF : Nat) (f : Int) (B : qA) : fM_readsNumber_L (nF + 1) 6 [f] B = fM_readsNumber_c6 (fM_readsNumber_L nF) f B := (congrFun (congrFun (congrFun (fM_readsNumber_L.eq_2 nF) 6) [f]) B).trans (qL1 rfl rfl)
def fM_readsNumber (A : qA) : Int × qA := qlet (A 0 (fd 27)) fun v3 => qlet (qu A 0 (fd 34) 0) fun A6 => (fM_readsNumber_L 100000) 6 [v3] A6
def sM_readsNumber : qS := fun as A K => as = [rf 0] ∧ (iva IM A ∧ ivf JM A ∧ (48 ≤ HR A) ∧ (HR A ≤ 57)) ∧ (∀ A' : qA, iva IM A' → ivf JM A' → frm [] [(0, 27), (0, 29), (0, 34)] A A' → ∀ r : Int, 0 ≤ r → r ≤ 1 → (r = 0 ∨ A 0 (fd 27) < A' 0 (fd 27)) → (r = 0 ∨ (0 ≤ A' 0 (fd 34) ∧ A' 0 (fd 34) ≤ 99999)) → (r = (fM_readsNumber A).1) → (A' = (fM_readsNumber A).2) → K (some (ni r)) A')
theorem okM_readsNumber : okM LM 3 166 sM_readsNumber := by
  refine qmeth [] false [(163, sM_isDigit), (162, sM_here), (164, sM_wrongAt)] 47 rfl ⟨okM_isDigit.le (by decide), ⟨okM_here.le (by decide), ⟨okM_wrongAt.le (by decide), trivial⟩⟩⟩ ?_
  rintro _ A K hA has ⟨rfl, ⟨i0, j0, p1, p2⟩, hK⟩
  have f0 := frm_0 [] [(0, 27), (0, 29), (0, 34)] A
  have hb_0_27 := ivf_at j0 6 rfl
  have hb_0_28 := ivf_at j0 7 rfl
  have hb_0_31 := ivf_at j0 8 rfl
  have hb_0_32 := ivf_at j0 9 rfl
  have hT : _ = fM_readsNumber A := (fM_readsNumber.eq_1 A).symm
  refine ⟨Nat.le_of_ble_eq_true rfl, [(6, [(0, 2, 0), (1, 0, 0)], fun zs B nn => match zs with | [f] => iva IM B ∧ ivf JM B ∧ frm [] [(0, 27), (0, 29), (0, 34)] A B ∧ nn = (200 - B 0 (fd 27) : Int).toNat ∧ (f = A 0 (fd 27)) ∧ (f ≤ B 0 (fd 27)) ∧ (B 0 (fd 27) ≤ f + 5) ∧ (0 ≤ B 0 (fd 34)) ∧ (B 0 (fd 27) = f + 0 → B 0 (fd 34) ≤ 0) ∧ (B 0 (fd 27) = f + 1 → B 0 (fd 34) ≤ 9) ∧ (B 0 (fd 27) = f + 2 → B 0 (fd 34) ≤ 99) ∧ (B 0 (fd 27) = f + 3 → B 0 (fd 34) ≤ 999) ∧ (B 0 (fd 27) = f + 4 → B 0 (fd 34) ≤ 9999) ∧ (B 0 (fd 27) = f + 5 → B 0 (fd 34) ≤ 99999) ∧ (B 0 (fd 27) = f → (48 ≤ HR B ∧ HR B ≤ 57)) ∧ (∃ nf : Nat, nn < nf ∧ fM_readsNumber_L nf 6 [f] B = fM_readsNumber A) | _ => False)], ?_, ?_⟩
  · refine ⟨⟨rfl, ?_⟩, trivial⟩
    · refine fun f B mm hB hz hI => ?_
      obtain ⟨i1, j1, f1, hm, c0, c1, c2, c3, c4, c5, c6, c7, c8, c9, c10, ⟨nf, hnf, hT⟩⟩ := hI
      obtain ⟨hz_f, _⟩ := hz
      obtain ⟨ng, rfl⟩ : ∃ k, nf = k + 1 := ⟨nf - 1, by omega⟩
      replace hT := (fM_readsNumber_c6.eq_1 (fM_readsNumber_L ng) f B).symm.trans ((fM_readsNumber_L6 ng f B).symm.trans hT)
      have hc_0_27 := ivf_at j1 6 rfl
      have hc_0_28 := ivf_at j1 7 rfl
      have hc_0_31 := ivf_at j1 8 rfl
      have hc_0_32 := ivf_at j1 9 rfl
      refine And.intro rfl (And.intro (And.intro i1 j1) (fun r16 g20 g21 g17 g18 g19 => ?_))
      replace hT := qlc g19 hT
      clear g19
      refine And.intro (fun h22 => ?_) (fun h22 => ?_)
      · replace hT := (if_pos h22).symm.trans hT
        exact And.intro (by (first | (clear hm hnf; omega) | omega)) (hK _ i1 j1 f1 _ (by (first | (clear hm hnf; omega) | omega)) (by (first | (clear hm hnf; omega) | omega)) (by first | assumption | omega | simp_all) (by first | assumption | omega | simp_all) (congrArg Prod.fst hT) (congrArg Prod.snd hT))
      · replace hT := (if_neg h22).symm.trans hT
        refine fun v23 gv23 e24 => ?_
        replace hT := qlc e24 hT
        have b25 := ivf_at j1 6 rfl
        refine fun v26 e27 => ?_
        replace hT := qlc e27 hT
        refine And.intro (by (first | (clear hm hnf; omega) | omega)) (And.intro (fun h28 => ?_) (fun h28 => ?_))
        · replace hT := (if_neg h28).symm.trans hT
          refine fun v29 gv29 e30 => ?_
          replace hT := qlc e30 hT
          refine fun v31 e32 => ?_
          replace hT := qlc e32 hT
          refine And.intro rfl (And.intro (And.intro i1 j1) (fun r33 g37 g38 g34 g35 g36 => ?_))
          replace hT := qlc g36 hT
          clear g36
          refine fun v39 e40 => ?_
          replace hT := qlc e40 hT
          refine fun v41 e42 => ?_
          replace hT := qlc e42 hT
          refine And.intro (by (first | (clear hm hnf; omega) | omega)) (fun A43 e44 => ?_)
          replace hT := qlc e44 hT
          have i45 := iva_sf i1 e44 rfl
          have j46 := ivf_st j1 e44 trivial
          have f47 := frm_sf f1 e44 rfl
          have t48 : A43 0 (fd 27) = B 0 (fd 27) := (st_f e44 rfl)
          have t49 : A43 0 (fd 28) = B 0 (fd 28) := (st_f e44 rfl)
          have t50 : A43 0 (fd 31) = B 0 (fd 31) := (st_f e44 rfl)
          have t51 : A43 0 (fd 32) = B 0 (fd 32) := (st_f e44 rfl)
          have t52 := st_v e44
          refine fun v53 gv53 e54 => ?_
          replace hT := qlc e54 hT
          have b55 := ivf_at j46 6 rfl
          have q56 : v23 = v53 := (e54.trans ((st_f e44 rfl).trans e24.symm)).symm
          subst q56
          refine fun v57 e58 => ?_
          replace hT := qlc e58 hT
          refine And.intro (by (first | (clear hm hnf; omega) | omega)) (fun A59 e60 => ?_)
          replace hT := qlc e60 hT
          have i61 := iva_sf i45 e60 rfl
          have j62 := ivf_st j46 e60 (And.intro (by (first | (clear hm hnf; omega) | omega)) trivial)
          have f63 := frm_sf f47 e60 rfl
          have t64 := st_v e60
          have t65 : A59 0 (fd 28) = A43 0 (fd 28) := (st_f e60 rfl)
          have t66 : A59 0 (fd 31) = A43 0 (fd 31) := (st_f e60 rfl)
          have t67 : A59 0 (fd 32) = A43 0 (fd 32) := (st_f e60 rfl)
          have t68 : A59 0 (fd 34) = A43 0 (fd 34) := (st_f e60 rfl)
          exact Exists.intro (200 - A59 0 (fd 27) : Int).toNat (And.intro (by first | exact qtn hm (by (try clear hm hnf); omega) | omega) (And.intro i61 (And.intro j62 (And.intro f63 (And.intro rfl (dqA10 (by (first | (clear hm hnf; omega) | omega)) (And.intro (by first | omega | (have hk := HR_k (A := A) (A' := A59) (Eq.trans (Eq.trans (st_a e60 rfl) (st_a e44 rfl)) (frm_a f1 rfl)) (by (first | (clear hm hnf; omega) | omega)) (by (first | (clear hm hnf; omega) | omega)); omega)) (Exists.intro ng (And.intro (by first | exact qtm hm hnf (by (try clear hm hnf); omega) | omega) hT)))))))))
        · replace hT := (if_pos h28).symm.trans hT
          refine fun v69 gv69 e70 => ?_
          replace hT := qlc e70 hT
          have b71 := ivf_at j1 6 rfl
          have q72 : v23 = v69 := (e70.trans e24.symm).symm
          subst q72
          refine Exists.intro 2 (Exists.intro v23 (And.intro rfl (And.intro (And.intro i1 (And.intro j1 (dqA3 (by (first | (clear hm hnf; omega) | omega)) (by (first | (clear hm hnf; omega) | omega))))) (fun A73 i74 j75 f76 g77 => (fun h78 => ?_)))))
          · replace hT := qlc g77 hT
            have f79 := frm_c f1 f76 rfl
            have t80 : A73 0 (fd 27) = B 0 (fd 27) := (frm_f f76 rfl)
            have t81 : A73 0 (fd 28) = B 0 (fd 28) := (frm_f f76 rfl)
            have t82 : A73 0 (fd 31) = B 0 (fd 31) := (frm_f f76 rfl)
            have t83 : A73 0 (fd 32) = B 0 (fd 32) := (frm_f f76 rfl)
            have t84 : A73 0 (fd 34) = B 0 (fd 34) := (frm_f f76 rfl)
            exact And.intro (by (first | (clear hm hnf; omega) | omega)) (hK _ i74 j75 f79 _ (by (first | (clear hm hnf; omega) | omega)) (by (first | (clear hm hnf; omega) | omega)) (by first | assumption | omega | simp_all) (by first | assumption | omega | simp_all) (congrArg Prod.fst hT) (congrArg Prod.snd hT))
  · refine fun v3 gv3 e4 => ?_
    replace hT := qlc e4 hT
    have b5 := ivf_at j0 6 rfl
    refine fun A6 e7 => ?_
    replace hT := qlc e7 hT
    have i8 := iva_sf i0 e7 rfl
    have j9 := ivf_st j0 e7 trivial
    have f10 := frm_sf f0 e7 rfl
    have t11 : A6 0 (fd 27) = A 0 (fd 27) := (st_f e7 rfl)
    have t12 : A6 0 (fd 28) = A 0 (fd 28) := (st_f e7 rfl)
    have t13 : A6 0 (fd 31) = A 0 (fd 31) := (st_f e7 rfl)
    have t14 : A6 0 (fd 32) = A 0 (fd 32) := (st_f e7 rfl)
    have t15 := st_v e7
    exact Exists.intro (200 - A6 0 (fd 27) : Int).toNat (And.intro i8 (And.intro j9 (And.intro f10 (And.intro rfl (dqA10 (by (first | (clear hm hnf; omega) | omega)) (And.intro (by first | omega | (have hk := HR_k (A := A) (A' := A6) (st_a e7 rfl) (by (first | (clear hm hnf; omega) | omega)) (by (first | (clear hm hnf; omega) | omega)); omega)) (Exists.intro 100000 (And.intro (by (first | (clear hm hnf; omega) | omega)) hT))))))))
theorem pM_readsNumber {A : qA} (hA : qokA LM A) (p0 : iva IM A) (p1 : ivf JM A) (p2 : 48 ≤ HR A) (p3 : HR A ≤ 57) : qokA LM (fM_readsNumber A).2 ∧ iva IM (fM_readsNumber A).2 ∧ ivf JM (fM_readsNumber A).2 ∧ frm [] [(0, 27), (0, 29), (0, 34)] A (fM_readsNumber A).2 ∧ (0 ≤ (fM_readsNumber A).1 ∧ (fM_readsNumber A).1 ≤ 1) ∧ ((fM_readsNumber A).1 = 0 ∨ A 0 (fd 27) < (fM_readsNumber A).2 0 (fd 27)) ∧ ((fM_readsNumber A).1 = 0 ∨ (0 ≤ (fM_readsNumber A).2 0 (fd 34) ∧ (fM_readsNumber A).2 0 (fd 34) ≤ 99999)) := by
  obtain ⟨r, B, hB, _, hk⟩ := okM_ex okM_readsNumber (as := [rf 0]) (K := fun _ B => B = (fM_readsNumber A).2 ∧ iva IM (fM_readsNumber A).2 ∧ ivf JM (fM_readsNumber A).2 ∧ frm [] [(0, 27), (0, 29), (0, 34)] A (fM_readsNumber A).2 ∧ (0 ≤ (fM_readsNumber A).1 ∧ (fM_readsNumber A).1 ≤ 1) ∧ ((fM_readsNumber A).1 = 0 ∨ A 0 (fd 27) < (fM_readsNumber A).2 0 (fd 27)) ∧ ((fM_readsNumber A).1 = 0 ∨ (0 ≤ (fM_readsNumber A).2 0 (fd 34) ∧ (fM_readsNumber A).2 0 (fd 34) ≤ 99999))) hA (qoks_c (show qok (rf _) from trivial) qoks_n) ⟨rfl, ⟨p0, p1, p2, p3⟩, fun A9 i9 j9 f9 r9 g8 g9 x0 x1 x2 x3 => (by rw [← x3]; (try rw [← x2]); exact ⟨rfl, i9, j9, f9, ⟨g8, g9⟩, x0, x1⟩)⟩
  exact ⟨hk.1 ▸ hB, hk.2⟩
def fM_closesSums_c0 (rec : Nat → List Int → qA → qA) (l1 : Int) (B : qA) : qA := qlet (fM_top B) fun r218 => (if r218 < 4 then (if l1 = 0 then B else qlet (fM_top B) fun r224 => (if r224 = 2 then qlet (fM_top B) fun r229 => qlet (fM_notes r229 0 B) fun A234 => qlet (A234 0 (fd 32)) fun v249 => qlet (v249 - 1) fun v252 => qlet (qu A234 0 (fd 32) v252) fun A254 => rec 0 [l1] A254 else qlet (fM_top B) fun r265 => (if r265 = 3 then qlet (fM_top B) fun r270 => qlet (fM_notes r270 0 B) fun A275 => qlet (A275 0 (fd 32)) fun v290 => qlet (v290 - 1) fun v293 => qlet (qu A275 0 (fd 32) v293) fun A295 => rec 0 [l1] A295 else B))) else qlet (fM_top B) fun r306 => (if 6 < r306 then (if l1 = 0 then B else qlet (fM_top B) fun r348 => (if r348 = 2 then qlet (fM_top B) fun r353 => qlet (fM_notes r353 0 B) fun A358 => qlet (A358 0 (fd 32)) fun v373 => qlet (v373 - 1) fun v376 => qlet (qu A358 0 (fd 32) v376) fun A378 => rec 0 [l1] A378 else qlet (fM_top B) fun r389 => (if r389 = 3 then qlet (fM_top B) fun r394 => qlet (fM_notes r394 0 B) fun A399 => qlet (A399 0 (fd 32)) fun v414 => qlet (v414 - 1) fun v417 => qlet (qu A399 0 (fd 32) v417) fun A419 => rec 0 [l1] A419 else B))) else qlet (fM_top B) fun r311 => qlet (fM_notes r311 0 B) fun A316 => qlet (A316 0 (fd 32)) fun v331 => qlet (v331 - 1) fun v334 => qlet (qu A316 0 (fd 32) v334) fun A336 => rec 0 [l1] A336))
def fM_closesSums_L : Nat → Nat → List Int → qA → qA
  | 0 => fun _ _ B => B
  | nF + 1 => fun k zs B => bif Nat.beq k 0 then (match zs with | [l1] => fM_closesSums_c0 (fM_closesSums_L nF) l1 B | _ => B) else B
theorem fM_closesSums_L0 (nF : Nat) (l1 : Int) (B : qA) : fM_closesSums_L (nF + 1) 0 [l1] B = fM_closesSums_c0 (fM_closesSums_L nF) l1 B := (congrFun (congrFun (congrFun (fM_closesSums_L.eq_2 nF) 0) [l1]) B).trans (qL1 rfl rfl)
def fM_closesSums (a : Int) (A : qA) : qA := qlet (fM_top A) fun r6 => (if r6 < 4 then (if a = 0 then A else qlet (fM_top A) fun r12 => (if r12 = 2 then qlet (fM_top A) fun r17 => qlet (fM_notes r17 0 A) fun A22 => qlet (A22 0 (fd 32)) fun v37 => qlet (v37 - 1) fun v40 => qlet (qu A22 0 (fd 32) v40) fun A42 => (fM_closesSums_L 100000) 0 [a] A42 else qlet (fM_top A) fun r53 => (if r53 = 3 then qlet (fM_top A) fun r58 => qlet (fM_notes r58 0 A) fun A63 => qlet (A63 0 (fd 32)) fun v78 => qlet (v78 - 1) fun v81 => qlet (qu A63 0 (fd 32) v81) fun A83 => (fM_closesSums_L 100000) 0 [a] A83 else A))) else qlet (fM_top A) fun r94 => (if 6 < r94 then (if a = 0 then A else qlet (fM_top A) fun r136 => (if r136 = 2 then qlet (fM_top A) fun r141 => qlet (fM_notes r141 0 A) fun A146 => qlet (A146 0 (fd 32)) fun v161 => qlet (v161 - 1) fun v164 => qlet (qu A146 0 (fd 32) v164) fun A166 => (fM_closesSums_L 100000) 0 [a] A166 else qlet (fM_top A) fun r177 => (if r177 = 3 then qlet (fM_top A) fun r182 => qlet (fM_notes r182 0 A) fun A187 => qlet (A187 0 (fd 32)) fun v202 => qlet (v202 - 1) fun v205 => qlet (qu A187 0 (fd 32) v205) fun A207 => (fM_closesSums_L 100000) 0 [a] A207 else A))) else qlet (fM_top A) fun r99 => qlet (fM_notes r99 0 A) fun A104 => qlet (A104 0 (fd 32)) fun v119 => qlet (v119 - 1) fun v122 => qlet (qu A104 0 (fd 32) v122) fun A124 => (fM_closesSums_L 100000) 0 [a] A124))
def sM_closesSums : qS := fun as A K => ∃ a : Int, ∃ u0 : Int → Int, ∃ f : Int, ∃ b : Int, ∃ e : Int, ∃ x : Int, as = [rf 0, ni a] ∧ (iva IM A ∧ ivf JM A ∧ 0 ≤ a ∧ a ≤ 1 ∧ (PS A u0 f b e x) ∧ (1 ≤ e) ∧ ((-1) ≤ x)) ∧ (∀ A' : qA, iva IM A' → ivf JM A' → frm [23] [(0, 31), (0, 32)] A A' → (PS A' u0 f b e x) → (A' 0 (fd 32) ≤ A 0 (fd 32)) → (a = 1 → (A' 0 (fd 32) = 0 ∨ A' 24 (A' 0 (fd 32) - 1) / 1048576 < 2 ∨ 6 < A' 24 (A' 0 (fd 32) - 1) / 1048576)) → (∀ j, j < A 0 (fd 32) → A 24 j / 1048576 = 14 → j < A' 0 (fd 32)) → (A' = fM_closesSums a A) → K none A')
theorem okM_closesSums : okM LM 2 172 sM_closesSums := by
  refine qmeth [] false [(169, sM_top), (167, sM_notes)] 37 rfl ⟨okM_top.le (by decide), ⟨okM_notes.le (by decide), trivial⟩⟩ ?_
  rintro _ A K hA has ⟨a, u0, f, b, e, x, rfl, ⟨i0, j0, p1, p2, p3, p4, p5⟩, hK⟩
  have rg_a : rng a := has (ni a) (by simp)
  have f0 := frm_0 [23] [(0, 31), (0, 32)] A
  have hb_0_27 := ivf_at j0 6 rfl
  have hb_0_28 := ivf_at j0 7 rfl
  have hb_0_31 := ivf_at j0 8 rfl
  have hb_0_32 := ivf_at j0 9 rfl
  have hT : _ = fM_closesSums a A := (fM_closesSums.eq_1 a A).symm
  refine ⟨Nat.le_of_ble_eq_true rfl, [(0, [(0, 2, 0), (1, 0, 0)], fun zs B nn => match zs with | [l1] => iva IM B ∧ ivf JM B ∧ frm [23] [(0, 31), (0, 32)] A B ∧ nn = (B 0 (fd 32) : Int).toNat ∧ (l1 = a) ∧ (PS B u0 f b e x) ∧ (B 0 (fd 32) ≤ A 0 (fd 32)) ∧ (∀ j, j < A 0 (fd 32) → A 24 j / 1048576 = 14 → j < B 0 (fd 32)) ∧ (∃ nf : Nat, nn < nf ∧ fM_closesSums_L nf 0 [l1] B = fM_closesSums a A) | _ => False)], ?_, ?_⟩
  · refine ⟨⟨rfl, ?_⟩, trivial⟩
    · refine fun l1 B mm hB hz hI => ?_
      obtain ⟨i1, j1, f1, hm, c0, c1, c2, c3, ⟨nf, hnf, hT⟩⟩ := hI
      obtain ⟨hz_l1, _⟩ := hz
      obtain ⟨ng, rfl⟩ : ∃ k, nf = k + 1 := ⟨nf - 1, by omega⟩
      replace hT := (fM_closesSums_c0.eq_1 (fM_closesSums_L ng) l1 B).symm.trans ((fM_closesSums_L0 ng l1 B).symm.trans hT)
      have hc_0_27 := ivf_at j1 6 rfl
      have hc_0_28 := ivf_at j1 7 rfl
      have hc_0_31 := ivf_at j1 8 rfl
      have hc_0_32 := ivf_at j1 9 rfl
      refine And.intro rfl (And.intro (And.intro i1 j1) (fun r218 g221 g219 g220 => ?_))
      replace hT := qlc g220 hT
      skip
      refine And.intro (fun h222 => ?_) (fun h222 => ?_)
      · replace hT := (if_pos h222).symm.trans hT
        refine And.intro (fun h223 => ?_) (fun h223 => ?_)
        · replace hT := (if_pos h223).symm.trans hT
          exact hK _ i1 j1 f1 (PS_kA c1 rfl rfl (by (first | (clear hm hnf; omega) | omega))) (by first | assumption | omega | exact fun j h0 h1 => h0) (by first | assumption | omega | exact fun j h0 h1 => h0) (by first | assumption | omega | exact fun j h0 h1 => h0) hT
        · replace hT := (if_neg h223).symm.trans hT
          refine And.intro rfl (And.intro (And.intro i1 j1) (fun r224 g227 g225 g226 => ?_))
          replace hT := qlc g226 hT
          first | (have qq224 : r224 = r218 := g226.trans g220.symm; clear g225) | skip
          refine And.intro (fun h228 => ?_) (fun h228 => ?_)
          · replace hT := (if_pos h228).symm.trans hT
            obtain ⟨hs, hhi⟩ := PS_hiA c1 (by (first | (clear hm hnf; omega) | omega)); (try clear g219); (try clear g225)
            refine And.intro rfl (And.intro (And.intro i1 j1) (fun r229 g232 g230 g231 => ?_))
            replace hT := qlc g231 hT
            skip
            have z233 := PS_bd c1
            refine Exists.intro r229 (Exists.intro 0 (And.intro rfl (And.intro (And.intro i1 (And.intro j1 (dqA4 (by (first | (clear hm hnf; omega) | omega)) (by first | assumption | omega | simp_all)))) (fun A234 i235 j236 f237 g238 g239 g240 => ?_))))
            replace hT := qlc g240 hT
            have f241 := frm_c f1 f237 rfl
            have t242 : A234 0 (fd 27) = B 0 (fd 27) := (frm_f f237 rfl)
            have t243 : A234 0 (fd 28) = B 0 (fd 28) := (frm_f f237 rfl)
            have t244 := ivf_at j236 8 rfl
            have t245 : A234 0 (fd 32) = B 0 (fd 32) := (frm_f f237 rfl)
            have ps246 := (PS_nA c1 g238 (frm_a f237 rfl) (by (first | (clear hm hnf; omega) | omega)) (by (first | (clear hm hnf; omega) | omega)) : PS A234 u0 f b (e - 1) (x - 1))
            have z247 := PS_bd ps246
            have z248 := top_k (A := B) (A' := A234) (frm_a f237 rfl) (by (first | (clear hm hnf; omega) | omega))
            refine fun v249 gv249 e250 => ?_
            replace hT := qlc e250 hT
            have b251 := ivf_at j236 9 rfl
            refine fun v252 e253 => ?_
            replace hT := qlc e253 hT
            refine And.intro (by (first | (clear hm hnf; omega) | omega)) (fun A254 e255 => ?_)
            replace hT := qlc e255 hT
            have i256 := iva_sf i235 e255 rfl
            have j257 := ivf_st j236 e255 (And.intro (by (first | (clear hm hnf; omega) | omega)) trivial)
            have f258 := frm_sf f241 e255 rfl
            have t259 : A254 0 (fd 27) = A234 0 (fd 27) := (st_f e255 rfl)
            have t260 : A254 0 (fd 28) = A234 0 (fd 28) := (st_f e255 rfl)
            have t261 : A254 0 (fd 31) = A234 0 (fd 31) := (st_f e255 rfl)
            have t262 := st_v e255
            have ps263 := (PS_pA ps246 (st_a e255 rfl) (st_a e255 rfl) (by (first | (clear hm hnf; omega) | omega)) (by (first | (clear hm hnf; omega) | omega)) (by (first | (clear hm hnf; omega) | omega)) (by (first | (clear hm hnf; omega) | omega)) : PS A254 u0 f b e x)
            have z264 := PS_bd ps263
            exact Exists.intro (A254 0 (fd 32) : Int).toNat (And.intro (by first | exact qtn hm (by (try clear hm hnf); omega) | omega) (And.intro i256 (And.intro j257 (And.intro f258 (And.intro rfl (And.intro (by (first | (clear hm hnf; omega) | omega)) (And.intro (PS_kA ps263 rfl rfl (by (first | (clear hm hnf; omega) | omega))) (And.intro (by (first | (clear hm hnf; omega) | omega)) (And.intro (by first | exact fun j h0 h1 => h0 | (intro j h0 h1; by_cases hj : j = A 0 (fd 32) - 1; (subst hj; omega); omega) | (intro j h0 h1; have h2 := c3 j h0 h1; rw [← (frm_a f1 (r := 24) rfl)] at h1; by_cases hj : j = B 0 (fd 32) - 1; (subst hj; omega); omega)) (Exists.intro ng (And.intro (by first | exact qtm hm hnf (by (try clear hm hnf); omega) | omega) hT)))))))))))
          · replace hT := (if_neg h228).symm.trans hT
            refine And.intro rfl (And.intro (And.intro i1 j1) (fun r265 g268 g266 g267 => ?_))
            replace hT := qlc g267 hT
            first | (have qq265 : r265 = r224 := g267.trans g226.symm; clear g266) | skip
            refine And.intro (fun h269 => ?_) (fun h269 => ?_)
            · replace hT := (if_neg h269).symm.trans hT
              exact hK _ i1 j1 f1 (PS_kA c1 rfl rfl (by (first | (clear hm hnf; omega) | omega))) (by first | assumption | omega | exact fun j h0 h1 => h0) (by first | assumption | omega | exact fun j h0 h1 => h0) (by first | assumption | omega | exact fun j h0 h1 => h0) hT
            · replace hT := (if_pos h269).symm.trans hT
              obtain ⟨hs, hhi⟩ := PS_hiA c1 (by (first | (clear hm hnf; omega) | omega)); (try clear g219); (try clear g225); (try clear g266)
              refine And.intro rfl (And.intro (And.intro i1 j1) (fun r270 g273 g271 g272 => ?_))
              replace hT := qlc g272 hT
              first | (have qq270 : r270 = r265 := g272.trans g267.symm; clear g271) | skip
              have z274 := PS_bd c1
              refine Exists.intro r270 (Exists.intro 0 (And.intro rfl (And.intro (And.intro i1 (And.intro j1 (dqA4 (by (first | (clear hm hnf; omega) | omega)) (by first | assumption | omega | simp_all)))) (fun A275 i276 j277 f278 g279 g280 g281 => ?_))))
              replace hT := qlc g281 hT
              have f282 := frm_c f1 f278 rfl
              have t283 : A275 0 (fd 27) = B 0 (fd 27) := (frm_f f278 rfl)
              have t284 : A275 0 (fd 28) = B 0 (fd 28) := (frm_f f278 rfl)
              have t285 := ivf_at j277 8 rfl
              have t286 : A275 0 (fd 32) = B 0 (fd 32) := (frm_f f278 rfl)
              have ps287 := (PS_nA c1 g279 (frm_a f278 rfl) (by (first | (clear hm hnf; omega) | omega)) (by (first | (clear hm hnf; omega) | omega)) : PS A275 u0 f b (e - 1) (x - 1))
              have z288 := PS_bd ps287
              have z289 := top_k (A := B) (A' := A275) (frm_a f278 rfl) (by (first | (clear hm hnf; omega) | omega))
              refine fun v290 gv290 e291 => ?_
              replace hT := qlc e291 hT
              have b292 := ivf_at j277 9 rfl
              refine fun v293 e294 => ?_
              replace hT := qlc e294 hT
              refine And.intro (by (first | (clear hm hnf; omega) | omega)) (fun A295 e296 => ?_)
              replace hT := qlc e296 hT
              have i297 := iva_sf i276 e296 rfl
              have j298 := ivf_st j277 e296 (And.intro (by (first | (clear hm hnf; omega) | omega)) trivial)
              have f299 := frm_sf f282 e296 rfl
              have t300 : A295 0 (fd 27) = A275 0 (fd 27) := (st_f e296 rfl)
              have t301 : A295 0 (fd 28) = A275 0 (fd 28) := (st_f e296 rfl)
              have t302 : A295 0 (fd 31) = A275 0 (fd 31) := (st_f e296 rfl)
              have t303 := st_v e296
              have ps304 := (PS_pA ps287 (st_a e296 rfl) (st_a e296 rfl) (by (first | (clear hm hnf; omega) | omega)) (by (first | (clear hm hnf; omega) | omega)) (by (first | (clear hm hnf; omega) | omega)) (by (first | (clear hm hnf; omega) | omega)) : PS A295 u0 f b e x)
              have z305 := PS_bd ps304
              exact Exists.intro (A295 0 (fd 32) : Int).toNat (And.intro (by first | exact qtn hm (by (try clear hm hnf); omega) | omega) (And.intro i297 (And.intro j298 (And.intro f299 (And.intro rfl (And.intro (by (first | (clear hm hnf; omega) | omega)) (And.intro (PS_kA ps304 rfl rfl (by (first | (clear hm hnf; omega) | omega))) (And.intro (by (first | (clear hm hnf; omega) | omega)) (And.intro (by first | exact fun j h0 h1 => h0 | (intro j h0 h1; by_cases hj : j = A 0 (fd 32) - 1; (subst hj; omega); omega) | (intro j h0 h1; have h2 := c3 j h0 h1; rw [← (frm_a f1 (r := 24) rfl)] at h1; by_cases hj : j = B 0 (fd 32) - 1; (subst hj; omega); omega)) (Exists.intro ng (And.intro (by first | exact qtm hm hnf (by (try clear hm hnf); omega) | omega) hT)))))))))))
      · replace hT := (if_neg (Int.not_lt.mpr h222)).symm.trans hT
        refine And.intro rfl (And.intro (And.intro i1 j1) (fun r306 g309 g307 g308 => ?_))
        replace hT := qlc g308 hT
        first | (have qq306 : r306 = r218 := g308.trans g220.symm; clear g307) | skip
        refine And.intro (fun h310 => ?_) (fun h310 => ?_)
        · replace hT := (if_neg (Int.not_lt.mpr h310)).symm.trans hT
          obtain ⟨hs, hhi⟩ := PS_hiA c1 (by (first | (clear hm hnf; omega) | omega)); (try clear g219); (try clear g307)
          refine And.intro rfl (And.intro (And.intro i1 j1) (fun r311 g314 g312 g313 => ?_))
          replace hT := qlc g313 hT
          first | (have qq311 : r311 = r306 := g313.trans g308.symm; clear g312) | skip
          have z315 := PS_bd c1
          refine Exists.intro r311 (Exists.intro 0 (And.intro rfl (And.intro (And.intro i1 (And.intro j1 (dqA4 (by (first | (clear hm hnf; omega) | omega)) (by first | assumption | omega | simp_all)))) (fun A316 i317 j318 f319 g320 g321 g322 => ?_))))
          replace hT := qlc g322 hT
          have f323 := frm_c f1 f319 rfl
          have t324 : A316 0 (fd 27) = B 0 (fd 27) := (frm_f f319 rfl)
          have t325 : A316 0 (fd 28) = B 0 (fd 28) := (frm_f f319 rfl)
          have t326 := ivf_at j318 8 rfl
          have t327 : A316 0 (fd 32) = B 0 (fd 32) := (frm_f f319 rfl)
          have ps328 := (PS_nA c1 g320 (frm_a f319 rfl) (by (first | (clear hm hnf; omega) | omega)) (by (first | (clear hm hnf; omega) | omega)) : PS A316 u0 f b (e - 1) (x - 1))
          have z329 := PS_bd ps328
          have z330 := top_k (A := B) (A' := A316) (frm_a f319 rfl) (by (first | (clear hm hnf; omega) | omega))
          refine fun v331 gv331 e332 => ?_
          replace hT := qlc e332 hT
          have b333 := ivf_at j318 9 rfl
          refine fun v334 e335 => ?_
          replace hT := qlc e335 hT
          refine And.intro (by (first | (clear hm hnf; omega) | omega)) (fun A336 e337 => ?_)
          replace hT := qlc e337 hT
          have i338 := iva_sf i317 e337 rfl
          have j339 := ivf_st j318 e337 (And.intro (by (first | (clear hm hnf; omega) | omega)) trivial)
          have f340 := frm_sf f323 e337 rfl
          have t341 : A336 0 (fd 27) = A316 0 (fd 27) := (st_f e337 rfl)
          have t342 : A336 0 (fd 28) = A316 0 (fd 28) := (st_f e337 rfl)
          have t343 : A336 0 (fd 31) = A316 0 (fd 31) := (st_f e337 rfl)
          have t344 := st_v e337
          have ps345 := (PS_pA ps328 (st_a e337 rfl) (st_a e337 rfl) (by (first | (clear hm hnf; omega) | omega)) (by (first | (clear hm hnf; omega) | omega)) (by (first | (clear hm hnf; omega) | omega)) (by (first | (clear hm hnf; omega) | omega)) : PS A336 u0 f b e x)
          have z346 := PS_bd ps345
          exact Exists.intro (A336 0 (fd 32) : Int).toNat (And.intro (by first | exact qtn hm (by (try clear hm hnf); omega) | omega) (And.intro i338 (And.intro j339 (And.intro f340 (And.intro rfl (And.intro (by (first | (clear hm hnf; omega) | omega)) (And.intro (PS_kA ps345 rfl rfl (by (first | (clear hm hnf; omega) | omega))) (And.intro (by (first | (clear hm hnf; omega) | omega)) (And.intro (by first | exact fun j h0 h1 => h0 | (intro j h0 h1; by_cases hj : j = A 0 (fd 32) - 1; (subst hj; omega); omega) | (intro j h0 h1; have h2 := c3 j h0 h1; rw [← (frm_a f1 (r := 24) rfl)] at h1; by_cases hj : j = B 0 (fd 32) - 1; (subst hj; omega); omega)) (Exists.intro ng (And.intro (by first | exact qtm hm hnf (by (try clear hm hnf); omega) | omega) hT)))))))))))
        · replace hT := (if_pos h310).symm.trans hT
          refine And.intro (fun h347 => ?_) (fun h347 => ?_)
          · replace hT := (if_pos h347).symm.trans hT
            exact hK _ i1 j1 f1 (PS_kA c1 rfl rfl (by (first | (clear hm hnf; omega) | omega))) (by first | assumption | omega | exact fun j h0 h1 => h0) (by first | assumption | omega | exact fun j h0 h1 => h0) (by first | assumption | omega | exact fun j h0 h1 => h0) hT
          · replace hT := (if_neg h347).symm.trans hT
            refine And.intro rfl (And.intro (And.intro i1 j1) (fun r348 g351 g349 g350 => ?_))
            replace hT := qlc g350 hT
            first | (have qq348 : r348 = r306 := g350.trans g308.symm; clear g349) | skip
            refine And.intro (fun h352 => ?_) (fun h352 => ?_)
            · replace hT := (if_pos h352).symm.trans hT
              obtain ⟨hs, hhi⟩ := PS_hiA c1 (by (first | (clear hm hnf; omega) | omega)); (try clear g219); (try clear g307); (try clear g349)
              refine And.intro rfl (And.intro (And.intro i1 j1) (fun r353 g356 g354 g355 => ?_))
              replace hT := qlc g355 hT
              first | (have qq353 : r353 = r348 := g355.trans g350.symm; clear g354) | skip
              have z357 := PS_bd c1
              refine Exists.intro r353 (Exists.intro 0 (And.intro rfl (And.intro (And.intro i1 (And.intro j1 (dqA4 (by (first | (clear hm hnf; omega) | omega)) (by first | assumption | omega | simp_all)))) (fun A358 i359 j360 f361 g362 g363 g364 => ?_))))
              replace hT := qlc g364 hT
              have f365 := frm_c f1 f361 rfl
              have t366 : A358 0 (fd 27) = B 0 (fd 27) := (frm_f f361 rfl)
              have t367 : A358 0 (fd 28) = B 0 (fd 28) := (frm_f f361 rfl)
              have t368 := ivf_at j360 8 rfl
              have t369 : A358 0 (fd 32) = B 0 (fd 32) := (frm_f f361 rfl)
              have ps370 := (PS_nA c1 g362 (frm_a f361 rfl) (by (first | (clear hm hnf; omega) | omega)) (by (first | (clear hm hnf; omega) | omega)) : PS A358 u0 f b (e - 1) (x - 1))
              have z371 := PS_bd ps370
              have z372 := top_k (A := B) (A' := A358) (frm_a f361 rfl) (by (first | (clear hm hnf; omega) | omega))
              refine fun v373 gv373 e374 => ?_
              replace hT := qlc e374 hT
              have b375 := ivf_at j360 9 rfl
              refine fun v376 e377 => ?_
              replace hT := qlc e377 hT
              refine And.intro (by (first | (clear hm hnf; omega) | omega)) (fun A378 e379 => ?_)
              replace hT := qlc e379 hT
              have i380 := iva_sf i359 e379 rfl
              have j381 := ivf_st j360 e379 (And.intro (by (first | (clear hm hnf; omega) | omega)) trivial)
              have f382 := frm_sf f365 e379 rfl
              have t383 : A378 0 (fd 27) = A358 0 (fd 27) := (st_f e379 rfl)
              have t384 : A378 0 (fd 28) = A358 0 (fd 28) := (st_f e379 rfl)
              have t385 : A378 0 (fd 31) = A358 0 (fd 31) := (st_f e379 rfl)
              have t386 := st_v e379
              have ps387 := (PS_pA ps370 (st_a e379 rfl) (st_a e379 rfl) (by (first | (clear hm hnf; omega) | omega)) (by (first | (clear hm hnf; omega) | omega)) (by (first | (clear hm hnf; omega) | omega)) (by (first | (clear hm hnf; omega) | omega)) : PS A378 u0 f b e x)
              have z388 := PS_bd ps387
              exact Exists.intro (A378 0 (fd 32) : Int).toNat (And.intro (by first | exact qtn hm (by (try clear hm hnf); omega) | omega) (And.intro i380 (And.intro j381 (And.intro f382 (And.intro rfl (And.intro (by (first | (clear hm hnf; omega) | omega)) (And.intro (PS_kA ps387 rfl rfl (by (first | (clear hm hnf; omega) | omega))) (And.intro (by (first | (clear hm hnf; omega) | omega)) (And.intro (by first | exact fun j h0 h1 => h0 | (intro j h0 h1; by_cases hj : j = A 0 (fd 32) - 1; (subst hj; omega); omega) | (intro j h0 h1; have h2 := c3 j h0 h1; rw [← (frm_a f1 (r := 24) rfl)] at h1; by_cases hj : j = B 0 (fd 32) - 1; (subst hj; omega); omega)) (Exists.intro ng (And.intro (by first | exact qtm hm hnf (by (try clear hm hnf); omega) | omega) hT)))))))))))
            · replace hT := (if_neg h352).symm.trans hT
              refine And.intro rfl (And.intro (And.intro i1 j1) (fun r389 g392 g390 g391 => ?_))
              replace hT := qlc g391 hT
              first | (have qq389 : r389 = r348 := g391.trans g350.symm; clear g390) | skip
              refine And.intro (fun h393 => ?_) (fun h393 => ?_)
              · replace hT := (if_neg h393).symm.trans hT
                exact hK _ i1 j1 f1 (PS_kA c1 rfl rfl (by (first | (clear hm hnf; omega) | omega))) (by first | assumption | omega | exact fun j h0 h1 => h0) (by first | assumption | omega | exact fun j h0 h1 => h0) (by first | assumption | omega | exact fun j h0 h1 => h0) hT
              · replace hT := (if_pos h393).symm.trans hT
                obtain ⟨hs, hhi⟩ := PS_hiA c1 (by (first | (clear hm hnf; omega) | omega)); (try clear g219); (try clear g307); (try clear g349); (try clear g390)
                refine And.intro rfl (And.intro (And.intro i1 j1) (fun r394 g397 g395 g396 => ?_))
                replace hT := qlc g396 hT
                first | (have qq394 : r394 = r389 := g396.trans g391.symm; clear g395) | skip
                have z398 := PS_bd c1
                refine Exists.intro r394 (Exists.intro 0 (And.intro rfl (And.intro (And.intro i1 (And.intro j1 (dqA4 (by (first | (clear hm hnf; omega) | omega)) (by first | assumption | omega | simp_all)))) (fun A399 i400 j401 f402 g403 g404 g405 => ?_))))
                replace hT := qlc g405 hT
                have f406 := frm_c f1 f402 rfl
                have t407 : A399 0 (fd 27) = B 0 (fd 27) := (frm_f f402 rfl)
                have t408 : A399 0 (fd 28) = B 0 (fd 28) := (frm_f f402 rfl)
                have t409 := ivf_at j401 8 rfl
                have t410 : A399 0 (fd 32) = B 0 (fd 32) := (frm_f f402 rfl)
                have ps411 := (PS_nA c1 g403 (frm_a f402 rfl) (by (first | (clear hm hnf; omega) | omega)) (by (first | (clear hm hnf; omega) | omega)) : PS A399 u0 f b (e - 1) (x - 1))
                have z412 := PS_bd ps411
                have z413 := top_k (A := B) (A' := A399) (frm_a f402 rfl) (by (first | (clear hm hnf; omega) | omega))
                refine fun v414 gv414 e415 => ?_
                replace hT := qlc e415 hT
                have b416 := ivf_at j401 9 rfl
                refine fun v417 e418 => ?_
                replace hT := qlc e418 hT
                refine And.intro (by (first | (clear hm hnf; omega) | omega)) (fun A419 e420 => ?_)
                replace hT := qlc e420 hT
                have i421 := iva_sf i400 e420 rfl
                have j422 := ivf_st j401 e420 (And.intro (by (first | (clear hm hnf; omega) | omega)) trivial)
                have f423 := frm_sf f406 e420 rfl
                have t424 : A419 0 (fd 27) = A399 0 (fd 27) := (st_f e420 rfl)
                have t425 : A419 0 (fd 28) = A399 0 (fd 28) := (st_f e420 rfl)
                have t426 : A419 0 (fd 31) = A399 0 (fd 31) := (st_f e420 rfl)
                have t427 := st_v e420
                have ps428 := (PS_pA ps411 (st_a e420 rfl) (st_a e420 rfl) (by (first | (clear hm hnf; omega) | omega)) (by (first | (clear hm hnf; omega) | omega)) (by (first | (clear hm hnf; omega) | omega)) (by (first | (clear hm hnf; omega) | omega)) : PS A419 u0 f b e x)
                have z429 := PS_bd ps428
                exact Exists.intro (A419 0 (fd 32) : Int).toNat (And.intro (by first | exact qtn hm (by (try clear hm hnf); omega) | omega) (And.intro i421 (And.intro j422 (And.intro f423 (And.intro rfl (And.intro (by (first | (clear hm hnf; omega) | omega)) (And.intro (PS_kA ps428 rfl rfl (by (first | (clear hm hnf; omega) | omega))) (And.intro (by (first | (clear hm hnf; omega) | omega)) (And.intro (by first | exact fun j h0 h1 => h0 | (intro j h0 h1; by_cases hj : j = A 0 (fd 32) - 1; (subst hj; omega); omega) | (intro j h0 h1; have h2 := c3 j h0 h1; rw [← (frm_a f1 (r := 24) rfl)] at h1; by_cases hj : j = B 0 (fd 32) - 1; (subst hj; omega); omega)) (Exists.intro ng (And.intro (by first | exact qtm hm hnf (by (try clear hm hnf); omega) | omega) hT)))))))))))
  · refine And.intro rfl (And.intro (And.intro i0 j0) (fun r6 g9 g7 g8 => ?_))
    replace hT := qlc g8 hT
    skip
    refine And.intro (fun h10 => ?_) (fun h10 => ?_)
    · replace hT := (if_pos h10).symm.trans hT
      refine And.intro (fun h11 => ?_) (fun h11 => ?_)
      · replace hT := (if_pos h11).symm.trans hT
        exact hK _ i0 j0 f0 (PS_kA p3 rfl rfl (by (first | (clear hm hnf; omega) | omega))) (by first | assumption | omega | exact fun j h0 h1 => h0) (by first | assumption | omega | exact fun j h0 h1 => h0) (by first | assumption | omega | exact fun j h0 h1 => h0) hT
      · replace hT := (if_neg h11).symm.trans hT
        refine And.intro rfl (And.intro (And.intro i0 j0) (fun r12 g15 g13 g14 => ?_))
        replace hT := qlc g14 hT
        skip
        refine And.intro (fun h16 => ?_) (fun h16 => ?_)
        · replace hT := (if_pos h16).symm.trans hT
          obtain ⟨hs, hhi⟩ := PS_hiA p3 (by (first | (clear hm hnf; omega) | omega)); (try clear g7); (try clear g13)
          refine And.intro rfl (And.intro (And.intro i0 j0) (fun r17 g20 g18 g19 => ?_))
          replace hT := qlc g19 hT
          skip
          have z21 := PS_bd p3
          refine Exists.intro r17 (Exists.intro 0 (And.intro rfl (And.intro (And.intro i0 (And.intro j0 (dqA4 (by (first | (clear hm hnf; omega) | omega)) (by first | assumption | omega | simp_all)))) (fun A22 i23 j24 f25 g26 g27 g28 => ?_))))
          replace hT := qlc g28 hT
          have f29 := frm_c f0 f25 rfl
          have t30 : A22 0 (fd 27) = A 0 (fd 27) := (frm_f f25 rfl)
          have t31 : A22 0 (fd 28) = A 0 (fd 28) := (frm_f f25 rfl)
          have t32 := ivf_at j24 8 rfl
          have t33 : A22 0 (fd 32) = A 0 (fd 32) := (frm_f f25 rfl)
          have ps34 := (PS_nA p3 g26 (frm_a f25 rfl) (by (first | (clear hm hnf; omega) | omega)) (by (first | (clear hm hnf; omega) | omega)) : PS A22 u0 f b (e - 1) (x - 1))
          have z35 := PS_bd ps34
          have z36 := top_k (A := A) (A' := A22) (frm_a f25 rfl) (by (first | (clear hm hnf; omega) | omega))
          refine fun v37 gv37 e38 => ?_
          replace hT := qlc e38 hT
          have b39 := ivf_at j24 9 rfl
          refine fun v40 e41 => ?_
          replace hT := qlc e41 hT
          refine And.intro (by (first | (clear hm hnf; omega) | omega)) (fun A42 e43 => ?_)
          replace hT := qlc e43 hT
          have i44 := iva_sf i23 e43 rfl
          have j45 := ivf_st j24 e43 (And.intro (by (first | (clear hm hnf; omega) | omega)) trivial)
          have f46 := frm_sf f29 e43 rfl
          have t47 : A42 0 (fd 27) = A22 0 (fd 27) := (st_f e43 rfl)
          have t48 : A42 0 (fd 28) = A22 0 (fd 28) := (st_f e43 rfl)
          have t49 : A42 0 (fd 31) = A22 0 (fd 31) := (st_f e43 rfl)
          have t50 := st_v e43
          have ps51 := (PS_pA ps34 (st_a e43 rfl) (st_a e43 rfl) (by (first | (clear hm hnf; omega) | omega)) (by (first | (clear hm hnf; omega) | omega)) (by (first | (clear hm hnf; omega) | omega)) (by (first | (clear hm hnf; omega) | omega)) : PS A42 u0 f b e x)
          have z52 := PS_bd ps51
          exact Exists.intro (A42 0 (fd 32) : Int).toNat (And.intro i44 (And.intro j45 (And.intro f46 (And.intro rfl (And.intro (by (first | (clear hm hnf; omega) | omega)) (And.intro (PS_kA ps51 rfl rfl (by (first | (clear hm hnf; omega) | omega))) (And.intro (by (first | (clear hm hnf; omega) | omega)) (And.intro (by first | exact fun j h0 h1 => h0 | (intro j h0 h1; by_cases hj : j = A 0 (fd 32) - 1; (subst hj; omega); omega) | (intro j h0 h1; have h2 := hK j h0 h1; rw [← (frm_a f0 (r := 24) rfl)] at h1; by_cases hj : j = B 0 (fd 32) - 1; (subst hj; omega); omega)) (Exists.intro 100000 (And.intro (by (first | (clear hm hnf; omega) | omega)) hT))))))))))
        · replace hT := (if_neg h16).symm.trans hT
          refine And.intro rfl (And.intro (And.intro i0 j0) (fun r53 g56 g54 g55 => ?_))
          replace hT := qlc g55 hT
          first | (have qq53 : r53 = r12 := g55.trans g14.symm; clear g54) | skip
          refine And.intro (fun h57 => ?_) (fun h57 => ?_)
          · replace hT := (if_neg h57).symm.trans hT
            exact hK _ i0 j0 f0 (PS_kA p3 rfl rfl (by (first | (clear hm hnf; omega) | omega))) (by first | assumption | omega | exact fun j h0 h1 => h0) (by first | assumption | omega | exact fun j h0 h1 => h0) (by first | assumption | omega | exact fun j h0 h1 => h0) hT
          · replace hT := (if_pos h57).symm.trans hT
            obtain ⟨hs, hhi⟩ := PS_hiA p3 (by (first | (clear hm hnf; omega) | omega)); (try clear g7); (try clear g13); (try clear g54)
            refine And.intro rfl (And.intro (And.intro i0 j0) (fun r58 g61 g59 g60 => ?_))
            replace hT := qlc g60 hT
            skip
            have z62 := PS_bd p3
            refine Exists.intro r58 (Exists.intro 0 (And.intro rfl (And.intro (And.intro i0 (And.intro j0 (dqA4 (by (first | (clear hm hnf; omega) | omega)) (by first | assumption | omega | simp_all)))) (fun A63 i64 j65 f66 g67 g68 g69 => ?_))))
            replace hT := qlc g69 hT
            have f70 := frm_c f0 f66 rfl
            have t71 : A63 0 (fd 27) = A 0 (fd 27) := (frm_f f66 rfl)
            have t72 : A63 0 (fd 28) = A 0 (fd 28) := (frm_f f66 rfl)
            have t73 := ivf_at j65 8 rfl
            have t74 : A63 0 (fd 32) = A 0 (fd 32) := (frm_f f66 rfl)
            have ps75 := (PS_nA p3 g67 (frm_a f66 rfl) (by (first | (clear hm hnf; omega) | omega)) (by (first | (clear hm hnf; omega) | omega)) : PS A63 u0 f b (e - 1) (x - 1))
            have z76 := PS_bd ps75
            have z77 := top_k (A := A) (A' := A63) (frm_a f66 rfl) (by (first | (clear hm hnf; omega) | omega))
            refine fun v78 gv78 e79 => ?_
            replace hT := qlc e79 hT
            have b80 := ivf_at j65 9 rfl
            refine fun v81 e82 => ?_
            replace hT := qlc e82 hT
            refine And.intro (by (first | (clear hm hnf; omega) | omega)) (fun A83 e84 => ?_)
            replace hT := qlc e84 hT
            have i85 := iva_sf i64 e84 rfl
            have j86 := ivf_st j65 e84 (And.intro (by (first | (clear hm hnf; omega) | omega)) trivial)
            have f87 := frm_sf f70 e84 rfl
            have t88 : A83 0 (fd 27) = A63 0 (fd 27) := (st_f e84 rfl)
            have t89 : A83 0 (fd 28) = A63 0 (fd 28) := (st_f e84 rfl)
            have t90 : A83 0 (fd 31) = A63 0 (fd 31) := (st_f e84 rfl)
            have t91 := st_v e84
            have ps92 := (PS_pA ps75 (st_a e84 rfl) (st_a e84 rfl) (by (first | (clear hm hnf; omega) | omega)) (by (first | (clear hm hnf; omega) | omega)) (by (first | (clear hm hnf; omega) | omega)) (by (first | (clear hm hnf; omega) | omega)) : PS A83 u0 f b e x)
            have z93 := PS_bd ps92
            exact Exists.intro (A83 0 (fd 32) : Int).toNat (And.intro i85 (And.intro j86 (And.intro f87 (And.intro rfl (And.intro (by (first | (clear hm hnf; omega) | omega)) (And.intro (PS_kA ps92 rfl rfl (by (first | (clear hm hnf; omega) | omega))) (And.intro (by (first | (clear hm hnf; omega) | omega)) (And.intro (by first | exact fun j h0 h1 => h0 | (intro j h0 h1; by_cases hj : j = A 0 (fd 32) - 1; (subst hj; omega); omega) | (intro j h0 h1; have h2 := hK j h0 h1; rw [← (frm_a f0 (r := 24) rfl)] at h1; by_cases hj : j = B 0 (fd 32) - 1; (subst hj; omega); omega)) (Exists.intro 100000 (And.intro (by (first | (clear hm hnf; omega) | omega)) hT))))))))))
    · replace hT := (if_neg (Int.not_lt.mpr h10)).symm.trans hT
      refine And.intro rfl (And.intro (And.intro i0 j0) (fun r94 g97 g95 g96 => ?_))
      replace hT := qlc g96 hT
      first | (have qq94 : r94 = r6 := g96.trans g8.symm; clear g95) | skip
      refine And.intro (fun h98 => ?_) (fun h98 => ?_)
      · replace hT := (if_neg (Int.not_lt.mpr h98)).symm.trans hT
        obtain ⟨hs, hhi⟩ := PS_hiA p3 (by (first | (clear hm hnf; omega) | omega)); (try clear g7); (try clear g95)
        refine And.intro rfl (And.intro (And.intro i0 j0) (fun r99 g102 g100 g101 => ?_))
        replace hT := qlc g101 hT
        skip
        have z103 := PS_bd p3
        refine Exists.intro r99 (Exists.intro 0 (And.intro rfl (And.intro (And.intro i0 (And.intro j0 (dqA4 (by (first | (clear hm hnf; omega) | omega)) (by first | assumption | omega | simp_all)))) (fun A104 i105 j106 f107 g108 g109 g110 => ?_))))
        replace hT := qlc g110 hT
        have f111 := frm_c f0 f107 rfl
        have t112 : A104 0 (fd 27) = A 0 (fd 27) := (frm_f f107 rfl)
        have t113 : A104 0 (fd 28) = A 0 (fd 28) := (frm_f f107 rfl)
        have t114 := ivf_at j106 8 rfl
        have t115 : A104 0 (fd 32) = A 0 (fd 32) := (frm_f f107 rfl)
        have ps116 := (PS_nA p3 g108 (frm_a f107 rfl) (by (first | (clear hm hnf; omega) | omega)) (by (first | (clear hm hnf; omega) | omega)) : PS A104 u0 f b (e - 1) (x - 1))
        have z117 := PS_bd ps116
        have z118 := top_k (A := A) (A' := A104) (frm_a f107 rfl) (by (first | (clear hm hnf; omega) | omega))
        refine fun v119 gv119 e120 => ?_
        replace hT := qlc e120 hT
        have b121 := ivf_at j106 9 rfl
        refine fun v122 e123 => ?_
        replace hT := qlc e123 hT
        refine And.intro (by (first | (clear hm hnf; omega) | omega)) (fun A124 e125 => ?_)
        replace hT := qlc e125 hT
        have i126 := iva_sf i105 e125 rfl
        have j127 := ivf_st j106 e125 (And.intro (by (first | (clear hm hnf; omega) | omega)) trivial)
        have f128 := frm_sf f111 e125 rfl
        have t129 : A124 0 (fd 27) = A104 0 (fd 27) := (st_f e125 rfl)
        have t130 : A124 0 (fd 28) = A104 0 (fd 28) := (st_f e125 rfl)
        have t131 : A124 0 (fd 31) = A104 0 (fd 31) := (st_f e125 rfl)
        have t132 := st_v e125
        have ps133 := (PS_pA ps116 (st_a e125 rfl) (st_a e125 rfl) (by (first | (clear hm hnf; omega) | omega)) (by (first | (clear hm hnf; omega) | omega)) (by (first | (clear hm hnf; omega) | omega)) (by (first | (clear hm hnf; omega) | omega)) : PS A124 u0 f b e x)
        have z134 := PS_bd ps133
        exact Exists.intro (A124 0 (fd 32) : Int).toNat (And.intro i126 (And.intro j127 (And.intro f128 (And.intro rfl (And.intro (by (first | (clear hm hnf; omega) | omega)) (And.intro (PS_kA ps133 rfl rfl (by (first | (clear hm hnf; omega) | omega))) (And.intro (by (first | (clear hm hnf; omega) | omega)) (And.intro (by first | exact fun j h0 h1 => h0 | (intro j h0 h1; by_cases hj : j = A 0 (fd 32) - 1; (subst hj; omega); omega) | (intro j h0 h1; have h2 := hK j h0 h1; rw [← (frm_a f0 (r := 24) rfl)] at h1; by_cases hj : j = B 0 (fd 32) - 1; (subst hj; omega); omega)) (Exists.intro 100000 (And.intro (by (first | (clear hm hnf; omega) | omega)) hT))))))))))
      · replace hT := (if_pos h98).symm.trans hT
        refine And.intro (fun h135 => ?_) (fun h135 => ?_)
        · replace hT := (if_pos h135).symm.trans hT
          exact hK _ i0 j0 f0 (PS_kA p3 rfl rfl (by (first | (clear hm hnf; omega) | omega))) (by first | assumption | omega | exact fun j h0 h1 => h0) (by first | assumption | omega | exact fun j h0 h1 => h0) (by first | assumption | omega | exact fun j h0 h1 => h0) hT
        · replace hT := (if_neg h135).symm.trans hT
          refine And.intro rfl (And.intro (And.intro i0 j0) (fun r136 g139 g137 g138 => ?_))
          replace hT := qlc g138 hT
          skip
          refine And.intro (fun h140 => ?_) (fun h140 => ?_)
          · replace hT := (if_pos h140).symm.trans hT
            obtain ⟨hs, hhi⟩ := PS_hiA p3 (by (first | (clear hm hnf; omega) | omega)); (try clear g7); (try clear g95); (try clear g137)
            refine And.intro rfl (And.intro (And.intro i0 j0) (fun r141 g144 g142 g143 => ?_))
            replace hT := qlc g143 hT
            skip
            have z145 := PS_bd p3
            refine Exists.intro r141 (Exists.intro 0 (And.intro rfl (And.intro (And.intro i0 (And.intro j0 (dqA4 (by (first | (clear hm hnf; omega) | omega)) (by first | assumption | omega | simp_all)))) (fun A146 i147 j148 f149 g150 g151 g152 => ?_))))
            replace hT := qlc g152 hT
            have f153 := frm_c f0 f149 rfl
            have t154 : A146 0 (fd 27) = A 0 (fd 27) := (frm_f f149 rfl)
            have t155 : A146 0 (fd 28) = A 0 (fd 28) := (frm_f f149 rfl)
            have t156 := ivf_at j148 8 rfl
            have t157 : A146 0 (fd 32) = A 0 (fd 32) := (frm_f f149 rfl)
            have ps158 := (PS_nA p3 g150 (frm_a f149 rfl) (by (first | (clear hm hnf; omega) | omega)) (by (first | (clear hm hnf; omega) | omega)) : PS A146 u0 f b (e - 1) (x - 1))
            have z159 := PS_bd ps158
            have z160 := top_k (A := A) (A' := A146) (frm_a f149 rfl) (by (first | (clear hm hnf; omega) | omega))
            refine fun v161 gv161 e162 => ?_
            replace hT := qlc e162 hT
            have b163 := ivf_at j148 9 rfl
            refine fun v164 e165 => ?_
            replace hT := qlc e165 hT
            refine And.intro (by (first | (clear hm hnf; omega) | omega)) (fun A166 e167 => ?_)
            replace hT := qlc e167 hT
            have i168 := iva_sf i147 e167 rfl
            have j169 := ivf_st j148 e167 (And.intro (by (first | (clear hm hnf; omega) | omega)) trivial)
            have f170 := frm_sf f153 e167 rfl
            have t171 : A166 0 (fd 27) = A146 0 (fd 27) := (st_f e167 rfl)
            have t172 : A166 0 (fd 28) = A146 0 (fd 28) := (st_f e167 rfl)
            have t173 : A166 0 (fd 31) = A146 0 (fd 31) := (st_f e167 rfl)
            have t174 := st_v e167
            have ps175 := (PS_pA ps158 (st_a e167 rfl) (st_a e167 rfl) (by (first | (clear hm hnf; omega) | omega)) (by (first | (clear hm hnf; omega) | omega)) (by (first | (clear hm hnf; omega) | omega)) (by (first | (clear hm hnf; omega) | omega)) : PS A166 u0 f b e x)
            have z176 := PS_bd ps175
            exact Exists.intro (A166 0 (fd 32) : Int).toNat (And.intro i168 (And.intro j169 (And.intro f170 (And.intro rfl (And.intro (by (first | (clear hm hnf; omega) | omega)) (And.intro (PS_kA ps175 rfl rfl (by (first | (clear hm hnf; omega) | omega))) (And.intro (by (first | (clear hm hnf; omega) | omega)) (And.intro (by first | exact fun j h0 h1 => h0 | (intro j h0 h1; by_cases hj : j = A 0 (fd 32) - 1; (subst hj; omega); omega) | (intro j h0 h1; have h2 := hK j h0 h1; rw [← (frm_a f0 (r := 24) rfl)] at h1; by_cases hj : j = B 0 (fd 32) - 1; (subst hj; omega); omega)) (Exists.intro 100000 (And.intro (by (first | (clear hm hnf; omega) | omega)) hT))))))))))
          · replace hT := (if_neg h140).symm.trans hT
            refine And.intro rfl (And.intro (And.intro i0 j0) (fun r177 g180 g178 g179 => ?_))
            replace hT := qlc g179 hT
            first | (have qq177 : r177 = r136 := g179.trans g138.symm; clear g178) | skip
            refine And.intro (fun h181 => ?_) (fun h181 => ?_)
            · replace hT := (if_neg h181).symm.trans hT
              exact hK _ i0 j0 f0 (PS_kA p3 rfl rfl (by (first | (clear hm hnf; omega) | omega))) (by first | assumption | omega | exact fun j h0 h1 => h0) (by first | assumption | omega | exact fun j h0 h1 => h0) (by first | assumption | omega | exact fun j h0 h1 => h0) hT
            · replace hT := (if_pos h181).symm.trans hT
              obtain ⟨hs, hhi⟩ := PS_hiA p3 (by (first | (clear hm hnf; omega) | omega)); (try clear g7); (try clear g95); (try clear g137); (try clear g178)
              refine And.intro rfl (And.intro (And.intro i0 j0) (fun r182 g185 g183 g184 => ?_))
              replace hT := qlc g184 hT
              first | (have qq182 : r182 = r177 := g184.trans g179.symm; clear g183) | skip
              have z186 := PS_bd p3
              refine Exists.intro r182 (Exists.intro 0 (And.intro rfl (And.intro (And.intro i0 (And.intro j0 (dqA4 (by (first | (clear hm hnf; omega) | omega)) (by first | assumption | omega | simp_all)))) (fun A187 i188 j189 f190 g191 g192 g193 => ?_))))
              replace hT := qlc g193 hT
              have f194 := frm_c f0 f190 rfl
              have t195 : A187 0 (fd 27) = A 0 (fd 27) := (frm_f f190 rfl)
              have t196 : A187 0 (fd 28) = A 0 (fd 28) := (frm_f f190 rfl)
              have t197 := ivf_at j189 8 rfl
              have t198 : A187 0 (fd 32) = A 0 (fd 32) := (frm_f f190 rfl)
              have ps199 := (PS_nA p3 g191 (frm_a f190 rfl) (by (first | (clear hm hnf; omega) | omega)) (by (first | (clear hm hnf; omega) | omega)) : PS A187 u0 f b (e - 1) (x - 1))
              have z200 := PS_bd ps199
              have z201 := top_k (A := A) (A' := A187) (frm_a f190 rfl) (by (first | (clear hm hnf; omega) | omega))
              refine fun v202 gv202 e203 => ?_
              replace hT := qlc e203 hT
              have b204 := ivf_at j189 9 rfl
              refine fun v205 e206 => ?_
              replace hT := qlc e206 hT
              refine And.intro (by (first | (clear hm hnf; omega) | omega)) (fun A207 e208 => ?_)
              replace hT := qlc e208 hT
              have i209 := iva_sf i188 e208 rfl
              have j210 := ivf_st j189 e208 (And.intro (by (first | (clear hm hnf; omega) | omega)) trivial)
              have f211 := frm_sf f194 e208 rfl
              have t212 : A207 0 (fd 27) = A187 0 (fd 27) := (st_f e208 rfl)
              have t213 : A207 0 (fd 28) = A187 0 (fd 28) := (st_f e208 rfl)
              have t214 : A207 0 (fd 31) = A187 0 (fd 31) := (st_f e208 rfl)
              have t215 := st_v e208
              have ps216 := (PS_pA ps199 (st_a e208 rfl) (st_a e208 rfl) (by (first | (clear hm hnf; omega) | omega)) (by (first | (clear hm hnf; omega) | omega)) (by (first | (clear hm hnf; omega) | omega)) (by (first | (clear hm hnf; omega) | omega)) : PS A207 u0 f b e x)
              have z217 := PS_bd ps216
              exact Exists.intro (A207 0 (fd 32) : Int).toNat (And.intro i209 (And.intro j210 (And.intro f211 (And.intro rfl (And.intro (by (first | (clear hm hnf; omega) | omega)) (And.intro (PS_kA ps216 rfl rfl (by (first | (clear hm hnf; omega) | omega))) (And.intro (by (first | (clear hm hnf; omega) | omega)) (And.intro (by first | exact fun j h0 h1 => h0 | (intro j h0 h1; by_cases hj : j = A 0 (fd 32) - 1; (subst hj; omega); omega) | (intro j h0 h1; have h2 := hK j h0 h1; rw [← (frm_a f0 (r := 24) rfl)] at h1; by_cases hj : j = B 0 (fd 32) - 1; (subst hj; omega); omega)) (Exists.intro 100000 (And.intro (by (first | (clear hm hnf; omega) | omega)) hT))))))))))
def fM_readsFactor_c0 (rec : Nat → List Int → qA → Int × qA) (B : qA) : Int × qA := qlet (fM_here B) fun r132 => (if r132 = 91 then qlp (fM_opens 14 B) fun r246 A242 => (if r246 = 0 then (0, A242) else rec 0 [] A242) else qlet (fM_isDigit B) fun r139 => (if r139 = 0 then qlet (fM_here B) fun r146 => qlet (fM_factOf r146 B) fun r152 => (if r152 = (-1) then qlet (B 0 (fd 27)) fun v190 => qlet (fM_wrongAt 1 v190 B) fun A193 => (0, A193) else qlet (fM_notes 1 r152 B) fun A159 => qlet (A159 0 (fd 27)) fun v172 => qlet (v172 + 1) fun v175 => qlet (qu A159 0 (fd 27) v175) fun A177 => (1, A177)) else qlp (fM_readsNumber B) fun r209 A205 => (if r209 = 0 then (0, A205) else qlet (A205 0 (fd 34)) fun v222 => qlet (fM_notes 0 v222 A205) fun A225 => (1, A225))))
def fM_readsFactor_L : Nat → Nat → List Int → qA → Int × qA
  | 0 => fun _ _ B => (0, B)
  | nF + 1 => fun k zs B => bif Nat.beq k 0 then (match zs with | [] => fM_readsFactor_c0 (fM_readsFactor_L nF)  B | _ => (0, B)) else (0, B)
theorem fM_readsFactor_L0 (nF : Nat) (B : qA) : fM_readsFactor_L (nF + 1) 0 [] B = fM_readsFactor_c0 (fM_readsFactor_L nF)  B := (congrFun (congrFun (congrFun (fM_readsFactor_L.eq_2 nF) 0) []) B).trans (qL1 rfl rfl)
def fM_readsFactor (A : qA) : Int × qA := qlet (fM_here A) fun r3 => (if r3 = 91 then qlp (fM_opens 14 A) fun r117 A113 => (if r117 = 0 then (0, A113) else (fM_readsFactor_L 100000) 0 [] A113) else qlet (fM_isDigit A) fun r10 => (if r10 = 0 then qlet (fM_here A) fun r17 => qlet (fM_factOf r17 A) fun r23 => (if r23 = (-1) then qlet (A 0 (fd 27)) fun v61 => qlet (fM_wrongAt 1 v61 A) fun A64 => (0, A64) else qlet (fM_notes 1 r23 A) fun A30 => qlet (A30 0 (fd 27)) fun v43 => qlet (v43 + 1) fun v46 => qlet (qu A30 0 (fd 27) v46) fun A48 => (1, A48)) else qlp (fM_readsNumber A) fun r80 A76 => (if r80 = 0 then (0, A76) else qlet (A76 0 (fd 34)) fun v93 => qlet (fM_notes 0 v93 A76) fun A96 => (1, A96))))
def sM_readsFactor : qS := fun as A K => ∃ u0 : Int → Int, ∃ f : Int, ∃ b : Int, ∃ e : Int, ∃ x : Int, as = [rf 0] ∧ (iva IM A ∧ ivf JM A ∧ (PS A u0 f b e x) ∧ (0 ≤ x)) ∧ (∀ A' : qA, iva IM A' → ivf JM A' → frm [23, 24] [(0, 27), (0, 29), (0, 30), (0, 31), (0, 32), (0, 34)] A A' → ∀ r : Int, 0 ≤ r → r ≤ 1 → (r = 0 ∨ PS A' u0 f b (e + 1) x) → (r = 0 ∨ A 0 (fd 27) < A' 0 (fd 27)) → (r = (fM_readsFactor A).1) → (A' = (fM_readsFactor A).2) → K (some (ni r)) A')
theorem okM_readsFactor : okM LM 4 173 sM_readsFactor := by
  refine qmeth [] false [(162, sM_here), (163, sM_isDigit), (170, sM_factOf), (167, sM_notes), (164, sM_wrongAt), (166, sM_readsNumber), (168, sM_opens)] 56 rfl ⟨okM_here.le (by decide), ⟨okM_isDigit.le (by decide), ⟨okM_factOf.le (by decide), ⟨okM_notes.le (by decide), ⟨okM_wrongAt.le (by decide), ⟨okM_readsNumber.le (by decide), ⟨okM_opens.le (by decide), trivial⟩⟩⟩⟩⟩⟩⟩ ?_
  rintro _ A K hA has ⟨u0, f, b, e, x, rfl, ⟨i0, j0, p1, p2⟩, hK⟩
  have f0 := frm_0 [23, 24] [(0, 27), (0, 29), (0, 30), (0, 31), (0, 32), (0, 34)] A
  have hb_0_27 := ivf_at j0 6 rfl
  have hb_0_28 := ivf_at j0 7 rfl
  have hb_0_31 := ivf_at j0 8 rfl
  have hb_0_32 := ivf_at j0 9 rfl
  have hT : _ = fM_readsFactor A := (fM_readsFactor.eq_1 A).symm
  refine ⟨Nat.le_of_ble_eq_true rfl, [(0, [(0, 2, 0)], fun zs B nn => match zs with | [] => iva IM B ∧ ivf JM B ∧ frm [23, 24] [(0, 27), (0, 29), (0, 30), (0, 31), (0, 32), (0, 34)] A B ∧ nn = (200 - B 0 (fd 27) : Int).toNat ∧ (PS B u0 f b e x) ∧ (A 0 (fd 27) ≤ B 0 (fd 27)) ∧ (∃ nf : Nat, nn < nf ∧ fM_readsFactor_L nf 0 [] B = fM_readsFactor A) | _ => False)], ?_, ?_⟩
  · refine ⟨⟨rfl, ?_⟩, trivial⟩
    · refine fun  B mm hB hz hI => ?_
      obtain ⟨i1, j1, f1, hm, c0, c1, ⟨nf, hnf, hT⟩⟩ := hI
      obtain ⟨ng, rfl⟩ : ∃ k, nf = k + 1 := ⟨nf - 1, by omega⟩
      replace hT := (fM_readsFactor_c0.eq_1 (fM_readsFactor_L ng) B).symm.trans ((fM_readsFactor_L0 ng B).symm.trans hT)
      have hc_0_27 := ivf_at j1 6 rfl
      have hc_0_28 := ivf_at j1 7 rfl
      have hc_0_31 := ivf_at j1 8 rfl
      have hc_0_32 := ivf_at j1 9 rfl
      refine And.intro rfl (And.intro (And.intro i1 j1) (fun r132 g136 g137 g133 g134 g135 => ?_))
      replace hT := qlc g135 hT
      clear g135
      refine And.intro (fun h138 => ?_) (fun h138 => ?_)
      · replace hT := (if_neg h138).symm.trans hT
        refine And.intro rfl (And.intro (And.intro i1 j1) (fun r139 g143 g144 g140 g141 g142 => ?_))
        replace hT := qlc g142 hT
        clear g142
        refine And.intro (fun h145 => ?_) (fun h145 => ?_)
        · replace hT := (if_pos h145).symm.trans hT
          refine And.intro rfl (And.intro (And.intro i1 j1) (fun r146 g150 g151 g147 g148 g149 => ?_))
          replace hT := qlc g149 hT
          clear g149
          refine Exists.intro r146 (And.intro rfl (fun r152 g155 g156 g153 g154 => ?_))
          replace hT := qlc g154 hT
          clear g154
          refine And.intro (fun h157 => ?_) (fun h157 => ?_)
          · replace hT := (if_neg h157).symm.trans hT
            have z158 := PS_bd c0
            refine Exists.intro 1 (Exists.intro r152 (And.intro rfl (And.intro (And.intro i1 (And.intro j1 (dqA4 (by (first | (clear hm hnf; omega) | omega)) (by first | assumption | omega | simp_all)))) (fun A159 i160 j161 f162 g163 g164 g165 => ?_))))
            replace hT := qlc g165 hT
            have f166 := frm_c f1 f162 rfl
            have t167 : A159 0 (fd 27) = B 0 (fd 27) := (frm_f f162 rfl)
            have t168 : A159 0 (fd 28) = B 0 (fd 28) := (frm_f f162 rfl)
            have t169 := ivf_at j161 8 rfl
            have t170 : A159 0 (fd 32) = B 0 (fd 32) := (frm_f f162 rfl)
            have t171 : A159 0 (fd 34) = B 0 (fd 34) := (frm_f f162 rfl)
            refine fun v172 gv172 e173 => ?_
            replace hT := qlc e173 hT
            have b174 := ivf_at j161 6 rfl
            refine fun v175 e176 => ?_
            replace hT := qlc e176 hT
            refine And.intro (by (first | (clear hm hnf; omega) | omega)) (fun A177 e178 => ?_)
            replace hT := qlc e178 hT
            have i179 := iva_sf i160 e178 rfl
            have j180 := ivf_st j161 e178 (And.intro (by (first | (clear hm hnf; omega) | omega)) trivial)
            have f181 := frm_sf f166 e178 rfl
            have t182 := st_v e178
            have t183 : A177 0 (fd 28) = A159 0 (fd 28) := (st_f e178 rfl)
            have t184 : A177 0 (fd 31) = A159 0 (fd 31) := (st_f e178 rfl)
            have t185 : A177 0 (fd 32) = A159 0 (fd 32) := (st_f e178 rfl)
            have t186 : A177 0 (fd 34) = A159 0 (fd 34) := (st_f e178 rfl)
            have ps187 := (PS_nA c0 (Eq.trans (st_a e178 rfl) g163) (Eq.trans (st_a e178 rfl) (frm_a f162 rfl)) (by (first | (clear hm hnf; omega) | omega)) (by (first | (clear hm hnf; omega) | omega)) : PS A177 u0 f b (e + 1) x)
            have z188 := PS_bd ps187
            have z189 := top_k (A := B) (A' := A177) (Eq.trans (st_a e178 rfl) (frm_a f162 rfl)) (by (first | (clear hm hnf; omega) | omega))
            exact And.intro (by (first | (clear hm hnf; omega) | omega)) (hK _ i179 j180 f181 _ (by (first | (clear hm hnf; omega) | omega)) (by (first | (clear hm hnf; omega) | omega)) (Or.inr (PS_kA ps187 rfl rfl (by (first | (clear hm hnf; omega) | omega)))) (by first | assumption | omega | simp_all) (congrArg Prod.fst hT) (congrArg Prod.snd hT))
          · replace hT := (if_pos h157).symm.trans hT
            refine fun v190 gv190 e191 => ?_
            replace hT := qlc e191 hT
            have b192 := ivf_at j1 6 rfl
            refine Exists.intro 1 (Exists.intro v190 (And.intro rfl (And.intro (And.intro i1 (And.intro j1 (dqA3 (by (first | (clear hm hnf; omega) | omega)) (by (first | (clear hm hnf; omega) | omega))))) (fun A193 i194 j195 f196 g197 => (fun h198 => ?_)))))
            · replace hT := qlc g197 hT
              have f199 := frm_c f1 f196 rfl
              have t200 : A193 0 (fd 27) = B 0 (fd 27) := (frm_f f196 rfl)
              have t201 : A193 0 (fd 28) = B 0 (fd 28) := (frm_f f196 rfl)
              have t202 : A193 0 (fd 31) = B 0 (fd 31) := (frm_f f196 rfl)
              have t203 : A193 0 (fd 32) = B 0 (fd 32) := (frm_f f196 rfl)
              have t204 : A193 0 (fd 34) = B 0 (fd 34) := (frm_f f196 rfl)
              exact And.intro (by (first | (clear hm hnf; omega) | omega)) (hK _ i194 j195 f199 _ (by (first | (clear hm hnf; omega) | omega)) (by (first | (clear hm hnf; omega) | omega)) (Or.inl rfl) (by first | assumption | omega | simp_all) (congrArg Prod.fst hT) (congrArg Prod.snd hT))
        · replace hT := (if_neg h145).symm.trans hT
          refine And.intro rfl (And.intro (And.intro i1 (And.intro j1 (And.intro (by first | assumption | omega | simp_all) (by first | assumption | omega | simp_all)))) (fun A205 i206 j207 f208 r209 g214 g215 g210 g211 g212 g213 => ?_))
          replace hT := qlpc g212 g213 hT
          clear g212 g213
          have f216 := frm_c f1 f208 rfl
          have t217 := ivf_at j207 6 rfl
          have t218 : A205 0 (fd 28) = B 0 (fd 28) := (frm_f f208 rfl)
          have t219 : A205 0 (fd 31) = B 0 (fd 31) := (frm_f f208 rfl)
          have t220 : A205 0 (fd 32) = B 0 (fd 32) := (frm_f f208 rfl)
          refine And.intro (fun h221 => ?_) (fun h221 => ?_)
          · replace hT := (if_neg h221).symm.trans hT
            refine fun v222 gv222 e223 => ?_
            replace hT := qlc e223 hT
            have z224 := PS_bd c0
            refine Exists.intro 0 (Exists.intro v222 (And.intro rfl (And.intro (And.intro i206 (And.intro j207 (dqA4 (by (first | (clear hm hnf; omega) | omega)) (by first | assumption | omega | simp_all)))) (fun A225 i226 j227 f228 g229 g230 g231 => ?_))))
            replace hT := qlc g231 hT
            have f232 := frm_c f216 f228 rfl
            have t233 : A225 0 (fd 27) = A205 0 (fd 27) := (frm_f f228 rfl)
            have t234 : A225 0 (fd 28) = A205 0 (fd 28) := (frm_f f228 rfl)
            have t235 := ivf_at j227 8 rfl
            have t236 : A225 0 (fd 32) = A205 0 (fd 32) := (frm_f f228 rfl)
            have t237 : A225 0 (fd 34) = A205 0 (fd 34) := (frm_f f228 rfl)
            have ps238 := (PS_n c0 (Eq.trans g229 (cu (frm_a f208 rfl))) (Eq.trans (frm_a f228 rfl) (frm_a f208 rfl)) (by (first | (clear hm hnf; omega) | omega)) (by (first | (clear hm hnf; omega) | omega)) (by (first | (clear hm hnf; omega) | omega)) (by (first | (clear hm hnf; omega) | omega)) (by (first | (clear hm hnf; omega) | omega)) (by (first | (clear hm hnf; omega) | omega)) (by (first | (clear hm hnf; omega) | omega)) : PS A225 u0 f b (e + 1) x)
            have z239 := PS_bd ps238
            have z240 := top_k (A := B) (A' := A225) (Eq.trans (frm_a f228 rfl) (frm_a f208 rfl)) (by (first | (clear hm hnf; omega) | omega))
            exact And.intro (by (first | (clear hm hnf; omega) | omega)) (hK _ i226 j227 f232 _ (by (first | (clear hm hnf; omega) | omega)) (by (first | (clear hm hnf; omega) | omega)) (Or.inr (PS_kA ps238 rfl rfl (by (first | (clear hm hnf; omega) | omega)))) (by first | assumption | omega | simp_all) (congrArg Prod.fst hT) (congrArg Prod.snd hT))
          · replace hT := (if_pos h221).symm.trans hT
            exact And.intro (by (first | (clear hm hnf; omega) | omega)) (hK _ i206 j207 f216 _ (by (first | (clear hm hnf; omega) | omega)) (by (first | (clear hm hnf; omega) | omega)) (Or.inl rfl) (by first | assumption | omega | simp_all) (congrArg Prod.fst hT) (congrArg Prod.snd hT))
      · replace hT := (if_pos h138).symm.trans hT
        have z241 := PS_bd c0
        refine Exists.intro 14 (And.intro rfl (And.intro (And.intro i1 (And.intro j1 (dqA2 (by (first | (clear hm hnf; omega) | omega)) (And.intro (by first | assumption | omega | simp_all) (by first | assumption | omega | simp_all))))) (fun A242 i243 j244 f245 r246 g252 g253 g247 g248 g249 g250 g251 => ?_)))
        replace hT := qlpc g250 g251 hT
        clear g250 g251
        have f254 := frm_c f1 f245 rfl
        have t255 := ivf_at j244 6 rfl
        have t256 : A242 0 (fd 28) = B 0 (fd 28) := (frm_f f245 rfl)
        have t257 : A242 0 (fd 31) = B 0 (fd 31) := (frm_f f245 rfl)
        have t258 := ivf_at j244 9 rfl
        have t259 : A242 0 (fd 34) = B 0 (fd 34) := (frm_f f245 rfl)
        refine And.intro (fun h260 => ?_) (fun h260 => ?_)
        · replace hT := (if_neg h260).symm.trans hT
          exact Exists.intro (200 - A242 0 (fd 27) : Int).toNat (And.intro (by first | exact qtn hm (by (try clear hm hnf); omega) | omega) (And.intro i243 (And.intro j244 (And.intro f254 (And.intro rfl (And.intro (PS_k (PS_q c0 (frm_a f245 rfl) (Or.resolve_left g247 (by (first | (clear hm hnf; omega) | omega))) (by (first | (clear hm hnf; omega) | omega)) (by (first | (clear hm hnf; omega) | omega)) (by (first | (clear hm hnf; omega) | omega)) (by (first | (clear hm hnf; omega) | omega)) (by (first | (clear hm hnf; omega) | omega)) (by (first | (clear hm hnf; omega) | omega)) : PS A242 u0 f b e x) rfl rfl (by (first | (clear hm hnf; omega) | omega)) (by (first | (clear hm hnf; omega) | omega)) (by (first | (clear hm hnf; omega) | omega)) (by (first | (clear hm hnf; omega) | omega)) (by (first | (clear hm hnf; omega) | omega)) (by (first | (clear hm hnf; omega) | omega))) (And.intro (by (first | (clear hm hnf; omega) | omega)) (Exists.intro ng (And.intro (by first | exact qtm hm hnf (by (try clear hm hnf); omega) | omega) hT)))))))))
        · replace hT := (if_pos h260).symm.trans hT
          exact And.intro (by (first | (clear hm hnf; omega) | omega)) (hK _ i243 j244 f254 _ (by (first | (clear hm hnf; omega) | omega)) (by (first | (clear hm hnf; omega) | omega)) (Or.inl rfl) (by first | assumption | omega | simp_all) (congrArg Prod.fst hT) (congrArg Prod.snd hT))
  · refine And.intro rfl (And.intro (And.intro i0 j0) (fun r3 g7 g8 g4 g5 g6 => ?_))
    replace hT := qlc g6 hT
    clear g6
    refine And.intro (fun h9 => ?_) (fun h9 => ?_)
    · replace hT := (if_neg h9).symm.trans hT
      refine And.intro rfl (And.intro (And.intro i0 j0) (fun r10 g14 g15 g11 g12 g13 => ?_))
      replace hT := qlc g13 hT
      clear g13
      refine And.intro (fun h16 => ?_) (fun h16 => ?_)
      · replace hT := (if_pos h16).symm.trans hT
        refine And.intro rfl (And.intro (And.intro i0 j0) (fun r17 g21 g22 g18 g19 g20 => ?_))
        replace hT := qlc g20 hT
        clear g20
        refine Exists.intro r17 (And.intro rfl (fun r23 g26 g27 g24 g25 => ?_))
        replace hT := qlc g25 hT
        clear g25
        refine And.intro (fun h28 => ?_) (fun h28 => ?_)
        · replace hT := (if_neg h28).symm.trans hT
          have z29 := PS_bd p1
          refine Exists.intro 1 (Exists.intro r23 (And.intro rfl (And.intro (And.intro i0 (And.intro j0 (dqA4 (by (first | (clear hm hnf; omega) | omega)) (by first | assumption | omega | simp_all)))) (fun A30 i31 j32 f33 g34 g35 g36 => ?_))))
          replace hT := qlc g36 hT
          have f37 := frm_c f0 f33 rfl
          have t38 : A30 0 (fd 27) = A 0 (fd 27) := (frm_f f33 rfl)
          have t39 : A30 0 (fd 28) = A 0 (fd 28) := (frm_f f33 rfl)
          have t40 := ivf_at j32 8 rfl
          have t41 : A30 0 (fd 32) = A 0 (fd 32) := (frm_f f33 rfl)
          have t42 : A30 0 (fd 34) = A 0 (fd 34) := (frm_f f33 rfl)
          refine fun v43 gv43 e44 => ?_
          replace hT := qlc e44 hT
          have b45 := ivf_at j32 6 rfl
          refine fun v46 e47 => ?_
          replace hT := qlc e47 hT
          refine And.intro (by (first | (clear hm hnf; omega) | omega)) (fun A48 e49 => ?_)
          replace hT := qlc e49 hT
          have i50 := iva_sf i31 e49 rfl
          have j51 := ivf_st j32 e49 (And.intro (by (first | (clear hm hnf; omega) | omega)) trivial)
          have f52 := frm_sf f37 e49 rfl
          have t53 := st_v e49
          have t54 : A48 0 (fd 28) = A30 0 (fd 28) := (st_f e49 rfl)
          have t55 : A48 0 (fd 31) = A30 0 (fd 31) := (st_f e49 rfl)
          have t56 : A48 0 (fd 32) = A30 0 (fd 32) := (st_f e49 rfl)
          have t57 : A48 0 (fd 34) = A30 0 (fd 34) := (st_f e49 rfl)
          have ps58 := (PS_nA p1 (Eq.trans (st_a e49 rfl) g34) (Eq.trans (st_a e49 rfl) (frm_a f33 rfl)) (by (first | (clear hm hnf; omega) | omega)) (by (first | (clear hm hnf; omega) | omega)) : PS A48 u0 f b (e + 1) x)
          have z59 := PS_bd ps58
          have z60 := top_k (A := A) (A' := A48) (Eq.trans (st_a e49 rfl) (frm_a f33 rfl)) (by (first | (clear hm hnf; omega) | omega))
          exact And.intro (by (first | (clear hm hnf; omega) | omega)) (hK _ i50 j51 f52 _ (by (first | (clear hm hnf; omega) | omega)) (by (first | (clear hm hnf; omega) | omega)) (Or.inr (PS_kA ps58 rfl rfl (by (first | (clear hm hnf; omega) | omega)))) (by first | assumption | omega | simp_all) (congrArg Prod.fst hT) (congrArg Prod.snd hT))
        · replace hT := (if_pos h28).symm.trans hT
          refine fun v61 gv61 e62 => ?_
          replace hT := qlc e62 hT
          have b63 := ivf_at j0 6 rfl
          refine Exists.intro 1 (Exists.intro v61 (And.intro rfl (And.intro (And.intro i0 (And.intro j0 (dqA3 (by (first | (clear hm hnf; omega) | omega)) (by (first | (clear hm hnf; omega) | omega))))) (fun A64 i65 j66 f67 g68 => (fun h69 => ?_)))))
          · replace hT := qlc g68 hT
            have f70 := frm_c f0 f67 rfl
            have t71 : A64 0 (fd 27) = A 0 (fd 27) := (frm_f f67 rfl)
            have t72 : A64 0 (fd 28) = A 0 (fd 28) := (frm_f f67 rfl)
            have t73 : A64 0 (fd 31) = A 0 (fd 31) := (frm_f f67 rfl)
            have t74 : A64 0 (fd 32) = A 0 (fd 32) := (frm_f f67 rfl)
            have t75 : A64 0 (fd 34) = A 0 (fd 34) := (frm_f f67 rfl)
            exact And.intro (by (first | (clear hm hnf; omega) | omega)) (hK _ i65 j66 f70 _ (by (first | (clear hm hnf; omega) | omega)) (by (first | (clear hm hnf; omega) | omega)) (Or.inl rfl) (by first | assumption | omega | simp_all) (congrArg Prod.fst hT) (congrArg Prod.snd hT))
      · replace hT := (if_neg h16).symm.trans hT
        refine And.intro rfl (And.intro (And.intro i0 (And.intro j0 (And.intro (by first | assumption | omega | simp_all) (by first | assumption | omega | simp_all)))) (fun A76 i77 j78 f79 r80 g85 g86 g81 g82 g83 g84 => ?_))
        replace hT := qlpc g83 g84 hT
        clear g83 g84
        have f87 := frm_c f0 f79 rfl
        have t88 := ivf_at j78 6 rfl
        have t89 : A76 0 (fd 28) = A 0 (fd 28) := (frm_f f79 rfl)
        have t90 : A76 0 (fd 31) = A 0 (fd 31) := (frm_f f79 rfl)
        have t91 : A76 0 (fd 32) = A 0 (fd 32) := (frm_f f79 rfl)
        refine And.intro (fun h92 => ?_) (fun h92 => ?_)
        · replace hT := (if_neg h92).symm.trans hT
          refine fun v93 gv93 e94 => ?_
          replace hT := qlc e94 hT
          have z95 := PS_bd p1
          refine Exists.intro 0 (Exists.intro v93 (And.intro rfl (And.intro (And.intro i77 (And.intro j78 (dqA4 (by (first | (clear hm hnf; omega) | omega)) (by first | assumption | omega | simp_all)))) (fun A96 i97 j98 f99 g100 g101 g102 => ?_))))
          replace hT := qlc g102 hT
          have f103 := frm_c f87 f99 rfl
          have t104 : A96 0 (fd 27) = A76 0 (fd 27) := (frm_f f99 rfl)
          have t105 : A96 0 (fd 28) = A76 0 (fd 28) := (frm_f f99 rfl)
          have t106 := ivf_at j98 8 rfl
          have t107 : A96 0 (fd 32) = A76 0 (fd 32) := (frm_f f99 rfl)
          have t108 : A96 0 (fd 34) = A76 0 (fd 34) := (frm_f f99 rfl)
          have ps109 := (PS_n p1 (Eq.trans g100 (cu (frm_a f79 rfl))) (Eq.trans (frm_a f99 rfl) (frm_a f79 rfl)) (by (first | (clear hm hnf; omega) | omega)) (by (first | (clear hm hnf; omega) | omega)) (by (first | (clear hm hnf; omega) | omega)) (by (first | (clear hm hnf; omega) | omega)) (by (first | (clear hm hnf; omega) | omega)) (by (first | (clear hm hnf; omega) | omega)) (by (first | (clear hm hnf; omega) | omega)) : PS A96 u0 f b (e + 1) x)
          have z110 := PS_bd ps109
          have z111 := top_k (A := A) (A' := A96) (Eq.trans (frm_a f99 rfl) (frm_a f79 rfl)) (by (first | (clear hm hnf; omega) | omega))
          exact And.intro (by (first | (clear hm hnf; omega) | omega)) (hK _ i97 j98 f103 _ (by (first | (clear hm hnf; omega) | omega)) (by (first | (clear hm hnf; omega) | omega)) (Or.inr (PS_kA ps109 rfl rfl (by (first | (clear hm hnf; omega) | omega)))) (by first | assumption | omega | simp_all) (congrArg Prod.fst hT) (congrArg Prod.snd hT))
        · replace hT := (if_pos h92).symm.trans hT
          exact And.intro (by (first | (clear hm hnf; omega) | omega)) (hK _ i77 j78 f87 _ (by (first | (clear hm hnf; omega) | omega)) (by (first | (clear hm hnf; omega) | omega)) (Or.inl rfl) (by first | assumption | omega | simp_all) (congrArg Prod.fst hT) (congrArg Prod.snd hT))
    · replace hT := (if_pos h9).symm.trans hT
      have z112 := PS_bd p1
      refine Exists.intro 14 (And.intro rfl (And.intro (And.intro i0 (And.intro j0 (dqA2 (by (first | (clear hm hnf; omega) | omega)) (And.intro (by first | assumption | omega | simp_all) (by first | assumption | omega | simp_all))))) (fun A113 i114 j115 f116 r117 g123 g124 g118 g119 g120 g121 g122 => ?_)))
      replace hT := qlpc g121 g122 hT
      clear g121 g122
      have f125 := frm_c f0 f116 rfl
      have t126 := ivf_at j115 6 rfl
      have t127 : A113 0 (fd 28) = A 0 (fd 28) := (frm_f f116 rfl)
      have t128 : A113 0 (fd 31) = A 0 (fd 31) := (frm_f f116 rfl)
      have t129 := ivf_at j115 9 rfl
      have t130 : A113 0 (fd 34) = A 0 (fd 34) := (frm_f f116 rfl)
      refine And.intro (fun h131 => ?_) (fun h131 => ?_)
      · replace hT := (if_neg h131).symm.trans hT
        exact Exists.intro (200 - A113 0 (fd 27) : Int).toNat (And.intro i114 (And.intro j115 (And.intro f125 (And.intro rfl (And.intro (PS_k (PS_q p1 (frm_a f116 rfl) (Or.resolve_left g118 (by (first | (clear hm hnf; omega) | omega))) (by (first | (clear hm hnf; omega) | omega)) (by (first | (clear hm hnf; omega) | omega)) (by (first | (clear hm hnf; omega) | omega)) (by (first | (clear hm hnf; omega) | omega)) (by (first | (clear hm hnf; omega) | omega)) (by (first | (clear hm hnf; omega) | omega)) : PS A113 u0 f b e x) rfl rfl (by (first | (clear hm hnf; omega) | omega)) (by (first | (clear hm hnf; omega) | omega)) (by (first | (clear hm hnf; omega) | omega)) (by (first | (clear hm hnf; omega) | omega)) (by (first | (clear hm hnf; omega) | omega)) (by (first | (clear hm hnf; omega) | omega))) (And.intro (by (first | (clear hm hnf; omega) | omega)) (Exists.intro 100000 (And.intro (by (first | (clear hm hnf; omega) | omega)) hT))))))))
      · replace hT := (if_pos h131).symm.trans hT
        exact And.intro (by (first | (clear hm hnf; omega) | omega)) (hK _ i114 j115 f125 _ (by (first | (clear hm hnf; omega) | omega)) (by (first | (clear hm hnf; omega) | omega)) (Or.inl rfl) (by first | assumption | omega | simp_all) (congrArg Prod.fst hT) (congrArg Prod.snd hT))
def fM_hasOpenSum_c2 (rec : Nat → List Int → qA → Int) (k : Int) (A : qA) : Int := qlet (A 0 (fd 32)) fun v3 => (if k < v3 then qlet (A 24 k) fun v7 => qlet (qd v7 (qn 1048576)) fun v11 => (if v11 = 14 then 1 else qlet (k + 1) fun v15 => rec 2 [v15] A) else 0)
def fM_hasOpenSum_L : Nat → Nat → List Int → qA → Int
  | 0 => fun _ _ B => 0
  | nF + 1 => fun k zs B => bif Nat.beq k 2 then (match zs with | [k] => fM_hasOpenSum_c2 (fM_hasOpenSum_L nF) k B | _ => 0) else 0
theorem fM_hasOpenSum_L2 (nF : Nat) (k : Int) (B : qA) : fM_hasOpenSum_L (nF + 1) 2 [k] B = fM_hasOpenSum_c2 (fM_hasOpenSum_L nF) k B := (congrFun (congrFun (congrFun (fM_hasOpenSum_L.eq_2 nF) 2) [k]) B).trans (qL1 rfl rfl)
def fM_hasOpenSum (b : Int) (A : qA) : Int := (fM_hasOpenSum_L 100000) 2 [b] A
def sM_hasOpenSum : qS := fun as A K => ∃ b : Int, as = [rf 0, ni b] ∧ (iva IM A ∧ ivf JM A ∧ 0 ≤ b ∧ b ≤ 220) ∧ (∀ r : Int, 0 ≤ r → r ≤ 1 → ((r = 1 ∧ ∃ j, b ≤ j ∧ j < A 0 (fd 32) ∧ A 24 j / 1048576 = 14) ∨ (r = 0 ∧ ∀ j, b ≤ j → j < A 0 (fd 32) → A 24 j / 1048576 ≠ 14)) → (r = fM_hasOpenSum b A) → K (some (ni r)) A)
theorem okM_hasOpenSum : okM LM 1 174 sM_hasOpenSum := by
  refine qmeth [] false [] 26 rfl trivial ?_
  rintro _ A K hA has ⟨b, rfl, ⟨i0, j0, p1, p2⟩, hK⟩
  have rg_b : rng b := has (ni b) (by simp)
  have f0 := frm_0 [] [] A
  have hT : _ = fM_hasOpenSum b A := (fM_hasOpenSum.eq_1 b A).symm
  refine ⟨Nat.le_of_ble_eq_true rfl, [(2, [(0, 2, 0), (2, 0, 0)], fun zs B nn => match zs with | [k] => A = B ∧ nn = (220 - k : Int).toNat ∧ (b ≤ k) ∧ (k ≤ 220) ∧ (∀ j, b ≤ j → j < k → A 24 j / 1048576 ≠ 14) ∧ (∃ nf : Nat, nn < nf ∧ fM_hasOpenSum_L nf 2 [k] B = fM_hasOpenSum b A) | _ => False)], ?_, ?_⟩
  · refine ⟨⟨rfl, ?_⟩, trivial⟩
    · refine fun k B mm hB hz hI => ?_
      obtain ⟨rfl, hm, c0, c1, c2, ⟨nf, hnf, hT⟩⟩ := hI
      obtain ⟨hz_k, _⟩ := hz
      obtain ⟨ng, rfl⟩ : ∃ k, nf = k + 1 := ⟨nf - 1, by omega⟩
      replace hT := (fM_hasOpenSum_c2.eq_1 (fM_hasOpenSum_L ng) k A).symm.trans ((fM_hasOpenSum_L2 ng k A).symm.trans hT)
      refine fun v3 gv3 e4 => ?_
      replace hT := qlc e4 hT
      have b5 := ivf_at j0 9 rfl
      refine And.intro (fun h6 => ?_) (fun h6 => ?_)
      · replace hT := (if_neg (Int.not_lt.mpr h6)).symm.trans hT
        exact And.intro (by (first | (clear hm hnf; omega) | omega)) (hK _ (by (first | (clear hm hnf; omega) | omega)) (by (first | (clear hm hnf; omega) | omega)) (Or.inr ⟨rfl, fun j h0 h1 => c2 j h0 (by (first | (clear hm hnf; omega) | omega))⟩) hT)
      · replace hT := (if_pos h6).symm.trans hT
        refine And.intro (by (first | (clear hm hnf; omega) | omega)) (fun v7 gv7 e8 => ?_)
        replace hT := qlc e8 hT
        have b9 := iva_at i0 12 rfl (i := k) (by (first | (clear hm hnf; omega) | omega)) (by (first | (clear hm hnf; omega) | omega))
        have k10 : qn 1048576 = 1048576 := by decide
        refine And.intro (by (first | (clear hm hnf; omega) | omega)) (fun v11 e12 => ?_)
        replace hT := qlc e12 hT
        have h13 := qd_nn (a := v7) (b := (qn 1048576)) (by (first | (clear hm hnf; omega) | omega))
        rw [show qn 1048576 = 1048576 by decide] at h13 e12
        refine And.intro (by (first | (clear hm hnf; omega) | omega)) (And.intro (fun h14 => ?_) (fun h14 => ?_))
        · replace hT := (if_neg h14).symm.trans hT
          refine fun v15 e16 => ?_
          replace hT := qlc e16 hT
          exact And.intro (by (first | (clear hm hnf; omega) | omega)) (Exists.intro (220 - v15 : Int).toNat (And.intro (by first | exact qtn hm (by (try clear hm hnf); omega) | omega) (And.intro rfl (And.intro rfl (dqA2 (by (first | (clear hm hnf; omega) | omega)) (And.intro (by first | (intro j h0 h1; omega) | (intro j h0 h1; by_cases hj : j = k; (subst hj; omega); exact c2 j h0 (by (first | (clear hm hnf; omega) | omega)))) (Exists.intro ng (And.intro (by first | exact qtm hm hnf (by (try clear hm hnf); omega) | omega) hT))))))))
        · replace hT := (if_pos h14).symm.trans hT
          exact And.intro (by (first | (clear hm hnf; omega) | omega)) (hK _ (by (first | (clear hm hnf; omega) | omega)) (by (first | (clear hm hnf; omega) | omega)) (Or.inl ⟨rfl, k, by (first | (clear hm hnf; omega) | omega), by (first | (clear hm hnf; omega) | omega), by (first | (clear hm hnf; omega) | omega)⟩) hT)
  · exact Exists.intro (220 - b : Int).toNat (And.intro rfl (And.intro rfl (dqA2 (by (first | (clear hm hnf; omega) | omega)) (And.intro (by first | (intro j h0 h1; omega) | (intro j h0 h1; by_cases hj : j = k; (subst hj; omega); exact hK j h0 (by (first | (clear hm hnf; omega) | omega)))) (Exists.intro 100000 (And.intro (by (first | (clear hm hnf; omega) | omega)) hT))))))
theorem pM_hasOpenSum {b : Int} {A : qA} (hA : qokA LM A) (p0 : iva IM A) (p1 : ivf JM A) (p2 : 0 ≤ b) (p3 : b ≤ 220) : (0 ≤ (fM_hasOpenSum b A) ∧ (fM_hasOpenSum b A) ≤ 1) ∧ (((fM_hasOpenSum b A) = 1 ∧ ∃ j, b ≤ j ∧ j < A 0 (fd 32) ∧ A 24 j / 1048576 = 14) ∨ ((fM_hasOpenSum b A) = 0 ∧ ∀ j, b ≤ j → j < A 0 (fd 32) → A 24 j / 1048576 ≠ 14)) := by
  obtain ⟨r, B, hB, _, hk⟩ := okM_ex okM_hasOpenSum (as := [rf 0, ni b]) (K := fun _ B => B = A ∧ (0 ≤ (fM_hasOpenSum b A) ∧ (fM_hasOpenSum b A) ≤ 1) ∧ (((fM_hasOpenSum b A) = 1 ∧ ∃ j, b ≤ j ∧ j < A 0 (fd 32) ∧ A 24 j / 1048576 = 14) ∨ ((fM_hasOpenSum b A) = 0 ∧ ∀ j, b ≤ j → j < A 0 (fd 32) → A 24 j / 1048576 ≠ 14))) hA (qoks_c (show qok (rf _) from trivial) (qoks_c (show rng b from ⟨by (first | (clear hm hnf; omega) | omega), by (first | (clear hm hnf; omega) | omega)⟩) qoks_n)) ⟨b, rfl, ⟨p0, p1, p2, p3⟩, fun r9 g8 g9 x0 x1 => (by rw [← x1]; exact ⟨rfl, ⟨g8, g9⟩, x0⟩)⟩
  exact hk.2
def fM_readsSum_c8 (rec : Nat → List Int → qA → Int × qA) (b : Int) (B : qA) : Int × qA := qlet (fM_here B) fun r25 => qlet (fM_sumSign r25 B) fun r31 => (if r31 = (-1) then qlet (fM_here B) fun r37 => (if r37 = 93 then qlet (fM_hasOpenSum b B) fun r79 => (if r79 = 0 then qlet (fM_hasOpenSum b B) fun r85 => (if r85 = 0 then qlet (fM_closesSums 1 B) fun A92 => (1, A92) else qlet (B 0 (fd 27)) fun v106 => qlet (fM_wrongAt 1 v106 B) fun A109 => (0, A109)) else qlet (fM_closesSums 1 B) fun A121 => qlet (A121 0 (fd 32)) fun v135 => qlet (v135 - 1) fun v138 => qlet (qu A121 0 (fd 32) (wI v138)) fun A140 => qlet (A140 0 (fd 30)) fun v151 => qlet (v151 - 1) fun v153 => qlet (qu A140 0 (fd 30) (wI v153)) fun A155 => qlet (A155 0 (fd 27)) fun v165 => qlet (v165 + 1) fun v168 => qlet (qu A155 0 (fd 27) (wI v168)) fun A170 => rec 8 [b] A170) else qlet (fM_hasOpenSum b B) fun r44 => (if r44 = 0 then qlet (fM_closesSums 1 B) fun A51 => (1, A51) else qlet (B 0 (fd 27)) fun v65 => qlet (fM_wrongAt 1 v65 B) fun A68 => (0, A68))) else (if r31 < 4 then qlet (fM_closesSums 1 B) fun A270 => qlet (A270 0 (fd 32)) fun v284 => qlet ((qn 1048576) * r31) fun v288 => qlet (qu A270 24 v284 (wI v288)) fun A290 => qlet (A290 0 (fd 32)) fun v301 => qlet (v284 + 1) fun v305 => qlet (qu A290 0 (fd 32) (wI v305)) fun A307 => qlet (A307 0 (fd 27)) fun v318 => qlet (v318 + 1) fun v321 => qlet (qu A307 0 (fd 27) (wI v321)) fun A323 => qlp (fM_readsFactor A323) fun r341 A337 => (if r341 = 0 then (0, A337) else rec 8 [b] A337) else qlet (fM_closesSums 0 B) fun A185 => qlet (A185 0 (fd 32)) fun v199 => qlet ((qn 1048576) * r31) fun v203 => qlet (qu A185 24 v199 (wI v203)) fun A205 => qlet (A205 0 (fd 32)) fun v216 => qlet (v199 + 1) fun v220 => qlet (qu A205 0 (fd 32) (wI v220)) fun A222 => qlet (A222 0 (fd 27)) fun v233 => qlet (v233 + 1) fun v236 => qlet (qu A222 0 (fd 27) (wI v236)) fun A238 => qlp (fM_readsFactor A238) fun r256 A252 => (if r256 = 0 then (0, A252) else rec 8 [b] A252)))
def fM_readsSum_L : Nat → Nat → List Int → qA → Int × qA
  | 0 => fun _ _ B => (0, B)
  | nF + 1 => fun k zs B => bif Nat.beq k 8 then (match zs with | [b] => fM_readsSum_c8 (fM_readsSum_L nF) b B | _ => (0, B)) else (0, B)
theorem fM_readsSum_L8 (nF : Nat) (b : Int) (B : qA) : fM_readsSum_L (nF + 1) 8 [b] B = fM_readsSum_c8 (fM_readsSum_L nF) b B := (congrFun (congrFun (congrFun (fM_readsSum_L.eq_2 nF) 8) [b]) B).trans (qL1 rfl rfl)
def fM_readsSum (A : qA) : Int × qA := qlet (A 0 (fd 32)) fun v4 => qlp (fM_readsFactor A) fun r12 A8 => (if r12 = 0 then (0, A8) else (fM_readsSum_L 100000) 8 [v4] A8)
def sM_readsSum : qS := fun as A K => ∃ u0 : Int → Int, ∃ f : Int, ∃ e : Int, ∃ x : Int, as = [rf 0] ∧ (iva IM A ∧ ivf JM A ∧ (PS A u0 f (A 0 (fd 32)) e x) ∧ (0 ≤ e) ∧ (0 ≤ x)) ∧ (∀ A' : qA, iva IM A' → ivf JM A' → frm [23, 24] [(0, 27), (0, 29), (0, 30), (0, 31), (0, 32), (0, 34)] A A' → ∀ r : Int, 0 ≤ r → r ≤ 1 → (r = 0 ∨ PS A' u0 f (A' 0 (fd 32)) (e + 1) x) → (r = 0 ∨ A' 0 (fd 32) = A 0 (fd 32)) → (r = 0 ∨ A 0 (fd 27) < A' 0 (fd 27)) → (r = (fM_readsSum A).1) → (A' = (fM_readsSum A).2) → K (some (ni r)) A')
theorem okM_readsSum : okM LM 5 175 sM_readsSum := by
  refine qmeth [] true [(173, sM_readsFactor), (162, sM_here), (171, sM_sumSign), (174, sM_hasOpenSum), (172, sM_closesSums), (164, sM_wrongAt)] 100 rfl ⟨okM_readsFactor.le (by decide), ⟨okM_here.le (by decide), ⟨okM_sumSign.le (by decide), ⟨okM_hasOpenSum.le (by decide), ⟨okM_closesSums.le (by decide), ⟨okM_wrongAt.le (by decide), trivial⟩⟩⟩⟩⟩⟩ ?_
  rintro _ A K hA has ⟨u0, f, e, x, rfl, ⟨i0, j0, p1, p2, p3⟩, hK⟩
  have f0 := frm_0 [23, 24] [(0, 27), (0, 29), (0, 30), (0, 31), (0, 32), (0, 34)] A
  have hb_0_27 := ivf_at j0 6 rfl
  have hb_0_28 := ivf_at j0 7 rfl
  have hb_0_31 := ivf_at j0 8 rfl
  have hb_0_32 := ivf_at j0 9 rfl
  have hT : _ = fM_readsSum A := (fM_readsSum.eq_1 A).symm
  refine ⟨Nat.le_of_ble_eq_true rfl, [(8, [(0, 2, 0), (1, 0, 0)], fun zs B nn => match zs with | [b] => iva IM B ∧ ivf JM B ∧ frm [23, 24] [(0, 27), (0, 29), (0, 30), (0, 31), (0, 32), (0, 34)] A B ∧ nn = (200 - B 0 (fd 27) : Int).toNat ∧ (b = A 0 (fd 32)) ∧ (PS B u0 f b (e + 1) x) ∧ (A 0 (fd 27) < B 0 (fd 27)) ∧ (∃ nf : Nat, nn < nf ∧ fM_readsSum_L nf 8 [b] B = fM_readsSum A) | _ => False)], ?_, ?_⟩
  · refine ⟨⟨rfl, ?_⟩, trivial⟩
    · refine fun b B mm hB hz hI => ?_
      obtain ⟨i1, j1, f1, hm, c0, c1, c2, ⟨nf, hnf, hT⟩⟩ := hI
      obtain ⟨hz_b, _⟩ := hz
      obtain ⟨ng, rfl⟩ : ∃ k, nf = k + 1 := ⟨nf - 1, by omega⟩
      replace hT := (fM_readsSum_c8.eq_1 (fM_readsSum_L ng) b B).symm.trans ((fM_readsSum_L8 ng b B).symm.trans hT)
      have hc_0_27 := ivf_at j1 6 rfl
      have hc_0_28 := ivf_at j1 7 rfl
      have hc_0_31 := ivf_at j1 8 rfl
      have hc_0_32 := ivf_at j1 9 rfl
      refine And.intro rfl (And.intro (And.intro i1 j1) (fun r25 g29 g30 g26 g27 g28 => ?_))
      replace hT := qlc g28 hT
      clear g28
      refine Exists.intro r25 (And.intro rfl (fun r31 g34 g35 g32 g33 => ?_))
      replace hT := qlc g33 hT
      clear g33
      refine And.intro (fun h36 => ?_) (fun h36 => ?_)
      · replace hT := (if_pos h36).symm.trans hT
        refine And.intro rfl (And.intro (And.intro i1 j1) (fun r37 g41 g42 g38 g39 g40 => ?_))
        replace hT := qlc g40 hT
        clear g40
        refine And.intro (fun h43 => ?_) (fun h43 => ?_)
        · replace hT := (if_neg h43).symm.trans hT
          refine Exists.intro b (And.intro rfl (And.intro (And.intro i1 (And.intro j1 (And.intro (by (first | (clear hm hnf; omega) | omega)) (by (first | (clear hm hnf; omega) | omega))))) (fun r44 g47 g48 g45 g46 => ?_)))
          replace hT := qlc g46 hT
          clear g46
          refine And.intro (fun h49 => ?_) (fun h49 => ?_)
          · replace hT := (if_pos h49).symm.trans hT
            have z50 := PS_bd c1
            refine Exists.intro 1 (Exists.intro u0 (Exists.intro f (Exists.intro b (Exists.intro (e + 1) (Exists.intro x (And.intro rfl (And.intro (And.intro i1 (And.intro j1 (dqA2 (by (first | (clear hm hnf; omega) | omega)) (And.intro (PS_kA c1 rfl rfl (by (first | (clear hm hnf; omega) | omega))) (And.intro (by first | assumption | omega | simp_all) (by first | assumption | omega | simp_all)))))) (fun A51 i52 j53 f54 g55 g56 g57 g58 g59 => ?_))))))))
            replace hT := qlc g59 hT
            have f60 := frm_c f1 f54 rfl
            have t61 : A51 0 (fd 27) = B 0 (fd 27) := (frm_f f54 rfl)
            have t62 : A51 0 (fd 28) = B 0 (fd 28) := (frm_f f54 rfl)
            have t63 := ivf_at j53 8 rfl
            have t64 := ivf_at j53 9 rfl
            have hn9 : ∀ j, b ≤ j → j < B 0 (fd 32) → B 24 j / 1048576 ≠ 14 := by rcases g45 with ⟨q, _⟩ | ⟨_, q⟩; exfalso; omega; exact q
            have he9 := PS_end g55 (by (first | (clear hm hnf; omega) | omega)) (fun j h0 h1 => by rw [(frm_a f54 rfl)]; exact hn9 j h0 (by (first | (clear hm hnf; omega) | omega)))
            exact And.intro (by (first | (clear hm hnf; omega) | omega)) (hK _ i52 j53 f60 _ (by (first | (clear hm hnf; omega) | omega)) (by (first | (clear hm hnf; omega) | omega)) (Or.inr (PS_kA g55 rfl rfl (by (first | (clear hm hnf; omega) | omega)))) (by first | assumption | omega | simp_all) (by first | assumption | omega | simp_all) (congrArg Prod.fst hT) (congrArg Prod.snd hT))
          · replace hT := (if_neg h49).symm.trans hT
            refine fun v65 gv65 e66 => ?_
            replace hT := qlc e66 hT
            have b67 := ivf_at j1 6 rfl
            refine Exists.intro 1 (Exists.intro v65 (And.intro rfl (And.intro (And.intro i1 (And.intro j1 (dqA3 (by (first | (clear hm hnf; omega) | omega)) (by (first | (clear hm hnf; omega) | omega))))) (fun A68 i69 j70 f71 g72 => (fun h73 => ?_)))))
            · replace hT := qlc g72 hT
              have f74 := frm_c f1 f71 rfl
              have t75 : A68 0 (fd 27) = B 0 (fd 27) := (frm_f f71 rfl)
              have t76 : A68 0 (fd 28) = B 0 (fd 28) := (frm_f f71 rfl)
              have t77 : A68 0 (fd 31) = B 0 (fd 31) := (frm_f f71 rfl)
              have t78 : A68 0 (fd 32) = B 0 (fd 32) := (frm_f f71 rfl)
              exact And.intro (by (first | (clear hm hnf; omega) | omega)) (hK _ i69 j70 f74 _ (by (first | (clear hm hnf; omega) | omega)) (by (first | (clear hm hnf; omega) | omega)) (Or.inl rfl) (by first | assumption | omega | simp_all) (by first | assumption | omega | simp_all) (congrArg Prod.fst hT) (congrArg Prod.snd hT))
        · replace hT := (if_pos h43).symm.trans hT
          refine Exists.intro b (And.intro rfl (And.intro (And.intro i1 (And.intro j1 (And.intro (by (first | (clear hm hnf; omega) | omega)) (by (first | (clear hm hnf; omega) | omega))))) (fun r79 g82 g83 g80 g81 => ?_)))
          replace hT := qlc g81 hT
          clear g81
          refine And.intro (fun h84 => ?_) (fun h84 => ?_)
          · replace hT := (if_pos h84).symm.trans hT
            refine Exists.intro b (And.intro rfl (And.intro (And.intro i1 (And.intro j1 (And.intro (by (first | (clear hm hnf; omega) | omega)) (by (first | (clear hm hnf; omega) | omega))))) (fun r85 g88 g89 g86 g87 => ?_)))
            replace hT := qlc g87 hT
            clear g87
            refine And.intro (fun h90 => ?_) (fun h90 => ?_)
            · replace hT := (if_pos h90).symm.trans hT
              have z91 := PS_bd c1
              refine Exists.intro 1 (Exists.intro u0 (Exists.intro f (Exists.intro b (Exists.intro (e + 1) (Exists.intro x (And.intro rfl (And.intro (And.intro i1 (And.intro j1 (dqA2 (by (first | (clear hm hnf; omega) | omega)) (And.intro (PS_kA c1 rfl rfl (by (first | (clear hm hnf; omega) | omega))) (And.intro (by first | assumption | omega | simp_all) (by first | assumption | omega | simp_all)))))) (fun A92 i93 j94 f95 g96 g97 g98 g99 g100 => ?_))))))))
              replace hT := qlc g100 hT
              have f101 := frm_c f1 f95 rfl
              have t102 : A92 0 (fd 27) = B 0 (fd 27) := (frm_f f95 rfl)
              have t103 : A92 0 (fd 28) = B 0 (fd 28) := (frm_f f95 rfl)
              have t104 := ivf_at j94 8 rfl
              have t105 := ivf_at j94 9 rfl
              have hn9 : ∀ j, b ≤ j → j < B 0 (fd 32) → B 24 j / 1048576 ≠ 14 := by rcases g86 with ⟨q, _⟩ | ⟨_, q⟩; exfalso; omega; exact q
              have he9 := PS_end g96 (by (first | (clear hm hnf; omega) | omega)) (fun j h0 h1 => by rw [(frm_a f95 rfl)]; exact hn9 j h0 (by (first | (clear hm hnf; omega) | omega)))
              exact And.intro (by (first | (clear hm hnf; omega) | omega)) (hK _ i93 j94 f101 _ (by (first | (clear hm hnf; omega) | omega)) (by (first | (clear hm hnf; omega) | omega)) (Or.inr (PS_kA g96 rfl rfl (by (first | (clear hm hnf; omega) | omega)))) (by first | assumption | omega | simp_all) (by first | assumption | omega | simp_all) (congrArg Prod.fst hT) (congrArg Prod.snd hT))
            · replace hT := (if_neg h90).symm.trans hT
              refine fun v106 gv106 e107 => ?_
              replace hT := qlc e107 hT
              have b108 := ivf_at j1 6 rfl
              refine Exists.intro 1 (Exists.intro v106 (And.intro rfl (And.intro (And.intro i1 (And.intro j1 (dqA3 (by (first | (clear hm hnf; omega) | omega)) (by (first | (clear hm hnf; omega) | omega))))) (fun A109 i110 j111 f112 g113 => (fun h114 => ?_)))))
              · replace hT := qlc g113 hT
                have f115 := frm_c f1 f112 rfl
                have t116 : A109 0 (fd 27) = B 0 (fd 27) := (frm_f f112 rfl)
                have t117 : A109 0 (fd 28) = B 0 (fd 28) := (frm_f f112 rfl)
                have t118 : A109 0 (fd 31) = B 0 (fd 31) := (frm_f f112 rfl)
                have t119 : A109 0 (fd 32) = B 0 (fd 32) := (frm_f f112 rfl)
                exact And.intro (by (first | (clear hm hnf; omega) | omega)) (hK _ i110 j111 f115 _ (by (first | (clear hm hnf; omega) | omega)) (by (first | (clear hm hnf; omega) | omega)) (Or.inl rfl) (by first | assumption | omega | simp_all) (by first | assumption | omega | simp_all) (congrArg Prod.fst hT) (congrArg Prod.snd hT))
          · replace hT := (if_neg h84).symm.trans hT
            have z120 := PS_bd c1
            refine Exists.intro 1 (Exists.intro u0 (Exists.intro f (Exists.intro b (Exists.intro (e + 1) (Exists.intro x (And.intro rfl (And.intro (And.intro i1 (And.intro j1 (dqA2 (by (first | (clear hm hnf; omega) | omega)) (And.intro (PS_kA c1 rfl rfl (by (first | (clear hm hnf; omega) | omega))) (And.intro (by first | assumption | omega | simp_all) (by first | assumption | omega | simp_all)))))) (fun A121 i122 j123 f124 g125 g126 g127 g128 g129 => ?_))))))))
            replace hT := qlc g129 hT
            have f130 := frm_c f1 f124 rfl
            have t131 : A121 0 (fd 27) = B 0 (fd 27) := (frm_f f124 rfl)
            have t132 : A121 0 (fd 28) = B 0 (fd 28) := (frm_f f124 rfl)
            have t133 := ivf_at j123 8 rfl
            have t134 := ivf_at j123 9 rfl
            obtain ⟨j9, hj1, hj2, hj3⟩ : ∃ j, b ≤ j ∧ j < B 0 (fd 32) ∧ B 24 j / 1048576 = 14 := by rcases g80 with ⟨_, q⟩ | ⟨q, _⟩; exact q; exfalso; omega
            have hj4 := g128 j9 hj2 hj3
            have hj5 := PS_top g125 (by (first | (clear hm hnf; omega) | omega)) (by (first | (clear hm hnf; omega) | omega))
            refine fun v135 gv135 e136 => ?_
            replace hT := qlc e136 hT
            have b137 := ivf_at j123 9 rfl
            refine fun v138 e139 => ?_
            replace hT := qlc e139 hT
            have w142 := wI_rng v138
            have w143 : wI v138 = v138 := wI_id (by (first | (clear hm hnf; omega) | omega))
            refine fun A140 e141 => ?_
            replace hT := qlc e141 hT
            have i144 := iva_sf i122 e141 rfl
            have j145 := ivf_st j123 e141 (And.intro (by (first | (clear hm hnf; omega) | omega)) trivial)
            have f146 := frm_sf f130 e141 rfl
            have t147 : A140 0 (fd 27) = A121 0 (fd 27) := (st_f e141 rfl)
            have t148 : A140 0 (fd 28) = A121 0 (fd 28) := (st_f e141 rfl)
            have t149 : A140 0 (fd 31) = A121 0 (fd 31) := (st_f e141 rfl)
            have t150 := st_v e141
            refine fun v151 gv151 e152 => ?_
            replace hT := qlc e152 hT
            refine fun v153 e154 => ?_
            replace hT := qlc e154 hT
            have w157 := wI_rng v153
            refine fun A155 e156 => ?_
            replace hT := qlc e156 hT
            have i158 := iva_sf i144 e156 rfl
            have j159 := ivf_st j145 e156 trivial
            have f160 := frm_sf f146 e156 rfl
            have t161 : A155 0 (fd 27) = A140 0 (fd 27) := (st_f e156 rfl)
            have t162 : A155 0 (fd 28) = A140 0 (fd 28) := (st_f e156 rfl)
            have t163 : A155 0 (fd 31) = A140 0 (fd 31) := (st_f e156 rfl)
            have t164 : A155 0 (fd 32) = A140 0 (fd 32) := (st_f e156 rfl)
            refine fun v165 gv165 e166 => ?_
            replace hT := qlc e166 hT
            have b167 := ivf_at j159 6 rfl
            refine fun v168 e169 => ?_
            replace hT := qlc e169 hT
            have w172 := wI_rng v168
            have w173 : wI v168 = v168 := wI_id (by (first | (clear hm hnf; omega) | omega))
            refine fun A170 e171 => ?_
            replace hT := qlc e171 hT
            have i174 := iva_sf i158 e171 rfl
            have j175 := ivf_st j159 e171 (And.intro (by (first | (clear hm hnf; omega) | omega)) trivial)
            have f176 := frm_sf f160 e171 rfl
            have t177 := st_v e171
            have t178 : A170 0 (fd 28) = A155 0 (fd 28) := (st_f e171 rfl)
            have t179 : A170 0 (fd 31) = A155 0 (fd 31) := (st_f e171 rfl)
            have t180 : A170 0 (fd 32) = A155 0 (fd 32) := (st_f e171 rfl)
            have ps181 := (PS_p g125 (Eq.trans (Eq.trans (st_a e171 rfl) (st_a e156 rfl)) (st_a e141 rfl)) (Eq.trans (Eq.trans (st_a e171 rfl) (st_a e156 rfl)) (st_a e141 rfl)) (by (first | (clear hm hnf; omega) | omega)) (by (first | (clear hm hnf; omega) | omega)) (by (first | (clear hm hnf; omega) | omega)) (by (first | (clear hm hnf; omega) | omega)) (by (first | (clear hm hnf; omega) | omega)) (by (first | (clear hm hnf; omega) | omega)) (by (first | (clear hm hnf; omega) | omega)) (by (first | (clear hm hnf; omega) | omega)) : PS A170 u0 f b (e + 1) x)
            have z182 := PS_bd ps181
            clear hj1 hj2 hj3 hj4 hj5 g80 g127 g128
            exact Exists.intro (200 - A170 0 (fd 27) : Int).toNat (And.intro (by first | exact qtn hm (by (try clear hm hnf); omega) | omega) (And.intro i174 (And.intro j175 (And.intro f176 (And.intro rfl (And.intro (by (first | (clear hm hnf; omega) | omega)) (And.intro (PS_kA ps181 rfl rfl (by (first | (clear hm hnf; omega) | omega))) (And.intro (by (first | (clear hm hnf; omega) | omega)) (Exists.intro ng (And.intro (by first | exact qtm hm hnf (by (try clear hm hnf); omega) | omega) hT))))))))))
      · replace hT := (if_neg h36).symm.trans hT
        refine And.intro (fun h183 => ?_) (fun h183 => ?_)
        · replace hT := (if_neg (Int.not_lt.mpr h183)).symm.trans hT
          have z184 := PS_bd c1
          refine Exists.intro 0 (Exists.intro u0 (Exists.intro f (Exists.intro b (Exists.intro (e + 1) (Exists.intro x (And.intro rfl (And.intro (And.intro i1 (And.intro j1 (dqA2 (by (first | (clear hm hnf; omega) | omega)) (And.intro (PS_kA c1 rfl rfl (by (first | (clear hm hnf; omega) | omega))) (And.intro (by first | assumption | omega | simp_all) (by first | assumption | omega | simp_all)))))) (fun A185 i186 j187 f188 g189 g190 g191 g192 g193 => ?_))))))))
          replace hT := qlc g193 hT
          have f194 := frm_c f1 f188 rfl
          have t195 : A185 0 (fd 27) = B 0 (fd 27) := (frm_f f188 rfl)
          have t196 : A185 0 (fd 28) = B 0 (fd 28) := (frm_f f188 rfl)
          have t197 := ivf_at j187 8 rfl
          have t198 := ivf_at j187 9 rfl
          refine fun v199 gv199 e200 => ?_
          replace hT := qlc e200 hT
          have b201 := ivf_at j187 9 rfl
          have k202 : qn 1048576 = 1048576 := by decide
          refine fun v203 e204 => ?_
          replace hT := qlc e204 hT
          rw [show qn 1048576 = 1048576 by decide] at e204
          have w207 := wI_rng v203
          have w208 : wI v203 = v203 := wI_id (by (first | (clear hm hnf; omega) | omega))
          refine And.intro (by (first | (clear hm hnf; omega) | omega)) (fun A205 e206 => ?_)
          replace hT := qlc e206 hT
          have i209 := iva_st i186 e206 (And.intro (by (first | (clear hm hnf; omega) | omega)) trivial)
          have j210 := ivf_sa j187 e206 rfl
          have f211 := frm_s f194 e206 rfl
          have t212 : A205 0 (fd 27) = A185 0 (fd 27) := (congrFun (st_a e206 rfl) _)
          have t213 : A205 0 (fd 28) = A185 0 (fd 28) := (congrFun (st_a e206 rfl) _)
          have t214 : A205 0 (fd 31) = A185 0 (fd 31) := (congrFun (st_a e206 rfl) _)
          have t215 : A205 0 (fd 32) = A185 0 (fd 32) := (congrFun (st_a e206 rfl) _)
          refine fun v216 gv216 e217 => ?_
          replace hT := qlc e217 hT
          have b218 := ivf_at j210 9 rfl
          have q219 : v199 = v216 := (e217.trans ((congrFun (st_a e206 rfl) _).trans e200.symm)).symm
          subst q219
          refine fun v220 e221 => ?_
          replace hT := qlc e221 hT
          have w224 := wI_rng v220
          have w225 : wI v220 = v220 := wI_id (by (first | (clear hm hnf; omega) | omega))
          refine fun A222 e223 => ?_
          replace hT := qlc e223 hT
          have i226 := iva_sf i209 e223 rfl
          have j227 := ivf_st j210 e223 (And.intro (by (first | (clear hm hnf; omega) | omega)) trivial)
          have f228 := frm_sf f211 e223 rfl
          have t229 : A222 0 (fd 27) = A205 0 (fd 27) := (st_f e223 rfl)
          have t230 : A222 0 (fd 28) = A205 0 (fd 28) := (st_f e223 rfl)
          have t231 : A222 0 (fd 31) = A205 0 (fd 31) := (st_f e223 rfl)
          have t232 := st_v e223
          refine fun v233 gv233 e234 => ?_
          replace hT := qlc e234 hT
          have b235 := ivf_at j227 6 rfl
          refine fun v236 e237 => ?_
          replace hT := qlc e237 hT
          have w240 := wI_rng v236
          have w241 : wI v236 = v236 := wI_id (by (first | (clear hm hnf; omega) | omega))
          refine fun A238 e239 => ?_
          replace hT := qlc e239 hT
          have i242 := iva_sf i226 e239 rfl
          have j243 := ivf_st j227 e239 (And.intro (by (first | (clear hm hnf; omega) | omega)) trivial)
          have f244 := frm_sf f228 e239 rfl
          have t245 := st_v e239
          have t246 : A238 0 (fd 28) = A222 0 (fd 28) := (st_f e239 rfl)
          have t247 : A238 0 (fd 31) = A222 0 (fd 31) := (st_f e239 rfl)
          have t248 : A238 0 (fd 32) = A222 0 (fd 32) := (st_f e239 rfl)
          have ps249 := (PS_q g189 (Eq.trans (Eq.trans (st_a e239 rfl) (st_a e223 rfl)) (st_a e206 rfl)) (Eq.trans (Eq.trans (st_a e239 rfl) (st_a e223 rfl)) (st_u e206)) (by (first | (clear hm hnf; omega) | omega)) (by (first | (clear hm hnf; omega) | omega)) (by (first | (clear hm hnf; omega) | omega)) (by (first | (clear hm hnf; omega) | omega)) (by (first | (clear hm hnf; omega) | omega)) (by (first | (clear hm hnf; omega) | omega)) : PS A238 u0 f b e x)
          have z250 := PS_bd ps249
          have z251 := PS_bd ps249
          refine Exists.intro u0 (Exists.intro f (Exists.intro b (Exists.intro e (Exists.intro x (And.intro rfl (And.intro (And.intro i242 (And.intro j243 (And.intro (PS_kA ps249 rfl rfl (by (first | (clear hm hnf; omega) | omega))) (by first | assumption | omega | simp_all)))) (fun A252 i253 j254 f255 r256 g261 g262 g257 g258 g259 g260 => ?_)))))))
          replace hT := qlpc g259 g260 hT
          clear g259 g260
          have f263 := frm_c f244 f255 rfl
          have t264 := ivf_at j254 6 rfl
          have t265 : A252 0 (fd 28) = A238 0 (fd 28) := (frm_f f255 rfl)
          have t266 := ivf_at j254 8 rfl
          have t267 := ivf_at j254 9 rfl
          refine And.intro (fun h268 => ?_) (fun h268 => ?_)
          · replace hT := (if_neg h268).symm.trans hT
            exact Exists.intro (200 - A252 0 (fd 27) : Int).toNat (And.intro (by first | exact qtn hm (by (try clear hm hnf); omega) | omega) (And.intro i253 (And.intro j254 (And.intro f263 (And.intro rfl (And.intro (by (first | (clear hm hnf; omega) | omega)) (And.intro (PS_kA (Or.resolve_left g257 (by (first | (clear hm hnf; omega) | omega))) rfl rfl (by (first | (clear hm hnf; omega) | omega))) (And.intro (by (first | (clear hm hnf; omega) | omega)) (Exists.intro ng (And.intro (by first | exact qtm hm hnf (by (try clear hm hnf); omega) | omega) hT))))))))))
          · replace hT := (if_pos h268).symm.trans hT
            exact And.intro (by (first | (clear hm hnf; omega) | omega)) (hK _ i253 j254 f263 _ (by (first | (clear hm hnf; omega) | omega)) (by (first | (clear hm hnf; omega) | omega)) (Or.inl rfl) (by first | assumption | omega | simp_all) (by first | assumption | omega | simp_all) (congrArg Prod.fst hT) (congrArg Prod.snd hT))
        · replace hT := (if_pos h183).symm.trans hT
          have z269 := PS_bd c1
          refine Exists.intro 1 (Exists.intro u0 (Exists.intro f (Exists.intro b (Exists.intro (e + 1) (Exists.intro x (And.intro rfl (And.intro (And.intro i1 (And.intro j1 (dqA2 (by (first | (clear hm hnf; omega) | omega)) (And.intro (PS_kA c1 rfl rfl (by (first | (clear hm hnf; omega) | omega))) (And.intro (by first | assumption | omega | simp_all) (by first | assumption | omega | simp_all)))))) (fun A270 i271 j272 f273 g274 g275 g276 g277 g278 => ?_))))))))
          replace hT := qlc g278 hT
          have f279 := frm_c f1 f273 rfl
          have t280 : A270 0 (fd 27) = B 0 (fd 27) := (frm_f f273 rfl)
          have t281 : A270 0 (fd 28) = B 0 (fd 28) := (frm_f f273 rfl)
          have t282 := ivf_at j272 8 rfl
          have t283 := ivf_at j272 9 rfl
          refine fun v284 gv284 e285 => ?_
          replace hT := qlc e285 hT
          have b286 := ivf_at j272 9 rfl
          have k287 : qn 1048576 = 1048576 := by decide
          refine fun v288 e289 => ?_
          replace hT := qlc e289 hT
          rw [show qn 1048576 = 1048576 by decide] at e289
          have w292 := wI_rng v288
          have w293 : wI v288 = v288 := wI_id (by (first | (clear hm hnf; omega) | omega))
          refine And.intro (by (first | (clear hm hnf; omega) | omega)) (fun A290 e291 => ?_)
          replace hT := qlc e291 hT
          have i294 := iva_st i271 e291 (And.intro (by (first | (clear hm hnf; omega) | omega)) trivial)
          have j295 := ivf_sa j272 e291 rfl
          have f296 := frm_s f279 e291 rfl
          have t297 : A290 0 (fd 27) = A270 0 (fd 27) := (congrFun (st_a e291 rfl) _)
          have t298 : A290 0 (fd 28) = A270 0 (fd 28) := (congrFun (st_a e291 rfl) _)
          have t299 : A290 0 (fd 31) = A270 0 (fd 31) := (congrFun (st_a e291 rfl) _)
          have t300 : A290 0 (fd 32) = A270 0 (fd 32) := (congrFun (st_a e291 rfl) _)
          refine fun v301 gv301 e302 => ?_
          replace hT := qlc e302 hT
          have b303 := ivf_at j295 9 rfl
          have q304 : v284 = v301 := (e302.trans ((congrFun (st_a e291 rfl) _).trans e285.symm)).symm
          subst q304
          refine fun v305 e306 => ?_
          replace hT := qlc e306 hT
          have w309 := wI_rng v305
          have w310 : wI v305 = v305 := wI_id (by (first | (clear hm hnf; omega) | omega))
          refine fun A307 e308 => ?_
          replace hT := qlc e308 hT
          have i311 := iva_sf i294 e308 rfl
          have j312 := ivf_st j295 e308 (And.intro (by (first | (clear hm hnf; omega) | omega)) trivial)
          have f313 := frm_sf f296 e308 rfl
          have t314 : A307 0 (fd 27) = A290 0 (fd 27) := (st_f e308 rfl)
          have t315 : A307 0 (fd 28) = A290 0 (fd 28) := (st_f e308 rfl)
          have t316 : A307 0 (fd 31) = A290 0 (fd 31) := (st_f e308 rfl)
          have t317 := st_v e308
          refine fun v318 gv318 e319 => ?_
          replace hT := qlc e319 hT
          have b320 := ivf_at j312 6 rfl
          refine fun v321 e322 => ?_
          replace hT := qlc e322 hT
          have w325 := wI_rng v321
          have w326 : wI v321 = v321 := wI_id (by (first | (clear hm hnf; omega) | omega))
          refine fun A323 e324 => ?_
          replace hT := qlc e324 hT
          have i327 := iva_sf i311 e324 rfl
          have j328 := ivf_st j312 e324 (And.intro (by (first | (clear hm hnf; omega) | omega)) trivial)
          have f329 := frm_sf f313 e324 rfl
          have t330 := st_v e324
          have t331 : A323 0 (fd 28) = A307 0 (fd 28) := (st_f e324 rfl)
          have t332 : A323 0 (fd 31) = A307 0 (fd 31) := (st_f e324 rfl)
          have t333 : A323 0 (fd 32) = A307 0 (fd 32) := (st_f e324 rfl)
          have ps334 := (PS_q g274 (Eq.trans (Eq.trans (st_a e324 rfl) (st_a e308 rfl)) (st_a e291 rfl)) (Eq.trans (Eq.trans (st_a e324 rfl) (st_a e308 rfl)) (st_u e291)) (by (first | (clear hm hnf; omega) | omega)) (by (first | (clear hm hnf; omega) | omega)) (by (first | (clear hm hnf; omega) | omega)) (by (first | (clear hm hnf; omega) | omega)) (by (first | (clear hm hnf; omega) | omega)) (by (first | (clear hm hnf; omega) | omega)) : PS A323 u0 f b e x)
          have z335 := PS_bd ps334
          have z336 := PS_bd ps334
          refine Exists.intro u0 (Exists.intro f (Exists.intro b (Exists.intro e (Exists.intro x (And.intro rfl (And.intro (And.intro i327 (And.intro j328 (And.intro (PS_kA ps334 rfl rfl (by (first | (clear hm hnf; omega) | omega))) (by first | assumption | omega | simp_all)))) (fun A337 i338 j339 f340 r341 g346 g347 g342 g343 g344 g345 => ?_)))))))
          replace hT := qlpc g344 g345 hT
          clear g344 g345
          have f348 := frm_c f329 f340 rfl
          have t349 := ivf_at j339 6 rfl
          have t350 : A337 0 (fd 28) = A323 0 (fd 28) := (frm_f f340 rfl)
          have t351 := ivf_at j339 8 rfl
          have t352 := ivf_at j339 9 rfl
          refine And.intro (fun h353 => ?_) (fun h353 => ?_)
          · replace hT := (if_neg h353).symm.trans hT
            exact Exists.intro (200 - A337 0 (fd 27) : Int).toNat (And.intro (by first | exact qtn hm (by (try clear hm hnf); omega) | omega) (And.intro i338 (And.intro j339 (And.intro f348 (And.intro rfl (And.intro (by (first | (clear hm hnf; omega) | omega)) (And.intro (PS_kA (Or.resolve_left g342 (by (first | (clear hm hnf; omega) | omega))) rfl rfl (by (first | (clear hm hnf; omega) | omega))) (And.intro (by (first | (clear hm hnf; omega) | omega)) (Exists.intro ng (And.intro (by first | exact qtm hm hnf (by (try clear hm hnf); omega) | omega) hT))))))))))
          · replace hT := (if_pos h353).symm.trans hT
            exact And.intro (by (first | (clear hm hnf; omega) | omega)) (hK _ i338 j339 f348 _ (by (first | (clear hm hnf; omega) | omega)) (by (first | (clear hm hnf; omega) | omega)) (Or.inl rfl) (by first | assumption | omega | simp_all) (by first | assumption | omega | simp_all) (congrArg Prod.fst hT) (congrArg Prod.snd hT))
  · refine fun v4 gv4 e5 => ?_
    replace hT := qlc e5 hT
    have b6 := ivf_at j0 9 rfl
    have z7 := PS_bd p1
    refine Exists.intro u0 (Exists.intro f (Exists.intro (A 0 (fd 32)) (Exists.intro e (Exists.intro x (And.intro rfl (And.intro (And.intro i0 (And.intro j0 (And.intro (PS_kA p1 rfl rfl (by (first | (clear hm hnf; omega) | omega))) (by first | assumption | omega | simp_all)))) (fun A8 i9 j10 f11 r12 g17 g18 g13 g14 g15 g16 => ?_)))))))
    replace hT := qlpc g15 g16 hT
    clear g15 g16
    have f19 := frm_c f0 f11 rfl
    have t20 := ivf_at j10 6 rfl
    have t21 : A8 0 (fd 28) = A 0 (fd 28) := (frm_f f11 rfl)
    have t22 := ivf_at j10 8 rfl
    have t23 := ivf_at j10 9 rfl
    refine And.intro (fun h24 => ?_) (fun h24 => ?_)
    · replace hT := (if_neg h24).symm.trans hT
      exact Exists.intro (200 - A8 0 (fd 27) : Int).toNat (And.intro i9 (And.intro j10 (And.intro f19 (And.intro rfl (And.intro (by (first | (clear hm hnf; omega) | omega)) (And.intro (PS_kA (Or.resolve_left g13 (by (first | (clear hm hnf; omega) | omega))) rfl rfl (by (first | (clear hm hnf; omega) | omega))) (And.intro (by (first | (clear hm hnf; omega) | omega)) (Exists.intro 100000 (And.intro (by (first | (clear hm hnf; omega) | omega)) hT)))))))))
    · replace hT := (if_pos h24).symm.trans hT
      exact And.intro (by (first | (clear hm hnf; omega) | omega)) (hK _ i9 j10 f19 _ (by (first | (clear hm hnf; omega) | omega)) (by (first | (clear hm hnf; omega) | omega)) (Or.inl rfl) (by first | assumption | omega | simp_all) (by first | assumption | omega | simp_all) (congrArg Prod.fst hT) (congrArg Prod.snd hT))
