def sM_notes : qS := fun as A K => ∃ o v : Int, as = [rf 0, ni o, ni v] ∧ (iva IM A ∧ ivf JM A ∧ 0 ≤ o ∧ o ≤ 12 ∧ 0 ≤ v ∧ v ≤ 99999 ∧ (A 0 (fd 31) ≤ 219)) ∧ (∀ A' : qA, iva IM A' → ivf JM A' → frm [23] [(0, 31)] A A' → (A' 23 = (fun i => if i = A 0 (fd 31) then 1048576 * o + v else A 23 i)) → (A' 0 (fd 31) = A 0 (fd 31) + 1) → K none A')
theorem okM_notes : okM LM 1 167 sM_notes := by
  refine qmeth [] false [] 23 rfl trivial ?_
  rintro _ A K hA has ⟨o, v, rfl, ⟨i0, j0, p1, p2, p3, p4, p5⟩, hK⟩
  have rg_o : rng o := has (ni o) (by simp)
  have rg_v : rng v := has (ni v) (by simp)
  have f0 := frm_0 [23] [(0, 31)] A
  have hb_0_27 := ivf_at j0 6 rfl
  have hb_0_28 := ivf_at j0 7 rfl
  have hb_0_31 := ivf_at j0 8 rfl
  have hb_0_32 := ivf_at j0 9 rfl
  refine ⟨Nat.le_of_ble_eq_true rfl, [], trivial, ?_⟩
  refine fun v6 gv6 e7 => ?_
  have b8 := ivf_at j0 8 rfl
  have k9 : qn 1048576 = 1048576 := by decide
  refine fun v10 e11 => ?_
  rw [show qn 1048576 = 1048576 by decide] at e11
  refine fun v12 e13 => ?_
  refine And.intro (by omega) (And.intro (by omega) (fun A14 e15 => ?_))
  have i16 := iva_st i0 e15 (And.intro (by omega) trivial)
  have j17 := ivf_sa j0 e15 rfl
  have f18 := frm_s f0 e15 rfl
  have t19 : A14 0 (fd 27) = A 0 (fd 27) := (congrFun (st_a e15 rfl) _)
  have t20 : A14 0 (fd 28) = A 0 (fd 28) := (congrFun (st_a e15 rfl) _)
  have t21 : A14 0 (fd 31) = A 0 (fd 31) := (congrFun (st_a e15 rfl) _)
  have t22 : A14 0 (fd 32) = A 0 (fd 32) := (congrFun (st_a e15 rfl) _)
  refine fun v23 gv23 e24 => ?_
  have b25 := ivf_at j17 8 rfl
  have q26 : v6 = v23 := (e24.trans ((congrFun (st_a e15 rfl) _).trans e7.symm)).symm
  subst q26
  refine fun v27 e28 => ?_
  refine And.intro (by omega) (fun A29 e30 => ?_)
  have i31 := iva_sf i16 e30 rfl
  have j32 := ivf_st j17 e30 (And.intro (by omega) trivial)
  have f33 := frm_sf f18 e30 rfl
  have t34 : A29 0 (fd 27) = A14 0 (fd 27) := (st_f e30 rfl)
  have t35 : A29 0 (fd 28) = A14 0 (fd 28) := (st_f e30 rfl)
  have t36 := st_v e30
  have t37 : A29 0 (fd 32) = A14 0 (fd 32) := (st_f e30 rfl)
  exact hK _ i31 j32 f33 (up2 (Eq.trans (st_a e30 rfl) (st_u e15)) (by omega) (by omega)) (by first | assumption | omega | simp_all)
def sM_opens : qS := fun as A K => ∃ w : Int, as = [rf 0, ni w] ∧ (iva IM A ∧ ivf JM A ∧ 10 ≤ w ∧ w ≤ 14 ∧ (A 0 (fd 32) ≤ 219) ∧ (A 0 (fd 27) < A 0 (fd 28))) ∧ (∀ A' : qA, iva IM A' → ivf JM A' → frm [24] [(0, 27), (0, 29), (0, 30), (0, 32)] A A' → ∀ r : Int, 0 ≤ r → r ≤ 1 → (r = 0 ∨ A' 24 = (fun i => if i = A 0 (fd 32) then 1048576 * w else A 24 i)) → (r = 0 ∨ A' 0 (fd 32) = A 0 (fd 32) + 1) → (r = 0 ∨ A' 0 (fd 27) = A 0 (fd 27) + 1) → K (some (ni r)) A')
theorem okM_opens : okM LM 2 168 sM_opens := by
  refine qmeth [] true [(164, sM_wrongAt)] 44 rfl ⟨okM_wrongAt.le (by decide), trivial⟩ ?_
  rintro _ A K hA has ⟨w, rfl, ⟨i0, j0, p1, p2, p3, p4⟩, hK⟩
  have rg_w : rng w := has (ni w) (by simp)
  have f0 := frm_0 [24] [(0, 27), (0, 29), (0, 30), (0, 32)] A
  have hb_0_27 := ivf_at j0 6 rfl
  have hb_0_28 := ivf_at j0 7 rfl
  have hb_0_31 := ivf_at j0 8 rfl
  have hb_0_32 := ivf_at j0 9 rfl
  refine ⟨Nat.le_of_ble_eq_true rfl, [], trivial, ?_⟩
  refine fun v5 gv5 e6 => ?_
  refine And.intro (fun h7 => ?_) (fun h7 => ?_)
  · refine fun v8 gv8 e9 => ?_
    have q10 : v5 = v8 := (e9.trans e6.symm).symm
    subst q10
    refine fun v11 e12 => ?_
    have w15 := wI_rng v11
    refine fun A13 e14 => ?_
    have i16 := iva_sf i0 e14 rfl
    have j17 := ivf_st j0 e14 trivial
    have f18 := frm_sf f0 e14 rfl
    have t19 : A13 0 (fd 27) = A 0 (fd 27) := (st_f e14 rfl)
    have t20 : A13 0 (fd 28) = A 0 (fd 28) := (st_f e14 rfl)
    have t21 : A13 0 (fd 31) = A 0 (fd 31) := (st_f e14 rfl)
    have t22 : A13 0 (fd 32) = A 0 (fd 32) := (st_f e14 rfl)
    refine fun v23 gv23 e24 => ?_
    have b25 := ivf_at j17 9 rfl
    have k26 : qn 1048576 = 1048576 := by decide
    refine fun v27 e28 => ?_
    rw [show qn 1048576 = 1048576 by decide] at e28
    have w31 := wI_rng v27
    have w32 : wI v27 = v27 := wI_id (by omega)
    refine And.intro (by omega) (fun A29 e30 => ?_)
    have i33 := iva_st i16 e30 (And.intro (by omega) trivial)
    have j34 := ivf_sa j17 e30 rfl
    have f35 := frm_s f18 e30 rfl
    have t36 : A29 0 (fd 27) = A13 0 (fd 27) := (congrFun (st_a e30 rfl) _)
    have t37 : A29 0 (fd 28) = A13 0 (fd 28) := (congrFun (st_a e30 rfl) _)
    have t38 : A29 0 (fd 31) = A13 0 (fd 31) := (congrFun (st_a e30 rfl) _)
    have t39 : A29 0 (fd 32) = A13 0 (fd 32) := (congrFun (st_a e30 rfl) _)
    refine fun v40 gv40 e41 => ?_
    have b42 := ivf_at j34 9 rfl
    have q43 : v23 = v40 := (e41.trans ((congrFun (st_a e30 rfl) _).trans e24.symm)).symm
    subst q43
    refine fun v44 e45 => ?_
    have w48 := wI_rng v44
    have w49 : wI v44 = v44 := wI_id (by omega)
    refine fun A46 e47 => ?_
    have i50 := iva_sf i33 e47 rfl
    have j51 := ivf_st j34 e47 (And.intro (by omega) trivial)
    have f52 := frm_sf f35 e47 rfl
    have t53 : A46 0 (fd 27) = A29 0 (fd 27) := (st_f e47 rfl)
    have t54 : A46 0 (fd 28) = A29 0 (fd 28) := (st_f e47 rfl)
    have t55 : A46 0 (fd 31) = A29 0 (fd 31) := (st_f e47 rfl)
    have t56 := st_v e47
    refine fun v57 gv57 e58 => ?_
    have b59 := ivf_at j51 6 rfl
    refine fun v60 e61 => ?_
    have w64 := wI_rng v60
    have w65 : wI v60 = v60 := wI_id (by omega)
    refine fun A62 e63 => ?_
    have i66 := iva_sf i50 e63 rfl
    have j67 := ivf_st j51 e63 (And.intro (by omega) trivial)
    have f68 := frm_sf f52 e63 rfl
    have t69 := st_v e63
    have t70 : A62 0 (fd 28) = A46 0 (fd 28) := (st_f e63 rfl)
    have t71 : A62 0 (fd 31) = A46 0 (fd 31) := (st_f e63 rfl)
    have t72 : A62 0 (fd 32) = A46 0 (fd 32) := (st_f e63 rfl)
    exact And.intro (by omega) (hK _ i66 j67 f68 _ (by omega) (by omega) (Or.inr (up2 (Eq.trans (Eq.trans (st_a e63 rfl) (st_a e47 rfl)) (Eq.trans (st_u e30) (cu (st_a e14 rfl)))) (by omega) (by omega))) (by first | assumption | omega | simp_all) (by first | assumption | omega | simp_all))
  · refine fun v73 gv73 e74 => ?_
    have b75 := ivf_at j0 6 rfl
    refine Exists.intro 5 (Exists.intro v73 (And.intro rfl (And.intro (And.intro i0 (And.intro j0 (And.intro (by omega) (And.intro (by omega) (And.intro (by omega) (by omega)))))) (fun A76 i77 j78 f79 => (fun h80 => ?_)))))
    · have f81 := frm_c f0 f79 rfl
      have t82 : A76 0 (fd 27) = A 0 (fd 27) := (frm_f f79 rfl)
      have t83 : A76 0 (fd 28) = A 0 (fd 28) := (frm_f f79 rfl)
      have t84 : A76 0 (fd 31) = A 0 (fd 31) := (frm_f f79 rfl)
      have t85 : A76 0 (fd 32) = A 0 (fd 32) := (frm_f f79 rfl)
      exact And.intro (by omega) (hK _ i77 j78 f81 _ (by omega) (by omega) (Or.inl rfl) (by first | assumption | omega | simp_all) (by first | assumption | omega | simp_all))
def sM_top : qS := fun as A K => as = [rf 0] ∧ (iva IM A ∧ ivf JM A) ∧ (∀ r : Int, rng r → ((r = -1 ∧ A 0 (fd 32) = 0) ∨ (1 ≤ A 0 (fd 32) ∧ 0 ≤ r ∧ r ≤ 2047 ∧ r = A 24 (A 0 (fd 32) - 1) / 1048576)) → K (some (ni r)) A)
theorem okM_top : okM LM 1 169 sM_top := by
  refine qmeth [] false [] 21 rfl trivial ?_
  rintro _ A K hA has ⟨rfl, ⟨i0, j0⟩, hK⟩
  have f0 := frm_0 [] [] A
  refine ⟨Nat.le_of_ble_eq_true rfl, [], trivial, ?_⟩
  refine fun v1 gv1 e2 => ?_
  have b3 := ivf_at j0 9 rfl
  refine And.intro (fun h4 => ?_) (fun h4 => ?_)
  · refine fun v5 gv5 e6 => ?_
    have b7 := ivf_at j0 9 rfl
    have q8 : v1 = v5 := (e6.trans e2.symm).symm
    subst q8
    refine fun v9 e10 => ?_
    refine And.intro (by omega) (fun v11 gv11 e12 => ?_)
    have b13 := iva_at i0 12 rfl (i := v9) (by omega) (by omega)
    have k14 : qn 1048576 = 1048576 := by decide
    refine And.intro (by omega) (fun v15 e16 => ?_)
    have h17 := qd_nn (a := v11) (b := (qn 1048576)) (by omega)
    rw [show qn 1048576 = 1048576 by decide] at h17 e16
    exact And.intro (by omega) (hK _ (by first | exact wI_rng _ | omega | (exact (hA _ _).2 rfl)) (by first | omega | (subst_vars; omega)))
  · exact hK _ (by first | exact wI_rng _ | omega | (exact (hA _ _).2 rfl)) (by first | omega | (subst_vars; omega))
def sM_readsNumber : qS := fun as A K => as = [rf 0] ∧ (iva IM A ∧ ivf JM A ∧ (48 ≤ HR A) ∧ (HR A ≤ 57)) ∧ (∀ A' : qA, iva IM A' → ivf JM A' → frm [] [(0, 27), (0, 29), (0, 34)] A A' → ∀ r : Int, 0 ≤ r → r ≤ 1 → (r = 0 ∨ A 0 (fd 27) < A' 0 (fd 27)) → (r = 0 ∨ (0 ≤ A' 0 (fd 34) ∧ A' 0 (fd 34) ≤ 99999)) → K (some (ni r)) A')
theorem okM_readsNumber : okM LM 3 166 sM_readsNumber := by
  refine qmeth [] false [(163, sM_isDigit), (162, sM_here), (164, sM_wrongAt)] 47 rfl ⟨okM_isDigit.le (by decide), ⟨okM_here.le (by decide), ⟨okM_wrongAt.le (by decide), trivial⟩⟩⟩ ?_
  rintro _ A K hA has ⟨rfl, ⟨i0, j0, p1, p2⟩, hK⟩
  have f0 := frm_0 [] [(0, 27), (0, 29), (0, 34)] A
  have hb_0_27 := ivf_at j0 6 rfl
  have hb_0_28 := ivf_at j0 7 rfl
  have hb_0_31 := ivf_at j0 8 rfl
  have hb_0_32 := ivf_at j0 9 rfl
  refine ⟨Nat.le_of_ble_eq_true rfl, [(6, [(0, 2, 0), (1, 0, 0)], fun zs B nn => match zs with | [f] => iva IM B ∧ ivf JM B ∧ frm [] [(0, 27), (0, 29), (0, 34)] A B ∧ nn = (200 - B 0 (fd 27) : Int).toNat ∧ (f = A 0 (fd 27)) ∧ (f ≤ B 0 (fd 27)) ∧ (B 0 (fd 27) ≤ f + 5) ∧ (0 ≤ B 0 (fd 34)) ∧ (B 0 (fd 27) = f + 0 → B 0 (fd 34) ≤ 0) ∧ (B 0 (fd 27) = f + 1 → B 0 (fd 34) ≤ 9) ∧ (B 0 (fd 27) = f + 2 → B 0 (fd 34) ≤ 99) ∧ (B 0 (fd 27) = f + 3 → B 0 (fd 34) ≤ 999) ∧ (B 0 (fd 27) = f + 4 → B 0 (fd 34) ≤ 9999) ∧ (B 0 (fd 27) = f + 5 → B 0 (fd 34) ≤ 99999) ∧ (B 0 (fd 27) = f → (48 ≤ HR B ∧ HR B ≤ 57)) | _ => False)], ?_, ?_⟩
  · refine ⟨⟨rfl, ?_⟩, trivial⟩
    · refine fun f B mm hB hz hI => ?_
      obtain ⟨i1, j1, f1, hm, c0, c1, c2, c3, c4, c5, c6, c7, c8, c9, c10⟩ := hI
      obtain ⟨hz_f, _⟩ := hz
      have hc_0_27 := ivf_at j1 6 rfl
      have hc_0_28 := ivf_at j1 7 rfl
      have hc_0_31 := ivf_at j1 8 rfl
      have hc_0_32 := ivf_at j1 9 rfl
      refine And.intro rfl (And.intro (And.intro i1 j1) (fun r16 g19 g20 g17 g18 => ?_))
      refine And.intro (fun h21 => ?_) (fun h21 => ?_)
      · exact And.intro (by omega) (hK _ i1 j1 f1 _ (by omega) (by omega) (by first | assumption | omega | simp_all) (by first | assumption | omega | simp_all))
      · refine fun v22 gv22 e23 => ?_
        have b24 := ivf_at j1 6 rfl
        refine fun v25 e26 => ?_
        refine And.intro (by omega) (And.intro (fun h27 => ?_) (fun h27 => ?_))
        · refine fun v28 gv28 e29 => ?_
          refine fun v30 e31 => ?_
          refine And.intro rfl (And.intro (And.intro i1 j1) (fun r32 g35 g36 g33 g34 => ?_))
          refine fun v37 e38 => ?_
          refine fun v39 e40 => ?_
          refine And.intro (by omega) (fun A41 e42 => ?_)
          have i43 := iva_sf i1 e42 rfl
          have j44 := ivf_st j1 e42 trivial
          have f45 := frm_sf f1 e42 rfl
          have t46 : A41 0 (fd 27) = B 0 (fd 27) := (st_f e42 rfl)
          have t47 : A41 0 (fd 28) = B 0 (fd 28) := (st_f e42 rfl)
          have t48 : A41 0 (fd 31) = B 0 (fd 31) := (st_f e42 rfl)
          have t49 : A41 0 (fd 32) = B 0 (fd 32) := (st_f e42 rfl)
          have t50 := st_v e42
          refine fun v51 gv51 e52 => ?_
          have b53 := ivf_at j44 6 rfl
          have q54 : v22 = v51 := (e52.trans ((st_f e42 rfl).trans e23.symm)).symm
          subst q54
          refine fun v55 e56 => ?_
          refine And.intro (by omega) (fun A57 e58 => ?_)
          have i59 := iva_sf i43 e58 rfl
          have j60 := ivf_st j44 e58 (And.intro (by omega) trivial)
          have f61 := frm_sf f45 e58 rfl
          have t62 := st_v e58
          have t63 : A57 0 (fd 28) = A41 0 (fd 28) := (st_f e58 rfl)
          have t64 : A57 0 (fd 31) = A41 0 (fd 31) := (st_f e58 rfl)
          have t65 : A57 0 (fd 32) = A41 0 (fd 32) := (st_f e58 rfl)
          have t66 : A57 0 (fd 34) = A41 0 (fd 34) := (st_f e58 rfl)
          exact Exists.intro (200 - A57 0 (fd 27) : Int).toNat (And.intro (by omega) (And.intro i59 (And.intro j60 (And.intro f61 (And.intro rfl (And.intro (by omega) (And.intro (by omega) (And.intro (by omega) (And.intro (by omega) (And.intro (by omega) (And.intro (by omega) (And.intro (by omega) (And.intro (by omega) (And.intro (by omega) (And.intro (by omega) (by first | omega | (have hk := HR_k (A := A) (A' := A57) (Eq.trans (Eq.trans (st_a e58 rfl) (st_a e42 rfl)) (frm_a f1 rfl)) (by omega) (by omega); omega)))))))))))))))))
        · refine fun v67 gv67 e68 => ?_
          have b69 := ivf_at j1 6 rfl
          have q70 : v22 = v67 := (e68.trans e23.symm).symm
          subst q70
          refine Exists.intro 2 (Exists.intro v22 (And.intro rfl (And.intro (And.intro i1 (And.intro j1 (And.intro (by omega) (And.intro (by omega) (And.intro (by omega) (by omega)))))) (fun A71 i72 j73 f74 => (fun h75 => ?_)))))
          · have f76 := frm_c f1 f74 rfl
            have t77 : A71 0 (fd 27) = B 0 (fd 27) := (frm_f f74 rfl)
            have t78 : A71 0 (fd 28) = B 0 (fd 28) := (frm_f f74 rfl)
            have t79 : A71 0 (fd 31) = B 0 (fd 31) := (frm_f f74 rfl)
            have t80 : A71 0 (fd 32) = B 0 (fd 32) := (frm_f f74 rfl)
            have t81 : A71 0 (fd 34) = B 0 (fd 34) := (frm_f f74 rfl)
            exact And.intro (by omega) (hK _ i72 j73 f76 _ (by omega) (by omega) (by first | assumption | omega | simp_all) (by first | assumption | omega | simp_all))
  · refine fun v3 gv3 e4 => ?_
    have b5 := ivf_at j0 6 rfl
    refine fun A6 e7 => ?_
    have i8 := iva_sf i0 e7 rfl
    have j9 := ivf_st j0 e7 trivial
    have f10 := frm_sf f0 e7 rfl
    have t11 : A6 0 (fd 27) = A 0 (fd 27) := (st_f e7 rfl)
    have t12 : A6 0 (fd 28) = A 0 (fd 28) := (st_f e7 rfl)
    have t13 : A6 0 (fd 31) = A 0 (fd 31) := (st_f e7 rfl)
    have t14 : A6 0 (fd 32) = A 0 (fd 32) := (st_f e7 rfl)
    have t15 := st_v e7
    exact Exists.intro (200 - A6 0 (fd 27) : Int).toNat (And.intro i8 (And.intro j9 (And.intro f10 (And.intro rfl (And.intro (by omega) (And.intro (by omega) (And.intro (by omega) (And.intro (by omega) (And.intro (by omega) (And.intro (by omega) (And.intro (by omega) (And.intro (by omega) (And.intro (by omega) (And.intro (by omega) (by first | omega | (have hk := HR_k (A := A) (A' := A6) (st_a e7 rfl) (by omega) (by omega); omega))))))))))))))))
def sM_closesSums : qS := fun as A K => ∃ a : Int, ∃ u0 : Int → Int, ∃ f : Int, ∃ b : Int, ∃ e : Int, ∃ x : Int, as = [rf 0, ni a] ∧ (iva IM A ∧ ivf JM A ∧ 0 ≤ a ∧ a ≤ 1 ∧ (PS A u0 f b e x) ∧ (1 ≤ e) ∧ ((-1) ≤ x)) ∧ (∀ A' : qA, iva IM A' → ivf JM A' → frm [23] [(0, 31), (0, 32)] A A' → (PS A' u0 f b e x) → (A' 0 (fd 32) ≤ A 0 (fd 32)) → (a = 1 → (A' 0 (fd 32) = 0 ∨ A' 24 (A' 0 (fd 32) - 1) / 1048576 < 2 ∨ 6 < A' 24 (A' 0 (fd 32) - 1) / 1048576)) → (∀ j, j < A 0 (fd 32) → A 24 j / 1048576 = 14 → j < A' 0 (fd 32)) → K none A')
theorem okM_closesSums : okM LM 2 172 sM_closesSums := by
  refine qmeth [] false [(169, sM_top), (167, sM_notes)] 37 rfl ⟨okM_top.le (by decide), ⟨okM_notes.le (by decide), trivial⟩⟩ ?_
  rintro _ A K hA has ⟨a, u0, f, b, e, x, rfl, ⟨i0, j0, p1, p2, p3, p4, p5⟩, hK⟩
  have rg_a : rng a := has (ni a) (by simp)
  have f0 := frm_0 [23] [(0, 31), (0, 32)] A
  have hb_0_27 := ivf_at j0 6 rfl
  have hb_0_28 := ivf_at j0 7 rfl
  have hb_0_31 := ivf_at j0 8 rfl
  have hb_0_32 := ivf_at j0 9 rfl
  refine ⟨Nat.le_of_ble_eq_true rfl, [(0, [(0, 2, 0), (1, 0, 0)], fun zs B nn => match zs with | [l1] => iva IM B ∧ ivf JM B ∧ frm [23] [(0, 31), (0, 32)] A B ∧ nn = (B 0 (fd 32) : Int).toNat ∧ (l1 = a) ∧ (PS B u0 f b e x) ∧ (B 0 (fd 32) ≤ A 0 (fd 32)) ∧ (∀ j, j < A 0 (fd 32) → A 24 j / 1048576 = 14 → j < B 0 (fd 32)) | _ => False)], ?_, ?_⟩
  · refine ⟨⟨rfl, ?_⟩, trivial⟩
    · refine fun l1 B mm hB hz hI => ?_
      obtain ⟨i1, j1, f1, hm, c0, c1, c2, c3⟩ := hI
      obtain ⟨hz_l1, _⟩ := hz
      have hc_0_27 := ivf_at j1 6 rfl
      have hc_0_28 := ivf_at j1 7 rfl
      have hc_0_31 := ivf_at j1 8 rfl
      have hc_0_32 := ivf_at j1 9 rfl
      refine And.intro rfl (And.intro (And.intro i1 j1) (fun r202 g204 g203 => ?_))
      refine And.intro (fun h205 => ?_) (fun h205 => ?_)
      · refine And.intro (fun h206 => ?_) (fun h206 => ?_)
        · exact hK _ i1 j1 f1 (PS_k c1 rfl rfl (by omega) (by omega) (by omega) (by omega) (by omega) (by omega)) (by first | assumption | omega | exact fun j h0 h1 => h0) (by first | assumption | omega | exact fun j h0 h1 => h0) (by first | assumption | omega | exact fun j h0 h1 => h0)
        · refine And.intro rfl (And.intro (And.intro i1 j1) (fun r207 g209 g208 => ?_))
          refine And.intro (fun h210 => ?_) (fun h210 => ?_)
          · have hhi := PS_hi c1 (by omega) (by omega)
            refine And.intro rfl (And.intro (And.intro i1 j1) (fun r211 g213 g212 => ?_))
            have z214 := PS_bd c1
            refine Exists.intro r211 (Exists.intro 0 (And.intro rfl (And.intro (And.intro i1 (And.intro j1 (And.intro (by omega) (And.intro (by omega) (And.intro (by omega) (And.intro (by omega) (by first | assumption | omega | simp_all))))))) (fun A215 i216 j217 f218 g219 g220 => ?_))))
            have f221 := frm_c f1 f218 rfl
            have t222 : A215 0 (fd 27) = B 0 (fd 27) := (frm_f f218 rfl)
            have t223 : A215 0 (fd 28) = B 0 (fd 28) := (frm_f f218 rfl)
            have t224 := ivf_at j217 8 rfl
            have t225 : A215 0 (fd 32) = B 0 (fd 32) := (frm_f f218 rfl)
            have ps226 := (PS_n c1 g219 (frm_a f218 rfl) (by omega) (by omega) (by omega) (by omega) (by omega) (by omega) (by omega) : PS A215 u0 f b (e - 1) (x - 1))
            have z227 := PS_bd ps226
            have z228 := top_k (A := B) (A' := A215) (frm_a f218 rfl) (by omega)
            refine fun v229 gv229 e230 => ?_
            have b231 := ivf_at j217 9 rfl
            refine fun v232 e233 => ?_
            refine And.intro (by omega) (fun A234 e235 => ?_)
            have i236 := iva_sf i216 e235 rfl
            have j237 := ivf_st j217 e235 (And.intro (by omega) trivial)
            have f238 := frm_sf f221 e235 rfl
            have t239 : A234 0 (fd 27) = A215 0 (fd 27) := (st_f e235 rfl)
            have t240 : A234 0 (fd 28) = A215 0 (fd 28) := (st_f e235 rfl)
            have t241 : A234 0 (fd 31) = A215 0 (fd 31) := (st_f e235 rfl)
            have t242 := st_v e235
            have ps243 := (PS_p ps226 (st_a e235 rfl) (st_a e235 rfl) (by omega) (by omega) (by omega) (by omega) (by omega) (by omega) (by omega) (by omega) : PS A234 u0 f b e x)
            have z244 := PS_bd ps243
            exact Exists.intro (A234 0 (fd 32) : Int).toNat (And.intro (by omega) (And.intro i236 (And.intro j237 (And.intro f238 (And.intro rfl (And.intro (by omega) (And.intro (PS_k ps243 rfl rfl (by omega) (by omega) (by omega) (by omega) (by omega) (by omega)) (And.intro (by omega) (by first | exact fun j h0 h1 => h0 | (intro j h0 h1; by_cases hj : j = A 0 (fd 32) - 1; (subst hj; omega); omega) | (intro j h0 h1; have h2 := c3 j h0 h1; rw [← (frm_a f1 (r := 24) rfl)] at h1; by_cases hj : j = B 0 (fd 32) - 1; (subst hj; omega); omega))))))))))
          · refine And.intro rfl (And.intro (And.intro i1 j1) (fun r245 g247 g246 => ?_))
            refine And.intro (fun h248 => ?_) (fun h248 => ?_)
            · exact hK _ i1 j1 f1 (PS_k c1 rfl rfl (by omega) (by omega) (by omega) (by omega) (by omega) (by omega)) (by first | assumption | omega | exact fun j h0 h1 => h0) (by first | assumption | omega | exact fun j h0 h1 => h0) (by first | assumption | omega | exact fun j h0 h1 => h0)
            · have hhi := PS_hi c1 (by omega) (by omega)
              refine And.intro rfl (And.intro (And.intro i1 j1) (fun r249 g251 g250 => ?_))
              have z252 := PS_bd c1
              refine Exists.intro r249 (Exists.intro 0 (And.intro rfl (And.intro (And.intro i1 (And.intro j1 (And.intro (by omega) (And.intro (by omega) (And.intro (by omega) (And.intro (by omega) (by first | assumption | omega | simp_all))))))) (fun A253 i254 j255 f256 g257 g258 => ?_))))
              have f259 := frm_c f1 f256 rfl
              have t260 : A253 0 (fd 27) = B 0 (fd 27) := (frm_f f256 rfl)
              have t261 : A253 0 (fd 28) = B 0 (fd 28) := (frm_f f256 rfl)
              have t262 := ivf_at j255 8 rfl
              have t263 : A253 0 (fd 32) = B 0 (fd 32) := (frm_f f256 rfl)
              have ps264 := (PS_n c1 g257 (frm_a f256 rfl) (by omega) (by omega) (by omega) (by omega) (by omega) (by omega) (by omega) : PS A253 u0 f b (e - 1) (x - 1))
              have z265 := PS_bd ps264
              have z266 := top_k (A := B) (A' := A253) (frm_a f256 rfl) (by omega)
              refine fun v267 gv267 e268 => ?_
              have b269 := ivf_at j255 9 rfl
              refine fun v270 e271 => ?_
              refine And.intro (by omega) (fun A272 e273 => ?_)
              have i274 := iva_sf i254 e273 rfl
              have j275 := ivf_st j255 e273 (And.intro (by omega) trivial)
              have f276 := frm_sf f259 e273 rfl
              have t277 : A272 0 (fd 27) = A253 0 (fd 27) := (st_f e273 rfl)
              have t278 : A272 0 (fd 28) = A253 0 (fd 28) := (st_f e273 rfl)
              have t279 : A272 0 (fd 31) = A253 0 (fd 31) := (st_f e273 rfl)
              have t280 := st_v e273
              have ps281 := (PS_p ps264 (st_a e273 rfl) (st_a e273 rfl) (by omega) (by omega) (by omega) (by omega) (by omega) (by omega) (by omega) (by omega) : PS A272 u0 f b e x)
              have z282 := PS_bd ps281
              exact Exists.intro (A272 0 (fd 32) : Int).toNat (And.intro (by omega) (And.intro i274 (And.intro j275 (And.intro f276 (And.intro rfl (And.intro (by omega) (And.intro (PS_k ps281 rfl rfl (by omega) (by omega) (by omega) (by omega) (by omega) (by omega)) (And.intro (by omega) (by first | exact fun j h0 h1 => h0 | (intro j h0 h1; by_cases hj : j = A 0 (fd 32) - 1; (subst hj; omega); omega) | (intro j h0 h1; have h2 := c3 j h0 h1; rw [← (frm_a f1 (r := 24) rfl)] at h1; by_cases hj : j = B 0 (fd 32) - 1; (subst hj; omega); omega))))))))))
      · refine And.intro rfl (And.intro (And.intro i1 j1) (fun r283 g285 g284 => ?_))
        refine And.intro (fun h286 => ?_) (fun h286 => ?_)
        · have hhi := PS_hi c1 (by omega) (by omega)
          refine And.intro rfl (And.intro (And.intro i1 j1) (fun r287 g289 g288 => ?_))
          have z290 := PS_bd c1
          refine Exists.intro r287 (Exists.intro 0 (And.intro rfl (And.intro (And.intro i1 (And.intro j1 (And.intro (by omega) (And.intro (by omega) (And.intro (by omega) (And.intro (by omega) (by first | assumption | omega | simp_all))))))) (fun A291 i292 j293 f294 g295 g296 => ?_))))
          have f297 := frm_c f1 f294 rfl
          have t298 : A291 0 (fd 27) = B 0 (fd 27) := (frm_f f294 rfl)
          have t299 : A291 0 (fd 28) = B 0 (fd 28) := (frm_f f294 rfl)
          have t300 := ivf_at j293 8 rfl
          have t301 : A291 0 (fd 32) = B 0 (fd 32) := (frm_f f294 rfl)
          have ps302 := (PS_n c1 g295 (frm_a f294 rfl) (by omega) (by omega) (by omega) (by omega) (by omega) (by omega) (by omega) : PS A291 u0 f b (e - 1) (x - 1))
          have z303 := PS_bd ps302
          have z304 := top_k (A := B) (A' := A291) (frm_a f294 rfl) (by omega)
          refine fun v305 gv305 e306 => ?_
          have b307 := ivf_at j293 9 rfl
          refine fun v308 e309 => ?_
          refine And.intro (by omega) (fun A310 e311 => ?_)
          have i312 := iva_sf i292 e311 rfl
          have j313 := ivf_st j293 e311 (And.intro (by omega) trivial)
          have f314 := frm_sf f297 e311 rfl
          have t315 : A310 0 (fd 27) = A291 0 (fd 27) := (st_f e311 rfl)
          have t316 : A310 0 (fd 28) = A291 0 (fd 28) := (st_f e311 rfl)
          have t317 : A310 0 (fd 31) = A291 0 (fd 31) := (st_f e311 rfl)
          have t318 := st_v e311
          have ps319 := (PS_p ps302 (st_a e311 rfl) (st_a e311 rfl) (by omega) (by omega) (by omega) (by omega) (by omega) (by omega) (by omega) (by omega) : PS A310 u0 f b e x)
          have z320 := PS_bd ps319
          exact Exists.intro (A310 0 (fd 32) : Int).toNat (And.intro (by omega) (And.intro i312 (And.intro j313 (And.intro f314 (And.intro rfl (And.intro (by omega) (And.intro (PS_k ps319 rfl rfl (by omega) (by omega) (by omega) (by omega) (by omega) (by omega)) (And.intro (by omega) (by first | exact fun j h0 h1 => h0 | (intro j h0 h1; by_cases hj : j = A 0 (fd 32) - 1; (subst hj; omega); omega) | (intro j h0 h1; have h2 := c3 j h0 h1; rw [← (frm_a f1 (r := 24) rfl)] at h1; by_cases hj : j = B 0 (fd 32) - 1; (subst hj; omega); omega))))))))))
        · refine And.intro (fun h321 => ?_) (fun h321 => ?_)
          · exact hK _ i1 j1 f1 (PS_k c1 rfl rfl (by omega) (by omega) (by omega) (by omega) (by omega) (by omega)) (by first | assumption | omega | exact fun j h0 h1 => h0) (by first | assumption | omega | exact fun j h0 h1 => h0) (by first | assumption | omega | exact fun j h0 h1 => h0)
          · refine And.intro rfl (And.intro (And.intro i1 j1) (fun r322 g324 g323 => ?_))
            refine And.intro (fun h325 => ?_) (fun h325 => ?_)
            · have hhi := PS_hi c1 (by omega) (by omega)
              refine And.intro rfl (And.intro (And.intro i1 j1) (fun r326 g328 g327 => ?_))
              have z329 := PS_bd c1
              refine Exists.intro r326 (Exists.intro 0 (And.intro rfl (And.intro (And.intro i1 (And.intro j1 (And.intro (by omega) (And.intro (by omega) (And.intro (by omega) (And.intro (by omega) (by first | assumption | omega | simp_all))))))) (fun A330 i331 j332 f333 g334 g335 => ?_))))
              have f336 := frm_c f1 f333 rfl
              have t337 : A330 0 (fd 27) = B 0 (fd 27) := (frm_f f333 rfl)
              have t338 : A330 0 (fd 28) = B 0 (fd 28) := (frm_f f333 rfl)
              have t339 := ivf_at j332 8 rfl
              have t340 : A330 0 (fd 32) = B 0 (fd 32) := (frm_f f333 rfl)
              have ps341 := (PS_n c1 g334 (frm_a f333 rfl) (by omega) (by omega) (by omega) (by omega) (by omega) (by omega) (by omega) : PS A330 u0 f b (e - 1) (x - 1))
              have z342 := PS_bd ps341
              have z343 := top_k (A := B) (A' := A330) (frm_a f333 rfl) (by omega)
              refine fun v344 gv344 e345 => ?_
              have b346 := ivf_at j332 9 rfl
              refine fun v347 e348 => ?_
              refine And.intro (by omega) (fun A349 e350 => ?_)
              have i351 := iva_sf i331 e350 rfl
              have j352 := ivf_st j332 e350 (And.intro (by omega) trivial)
              have f353 := frm_sf f336 e350 rfl
              have t354 : A349 0 (fd 27) = A330 0 (fd 27) := (st_f e350 rfl)
              have t355 : A349 0 (fd 28) = A330 0 (fd 28) := (st_f e350 rfl)
              have t356 : A349 0 (fd 31) = A330 0 (fd 31) := (st_f e350 rfl)
              have t357 := st_v e350
              have ps358 := (PS_p ps341 (st_a e350 rfl) (st_a e350 rfl) (by omega) (by omega) (by omega) (by omega) (by omega) (by omega) (by omega) (by omega) : PS A349 u0 f b e x)
              have z359 := PS_bd ps358
              exact Exists.intro (A349 0 (fd 32) : Int).toNat (And.intro (by omega) (And.intro i351 (And.intro j352 (And.intro f353 (And.intro rfl (And.intro (by omega) (And.intro (PS_k ps358 rfl rfl (by omega) (by omega) (by omega) (by omega) (by omega) (by omega)) (And.intro (by omega) (by first | exact fun j h0 h1 => h0 | (intro j h0 h1; by_cases hj : j = A 0 (fd 32) - 1; (subst hj; omega); omega) | (intro j h0 h1; have h2 := c3 j h0 h1; rw [← (frm_a f1 (r := 24) rfl)] at h1; by_cases hj : j = B 0 (fd 32) - 1; (subst hj; omega); omega))))))))))
            · refine And.intro rfl (And.intro (And.intro i1 j1) (fun r360 g362 g361 => ?_))
              refine And.intro (fun h363 => ?_) (fun h363 => ?_)
              · exact hK _ i1 j1 f1 (PS_k c1 rfl rfl (by omega) (by omega) (by omega) (by omega) (by omega) (by omega)) (by first | assumption | omega | exact fun j h0 h1 => h0) (by first | assumption | omega | exact fun j h0 h1 => h0) (by first | assumption | omega | exact fun j h0 h1 => h0)
              · have hhi := PS_hi c1 (by omega) (by omega)
                refine And.intro rfl (And.intro (And.intro i1 j1) (fun r364 g366 g365 => ?_))
                have z367 := PS_bd c1
                refine Exists.intro r364 (Exists.intro 0 (And.intro rfl (And.intro (And.intro i1 (And.intro j1 (And.intro (by omega) (And.intro (by omega) (And.intro (by omega) (And.intro (by omega) (by first | assumption | omega | simp_all))))))) (fun A368 i369 j370 f371 g372 g373 => ?_))))
                have f374 := frm_c f1 f371 rfl
                have t375 : A368 0 (fd 27) = B 0 (fd 27) := (frm_f f371 rfl)
                have t376 : A368 0 (fd 28) = B 0 (fd 28) := (frm_f f371 rfl)
                have t377 := ivf_at j370 8 rfl
                have t378 : A368 0 (fd 32) = B 0 (fd 32) := (frm_f f371 rfl)
                have ps379 := (PS_n c1 g372 (frm_a f371 rfl) (by omega) (by omega) (by omega) (by omega) (by omega) (by omega) (by omega) : PS A368 u0 f b (e - 1) (x - 1))
                have z380 := PS_bd ps379
                have z381 := top_k (A := B) (A' := A368) (frm_a f371 rfl) (by omega)
                refine fun v382 gv382 e383 => ?_
                have b384 := ivf_at j370 9 rfl
                refine fun v385 e386 => ?_
                refine And.intro (by omega) (fun A387 e388 => ?_)
                have i389 := iva_sf i369 e388 rfl
                have j390 := ivf_st j370 e388 (And.intro (by omega) trivial)
                have f391 := frm_sf f374 e388 rfl
                have t392 : A387 0 (fd 27) = A368 0 (fd 27) := (st_f e388 rfl)
                have t393 : A387 0 (fd 28) = A368 0 (fd 28) := (st_f e388 rfl)
                have t394 : A387 0 (fd 31) = A368 0 (fd 31) := (st_f e388 rfl)
                have t395 := st_v e388
                have ps396 := (PS_p ps379 (st_a e388 rfl) (st_a e388 rfl) (by omega) (by omega) (by omega) (by omega) (by omega) (by omega) (by omega) (by omega) : PS A387 u0 f b e x)
                have z397 := PS_bd ps396
                exact Exists.intro (A387 0 (fd 32) : Int).toNat (And.intro (by omega) (And.intro i389 (And.intro j390 (And.intro f391 (And.intro rfl (And.intro (by omega) (And.intro (PS_k ps396 rfl rfl (by omega) (by omega) (by omega) (by omega) (by omega) (by omega)) (And.intro (by omega) (by first | exact fun j h0 h1 => h0 | (intro j h0 h1; by_cases hj : j = A 0 (fd 32) - 1; (subst hj; omega); omega) | (intro j h0 h1; have h2 := c3 j h0 h1; rw [← (frm_a f1 (r := 24) rfl)] at h1; by_cases hj : j = B 0 (fd 32) - 1; (subst hj; omega); omega))))))))))
  · refine And.intro rfl (And.intro (And.intro i0 j0) (fun r6 g8 g7 => ?_))
    refine And.intro (fun h9 => ?_) (fun h9 => ?_)
    · refine And.intro (fun h10 => ?_) (fun h10 => ?_)
      · exact hK _ i0 j0 f0 (PS_k p3 rfl rfl (by omega) (by omega) (by omega) (by omega) (by omega) (by omega)) (by first | assumption | omega | exact fun j h0 h1 => h0) (by first | assumption | omega | exact fun j h0 h1 => h0) (by first | assumption | omega | exact fun j h0 h1 => h0)
      · refine And.intro rfl (And.intro (And.intro i0 j0) (fun r11 g13 g12 => ?_))
        refine And.intro (fun h14 => ?_) (fun h14 => ?_)
        · have hhi := PS_hi p3 (by omega) (by omega)
          refine And.intro rfl (And.intro (And.intro i0 j0) (fun r15 g17 g16 => ?_))
          have z18 := PS_bd p3
          refine Exists.intro r15 (Exists.intro 0 (And.intro rfl (And.intro (And.intro i0 (And.intro j0 (And.intro (by omega) (And.intro (by omega) (And.intro (by omega) (And.intro (by omega) (by first | assumption | omega | simp_all))))))) (fun A19 i20 j21 f22 g23 g24 => ?_))))
          have f25 := frm_c f0 f22 rfl
          have t26 : A19 0 (fd 27) = A 0 (fd 27) := (frm_f f22 rfl)
          have t27 : A19 0 (fd 28) = A 0 (fd 28) := (frm_f f22 rfl)
          have t28 := ivf_at j21 8 rfl
          have t29 : A19 0 (fd 32) = A 0 (fd 32) := (frm_f f22 rfl)
          have ps30 := (PS_n p3 g23 (frm_a f22 rfl) (by omega) (by omega) (by omega) (by omega) (by omega) (by omega) (by omega) : PS A19 u0 f b (e - 1) (x - 1))
          have z31 := PS_bd ps30
          have z32 := top_k (A := A) (A' := A19) (frm_a f22 rfl) (by omega)
          refine fun v33 gv33 e34 => ?_
          have b35 := ivf_at j21 9 rfl
          refine fun v36 e37 => ?_
          refine And.intro (by omega) (fun A38 e39 => ?_)
          have i40 := iva_sf i20 e39 rfl
          have j41 := ivf_st j21 e39 (And.intro (by omega) trivial)
          have f42 := frm_sf f25 e39 rfl
          have t43 : A38 0 (fd 27) = A19 0 (fd 27) := (st_f e39 rfl)
          have t44 : A38 0 (fd 28) = A19 0 (fd 28) := (st_f e39 rfl)
          have t45 : A38 0 (fd 31) = A19 0 (fd 31) := (st_f e39 rfl)
          have t46 := st_v e39
          have ps47 := (PS_p ps30 (st_a e39 rfl) (st_a e39 rfl) (by omega) (by omega) (by omega) (by omega) (by omega) (by omega) (by omega) (by omega) : PS A38 u0 f b e x)
          have z48 := PS_bd ps47
          exact Exists.intro (A38 0 (fd 32) : Int).toNat (And.intro i40 (And.intro j41 (And.intro f42 (And.intro rfl (And.intro (by omega) (And.intro (PS_k ps47 rfl rfl (by omega) (by omega) (by omega) (by omega) (by omega) (by omega)) (And.intro (by omega) (by first | exact fun j h0 h1 => h0 | (intro j h0 h1; by_cases hj : j = A 0 (fd 32) - 1; (subst hj; omega); omega) | (intro j h0 h1; have h2 := hK j h0 h1; rw [← (frm_a f0 (r := 24) rfl)] at h1; by_cases hj : j = B 0 (fd 32) - 1; (subst hj; omega); omega)))))))))
        · refine And.intro rfl (And.intro (And.intro i0 j0) (fun r49 g51 g50 => ?_))
          refine And.intro (fun h52 => ?_) (fun h52 => ?_)
          · exact hK _ i0 j0 f0 (PS_k p3 rfl rfl (by omega) (by omega) (by omega) (by omega) (by omega) (by omega)) (by first | assumption | omega | exact fun j h0 h1 => h0) (by first | assumption | omega | exact fun j h0 h1 => h0) (by first | assumption | omega | exact fun j h0 h1 => h0)
          · have hhi := PS_hi p3 (by omega) (by omega)
            refine And.intro rfl (And.intro (And.intro i0 j0) (fun r53 g55 g54 => ?_))
            have z56 := PS_bd p3
            refine Exists.intro r53 (Exists.intro 0 (And.intro rfl (And.intro (And.intro i0 (And.intro j0 (And.intro (by omega) (And.intro (by omega) (And.intro (by omega) (And.intro (by omega) (by first | assumption | omega | simp_all))))))) (fun A57 i58 j59 f60 g61 g62 => ?_))))
            have f63 := frm_c f0 f60 rfl
            have t64 : A57 0 (fd 27) = A 0 (fd 27) := (frm_f f60 rfl)
            have t65 : A57 0 (fd 28) = A 0 (fd 28) := (frm_f f60 rfl)
            have t66 := ivf_at j59 8 rfl
            have t67 : A57 0 (fd 32) = A 0 (fd 32) := (frm_f f60 rfl)
            have ps68 := (PS_n p3 g61 (frm_a f60 rfl) (by omega) (by omega) (by omega) (by omega) (by omega) (by omega) (by omega) : PS A57 u0 f b (e - 1) (x - 1))
            have z69 := PS_bd ps68
            have z70 := top_k (A := A) (A' := A57) (frm_a f60 rfl) (by omega)
            refine fun v71 gv71 e72 => ?_
            have b73 := ivf_at j59 9 rfl
            refine fun v74 e75 => ?_
            refine And.intro (by omega) (fun A76 e77 => ?_)
            have i78 := iva_sf i58 e77 rfl
            have j79 := ivf_st j59 e77 (And.intro (by omega) trivial)
            have f80 := frm_sf f63 e77 rfl
            have t81 : A76 0 (fd 27) = A57 0 (fd 27) := (st_f e77 rfl)
            have t82 : A76 0 (fd 28) = A57 0 (fd 28) := (st_f e77 rfl)
            have t83 : A76 0 (fd 31) = A57 0 (fd 31) := (st_f e77 rfl)
            have t84 := st_v e77
            have ps85 := (PS_p ps68 (st_a e77 rfl) (st_a e77 rfl) (by omega) (by omega) (by omega) (by omega) (by omega) (by omega) (by omega) (by omega) : PS A76 u0 f b e x)
            have z86 := PS_bd ps85
            exact Exists.intro (A76 0 (fd 32) : Int).toNat (And.intro i78 (And.intro j79 (And.intro f80 (And.intro rfl (And.intro (by omega) (And.intro (PS_k ps85 rfl rfl (by omega) (by omega) (by omega) (by omega) (by omega) (by omega)) (And.intro (by omega) (by first | exact fun j h0 h1 => h0 | (intro j h0 h1; by_cases hj : j = A 0 (fd 32) - 1; (subst hj; omega); omega) | (intro j h0 h1; have h2 := hK j h0 h1; rw [← (frm_a f0 (r := 24) rfl)] at h1; by_cases hj : j = B 0 (fd 32) - 1; (subst hj; omega); omega)))))))))
    · refine And.intro rfl (And.intro (And.intro i0 j0) (fun r87 g89 g88 => ?_))
      refine And.intro (fun h90 => ?_) (fun h90 => ?_)
      · have hhi := PS_hi p3 (by omega) (by omega)
        refine And.intro rfl (And.intro (And.intro i0 j0) (fun r91 g93 g92 => ?_))
        have z94 := PS_bd p3
        refine Exists.intro r91 (Exists.intro 0 (And.intro rfl (And.intro (And.intro i0 (And.intro j0 (And.intro (by omega) (And.intro (by omega) (And.intro (by omega) (And.intro (by omega) (by first | assumption | omega | simp_all))))))) (fun A95 i96 j97 f98 g99 g100 => ?_))))
        have f101 := frm_c f0 f98 rfl
        have t102 : A95 0 (fd 27) = A 0 (fd 27) := (frm_f f98 rfl)
        have t103 : A95 0 (fd 28) = A 0 (fd 28) := (frm_f f98 rfl)
        have t104 := ivf_at j97 8 rfl
        have t105 : A95 0 (fd 32) = A 0 (fd 32) := (frm_f f98 rfl)
        have ps106 := (PS_n p3 g99 (frm_a f98 rfl) (by omega) (by omega) (by omega) (by omega) (by omega) (by omega) (by omega) : PS A95 u0 f b (e - 1) (x - 1))
        have z107 := PS_bd ps106
        have z108 := top_k (A := A) (A' := A95) (frm_a f98 rfl) (by omega)
        refine fun v109 gv109 e110 => ?_
        have b111 := ivf_at j97 9 rfl
        refine fun v112 e113 => ?_
        refine And.intro (by omega) (fun A114 e115 => ?_)
        have i116 := iva_sf i96 e115 rfl
        have j117 := ivf_st j97 e115 (And.intro (by omega) trivial)
        have f118 := frm_sf f101 e115 rfl
        have t119 : A114 0 (fd 27) = A95 0 (fd 27) := (st_f e115 rfl)
        have t120 : A114 0 (fd 28) = A95 0 (fd 28) := (st_f e115 rfl)
        have t121 : A114 0 (fd 31) = A95 0 (fd 31) := (st_f e115 rfl)
        have t122 := st_v e115
        have ps123 := (PS_p ps106 (st_a e115 rfl) (st_a e115 rfl) (by omega) (by omega) (by omega) (by omega) (by omega) (by omega) (by omega) (by omega) : PS A114 u0 f b e x)
        have z124 := PS_bd ps123
        exact Exists.intro (A114 0 (fd 32) : Int).toNat (And.intro i116 (And.intro j117 (And.intro f118 (And.intro rfl (And.intro (by omega) (And.intro (PS_k ps123 rfl rfl (by omega) (by omega) (by omega) (by omega) (by omega) (by omega)) (And.intro (by omega) (by first | exact fun j h0 h1 => h0 | (intro j h0 h1; by_cases hj : j = A 0 (fd 32) - 1; (subst hj; omega); omega) | (intro j h0 h1; have h2 := hK j h0 h1; rw [← (frm_a f0 (r := 24) rfl)] at h1; by_cases hj : j = B 0 (fd 32) - 1; (subst hj; omega); omega)))))))))
      · refine And.intro (fun h125 => ?_) (fun h125 => ?_)
        · exact hK _ i0 j0 f0 (PS_k p3 rfl rfl (by omega) (by omega) (by omega) (by omega) (by omega) (by omega)) (by first | assumption | omega | exact fun j h0 h1 => h0) (by first | assumption | omega | exact fun j h0 h1 => h0) (by first | assumption | omega | exact fun j h0 h1 => h0)
        · refine And.intro rfl (And.intro (And.intro i0 j0) (fun r126 g128 g127 => ?_))
          refine And.intro (fun h129 => ?_) (fun h129 => ?_)
          · have hhi := PS_hi p3 (by omega) (by omega)
            refine And.intro rfl (And.intro (And.intro i0 j0) (fun r130 g132 g131 => ?_))
            have z133 := PS_bd p3
            refine Exists.intro r130 (Exists.intro 0 (And.intro rfl (And.intro (And.intro i0 (And.intro j0 (And.intro (by omega) (And.intro (by omega) (And.intro (by omega) (And.intro (by omega) (by first | assumption | omega | simp_all))))))) (fun A134 i135 j136 f137 g138 g139 => ?_))))
            have f140 := frm_c f0 f137 rfl
            have t141 : A134 0 (fd 27) = A 0 (fd 27) := (frm_f f137 rfl)
            have t142 : A134 0 (fd 28) = A 0 (fd 28) := (frm_f f137 rfl)
            have t143 := ivf_at j136 8 rfl
            have t144 : A134 0 (fd 32) = A 0 (fd 32) := (frm_f f137 rfl)
            have ps145 := (PS_n p3 g138 (frm_a f137 rfl) (by omega) (by omega) (by omega) (by omega) (by omega) (by omega) (by omega) : PS A134 u0 f b (e - 1) (x - 1))
            have z146 := PS_bd ps145
            have z147 := top_k (A := A) (A' := A134) (frm_a f137 rfl) (by omega)
            refine fun v148 gv148 e149 => ?_
            have b150 := ivf_at j136 9 rfl
            refine fun v151 e152 => ?_
            refine And.intro (by omega) (fun A153 e154 => ?_)
            have i155 := iva_sf i135 e154 rfl
            have j156 := ivf_st j136 e154 (And.intro (by omega) trivial)
            have f157 := frm_sf f140 e154 rfl
            have t158 : A153 0 (fd 27) = A134 0 (fd 27) := (st_f e154 rfl)
            have t159 : A153 0 (fd 28) = A134 0 (fd 28) := (st_f e154 rfl)
            have t160 : A153 0 (fd 31) = A134 0 (fd 31) := (st_f e154 rfl)
            have t161 := st_v e154
            have ps162 := (PS_p ps145 (st_a e154 rfl) (st_a e154 rfl) (by omega) (by omega) (by omega) (by omega) (by omega) (by omega) (by omega) (by omega) : PS A153 u0 f b e x)
            have z163 := PS_bd ps162
            exact Exists.intro (A153 0 (fd 32) : Int).toNat (And.intro i155 (And.intro j156 (And.intro f157 (And.intro rfl (And.intro (by omega) (And.intro (PS_k ps162 rfl rfl (by omega) (by omega) (by omega) (by omega) (by omega) (by omega)) (And.intro (by omega) (by first | exact fun j h0 h1 => h0 | (intro j h0 h1; by_cases hj : j = A 0 (fd 32) - 1; (subst hj; omega); omega) | (intro j h0 h1; have h2 := hK j h0 h1; rw [← (frm_a f0 (r := 24) rfl)] at h1; by_cases hj : j = B 0 (fd 32) - 1; (subst hj; omega); omega)))))))))
          · refine And.intro rfl (And.intro (And.intro i0 j0) (fun r164 g166 g165 => ?_))
            refine And.intro (fun h167 => ?_) (fun h167 => ?_)
            · exact hK _ i0 j0 f0 (PS_k p3 rfl rfl (by omega) (by omega) (by omega) (by omega) (by omega) (by omega)) (by first | assumption | omega | exact fun j h0 h1 => h0) (by first | assumption | omega | exact fun j h0 h1 => h0) (by first | assumption | omega | exact fun j h0 h1 => h0)
            · have hhi := PS_hi p3 (by omega) (by omega)
              refine And.intro rfl (And.intro (And.intro i0 j0) (fun r168 g170 g169 => ?_))
              have z171 := PS_bd p3
              refine Exists.intro r168 (Exists.intro 0 (And.intro rfl (And.intro (And.intro i0 (And.intro j0 (And.intro (by omega) (And.intro (by omega) (And.intro (by omega) (And.intro (by omega) (by first | assumption | omega | simp_all))))))) (fun A172 i173 j174 f175 g176 g177 => ?_))))
              have f178 := frm_c f0 f175 rfl
              have t179 : A172 0 (fd 27) = A 0 (fd 27) := (frm_f f175 rfl)
              have t180 : A172 0 (fd 28) = A 0 (fd 28) := (frm_f f175 rfl)
              have t181 := ivf_at j174 8 rfl
              have t182 : A172 0 (fd 32) = A 0 (fd 32) := (frm_f f175 rfl)
              have ps183 := (PS_n p3 g176 (frm_a f175 rfl) (by omega) (by omega) (by omega) (by omega) (by omega) (by omega) (by omega) : PS A172 u0 f b (e - 1) (x - 1))
              have z184 := PS_bd ps183
              have z185 := top_k (A := A) (A' := A172) (frm_a f175 rfl) (by omega)
              refine fun v186 gv186 e187 => ?_
              have b188 := ivf_at j174 9 rfl
              refine fun v189 e190 => ?_
              refine And.intro (by omega) (fun A191 e192 => ?_)
              have i193 := iva_sf i173 e192 rfl
              have j194 := ivf_st j174 e192 (And.intro (by omega) trivial)
              have f195 := frm_sf f178 e192 rfl
              have t196 : A191 0 (fd 27) = A172 0 (fd 27) := (st_f e192 rfl)
              have t197 : A191 0 (fd 28) = A172 0 (fd 28) := (st_f e192 rfl)
              have t198 : A191 0 (fd 31) = A172 0 (fd 31) := (st_f e192 rfl)
              have t199 := st_v e192
              have ps200 := (PS_p ps183 (st_a e192 rfl) (st_a e192 rfl) (by omega) (by omega) (by omega) (by omega) (by omega) (by omega) (by omega) (by omega) : PS A191 u0 f b e x)
              have z201 := PS_bd ps200
              exact Exists.intro (A191 0 (fd 32) : Int).toNat (And.intro i193 (And.intro j194 (And.intro f195 (And.intro rfl (And.intro (by omega) (And.intro (PS_k ps200 rfl rfl (by omega) (by omega) (by omega) (by omega) (by omega) (by omega)) (And.intro (by omega) (by first | exact fun j h0 h1 => h0 | (intro j h0 h1; by_cases hj : j = A 0 (fd 32) - 1; (subst hj; omega); omega) | (intro j h0 h1; have h2 := hK j h0 h1; rw [← (frm_a f0 (r := 24) rfl)] at h1; by_cases hj : j = B 0 (fd 32) - 1; (subst hj; omega); omega)))))))))
def sM_readsFactor : qS := fun as A K => ∃ u0 : Int → Int, ∃ f : Int, ∃ b : Int, ∃ e : Int, ∃ x : Int, as = [rf 0] ∧ (iva IM A ∧ ivf JM A ∧ (PS A u0 f b e x) ∧ (0 ≤ x)) ∧ (∀ A' : qA, iva IM A' → ivf JM A' → frm [23, 24] [(0, 27), (0, 29), (0, 30), (0, 31), (0, 32), (0, 34)] A A' → ∀ r : Int, 0 ≤ r → r ≤ 1 → (r = 0 ∨ PS A' u0 f b (e + 1) x) → (r = 0 ∨ A 0 (fd 27) < A' 0 (fd 27)) → K (some (ni r)) A')
theorem okM_readsFactor : okM LM 4 173 sM_readsFactor := by
  refine qmeth [] false [(162, sM_here), (163, sM_isDigit), (170, sM_factOf), (167, sM_notes), (164, sM_wrongAt), (166, sM_readsNumber), (168, sM_opens)] 56 rfl ⟨okM_here.le (by decide), ⟨okM_isDigit.le (by decide), ⟨okM_factOf.le (by decide), ⟨okM_notes.le (by decide), ⟨okM_wrongAt.le (by decide), ⟨okM_readsNumber.le (by decide), ⟨okM_opens.le (by decide), trivial⟩⟩⟩⟩⟩⟩⟩ ?_
  rintro _ A K hA has ⟨u0, f, b, e, x, rfl, ⟨i0, j0, p1, p2⟩, hK⟩
  have f0 := frm_0 [23, 24] [(0, 27), (0, 29), (0, 30), (0, 31), (0, 32), (0, 34)] A
  have hb_0_27 := ivf_at j0 6 rfl
  have hb_0_28 := ivf_at j0 7 rfl
  have hb_0_31 := ivf_at j0 8 rfl
  have hb_0_32 := ivf_at j0 9 rfl
  refine ⟨Nat.le_of_ble_eq_true rfl, [(0, [(0, 2, 0)], fun zs B nn => match zs with | [] => iva IM B ∧ ivf JM B ∧ frm [23, 24] [(0, 27), (0, 29), (0, 30), (0, 31), (0, 32), (0, 34)] A B ∧ nn = (200 - B 0 (fd 27) : Int).toNat ∧ (PS B u0 f b e x) ∧ (A 0 (fd 27) ≤ B 0 (fd 27)) | _ => False)], ?_, ?_⟩
  · refine ⟨⟨rfl, ?_⟩, trivial⟩
    · refine fun  B mm hB hz hI => ?_
      obtain ⟨i1, j1, f1, hm, c0, c1⟩ := hI
      have hc_0_27 := ivf_at j1 6 rfl
      have hc_0_28 := ivf_at j1 7 rfl
      have hc_0_31 := ivf_at j1 8 rfl
      have hc_0_32 := ivf_at j1 9 rfl
      refine And.intro rfl (And.intro (And.intro i1 j1) (fun r121 g124 g125 g122 g123 => ?_))
      refine And.intro (fun h126 => ?_) (fun h126 => ?_)
      · refine And.intro rfl (And.intro (And.intro i1 j1) (fun r127 g130 g131 g128 g129 => ?_))
        refine And.intro (fun h132 => ?_) (fun h132 => ?_)
        · refine And.intro rfl (And.intro (And.intro i1 j1) (fun r133 g136 g137 g134 g135 => ?_))
          refine Exists.intro r133 (And.intro rfl (fun r138 g140 g141 g139 => ?_))
          refine And.intro (fun h142 => ?_) (fun h142 => ?_)
          · have z143 := PS_bd c0
            refine Exists.intro 1 (Exists.intro r138 (And.intro rfl (And.intro (And.intro i1 (And.intro j1 (And.intro (by omega) (And.intro (by omega) (And.intro (by omega) (And.intro (by omega) (by first | assumption | omega | simp_all))))))) (fun A144 i145 j146 f147 g148 g149 => ?_))))
            have f150 := frm_c f1 f147 rfl
            have t151 : A144 0 (fd 27) = B 0 (fd 27) := (frm_f f147 rfl)
            have t152 : A144 0 (fd 28) = B 0 (fd 28) := (frm_f f147 rfl)
            have t153 := ivf_at j146 8 rfl
            have t154 : A144 0 (fd 32) = B 0 (fd 32) := (frm_f f147 rfl)
            have t155 : A144 0 (fd 34) = B 0 (fd 34) := (frm_f f147 rfl)
            refine fun v156 gv156 e157 => ?_
            have b158 := ivf_at j146 6 rfl
            refine fun v159 e160 => ?_
            refine And.intro (by omega) (fun A161 e162 => ?_)
            have i163 := iva_sf i145 e162 rfl
            have j164 := ivf_st j146 e162 (And.intro (by omega) trivial)
            have f165 := frm_sf f150 e162 rfl
            have t166 := st_v e162
            have t167 : A161 0 (fd 28) = A144 0 (fd 28) := (st_f e162 rfl)
            have t168 : A161 0 (fd 31) = A144 0 (fd 31) := (st_f e162 rfl)
            have t169 : A161 0 (fd 32) = A144 0 (fd 32) := (st_f e162 rfl)
            have t170 : A161 0 (fd 34) = A144 0 (fd 34) := (st_f e162 rfl)
            have ps171 := (PS_n c0 (Eq.trans (st_a e162 rfl) g148) (Eq.trans (st_a e162 rfl) (frm_a f147 rfl)) (by omega) (by omega) (by omega) (by omega) (by omega) (by omega) (by omega) : PS A161 u0 f b (e + 1) x)
            have z172 := PS_bd ps171
            have z173 := top_k (A := B) (A' := A161) (Eq.trans (st_a e162 rfl) (frm_a f147 rfl)) (by omega)
            exact And.intro (by omega) (hK _ i163 j164 f165 _ (by omega) (by omega) (Or.inr (PS_k ps171 rfl rfl (by omega) (by omega) (by omega) (by omega) (by omega) (by omega))) (by first | assumption | omega | simp_all))
          · refine fun v174 gv174 e175 => ?_
            have b176 := ivf_at j1 6 rfl
            refine Exists.intro 1 (Exists.intro v174 (And.intro rfl (And.intro (And.intro i1 (And.intro j1 (And.intro (by omega) (And.intro (by omega) (And.intro (by omega) (by omega)))))) (fun A177 i178 j179 f180 => (fun h181 => ?_)))))
            · have f182 := frm_c f1 f180 rfl
              have t183 : A177 0 (fd 27) = B 0 (fd 27) := (frm_f f180 rfl)
              have t184 : A177 0 (fd 28) = B 0 (fd 28) := (frm_f f180 rfl)
              have t185 : A177 0 (fd 31) = B 0 (fd 31) := (frm_f f180 rfl)
              have t186 : A177 0 (fd 32) = B 0 (fd 32) := (frm_f f180 rfl)
              have t187 : A177 0 (fd 34) = B 0 (fd 34) := (frm_f f180 rfl)
              exact And.intro (by omega) (hK _ i178 j179 f182 _ (by omega) (by omega) (Or.inl rfl) (by first | assumption | omega | simp_all))
        · refine And.intro rfl (And.intro (And.intro i1 (And.intro j1 (And.intro (by first | assumption | omega | simp_all) (by first | assumption | omega | simp_all)))) (fun A188 i189 j190 f191 r192 g195 g196 g193 g194 => ?_))
          have f197 := frm_c f1 f191 rfl
          have t198 := ivf_at j190 6 rfl
          have t199 : A188 0 (fd 28) = B 0 (fd 28) := (frm_f f191 rfl)
          have t200 : A188 0 (fd 31) = B 0 (fd 31) := (frm_f f191 rfl)
          have t201 : A188 0 (fd 32) = B 0 (fd 32) := (frm_f f191 rfl)
          refine And.intro (fun h202 => ?_) (fun h202 => ?_)
          · refine fun v203 gv203 e204 => ?_
            have z205 := PS_bd c0
            refine Exists.intro 0 (Exists.intro v203 (And.intro rfl (And.intro (And.intro i189 (And.intro j190 (And.intro (by omega) (And.intro (by omega) (And.intro (by omega) (And.intro (by omega) (by first | assumption | omega | simp_all))))))) (fun A206 i207 j208 f209 g210 g211 => ?_))))
            have f212 := frm_c f197 f209 rfl
            have t213 : A206 0 (fd 27) = A188 0 (fd 27) := (frm_f f209 rfl)
            have t214 : A206 0 (fd 28) = A188 0 (fd 28) := (frm_f f209 rfl)
            have t215 := ivf_at j208 8 rfl
            have t216 : A206 0 (fd 32) = A188 0 (fd 32) := (frm_f f209 rfl)
            have t217 : A206 0 (fd 34) = A188 0 (fd 34) := (frm_f f209 rfl)
            have ps218 := (PS_n c0 (Eq.trans g210 (cu (frm_a f191 rfl))) (Eq.trans (frm_a f209 rfl) (frm_a f191 rfl)) (by omega) (by omega) (by omega) (by omega) (by omega) (by omega) (by omega) : PS A206 u0 f b (e + 1) x)
            have z219 := PS_bd ps218
            have z220 := top_k (A := B) (A' := A206) (Eq.trans (frm_a f209 rfl) (frm_a f191 rfl)) (by omega)
            exact And.intro (by omega) (hK _ i207 j208 f212 _ (by omega) (by omega) (Or.inr (PS_k ps218 rfl rfl (by omega) (by omega) (by omega) (by omega) (by omega) (by omega))) (by first | assumption | omega | simp_all))
          · exact And.intro (by omega) (hK _ i189 j190 f197 _ (by omega) (by omega) (Or.inl rfl) (by first | assumption | omega | simp_all))
      · have z221 := PS_bd c0
        refine Exists.intro 14 (And.intro rfl (And.intro (And.intro i1 (And.intro j1 (And.intro (by omega) (And.intro (by omega) (And.intro (by first | assumption | omega | simp_all) (by first | assumption | omega | simp_all)))))) (fun A222 i223 j224 f225 r226 g230 g231 g227 g228 g229 => ?_)))
        have f232 := frm_c f1 f225 rfl
        have t233 := ivf_at j224 6 rfl
        have t234 : A222 0 (fd 28) = B 0 (fd 28) := (frm_f f225 rfl)
        have t235 : A222 0 (fd 31) = B 0 (fd 31) := (frm_f f225 rfl)
        have t236 := ivf_at j224 9 rfl
        have t237 : A222 0 (fd 34) = B 0 (fd 34) := (frm_f f225 rfl)
        refine And.intro (fun h238 => ?_) (fun h238 => ?_)
        · exact Exists.intro (200 - A222 0 (fd 27) : Int).toNat (And.intro (by omega) (And.intro i223 (And.intro j224 (And.intro f232 (And.intro rfl (And.intro (PS_k (PS_q c0 (frm_a f225 rfl) (Or.resolve_left g227 (by omega)) (by omega) (by omega) (by omega) (by omega) (by omega) (by omega) : PS A222 u0 f b e x) rfl rfl (by omega) (by omega) (by omega) (by omega) (by omega) (by omega)) (by omega)))))))
        · exact And.intro (by omega) (hK _ i223 j224 f232 _ (by omega) (by omega) (Or.inl rfl) (by first | assumption | omega | simp_all))
  · refine And.intro rfl (And.intro (And.intro i0 j0) (fun r3 g6 g7 g4 g5 => ?_))
    refine And.intro (fun h8 => ?_) (fun h8 => ?_)
    · refine And.intro rfl (And.intro (And.intro i0 j0) (fun r9 g12 g13 g10 g11 => ?_))
      refine And.intro (fun h14 => ?_) (fun h14 => ?_)
      · refine And.intro rfl (And.intro (And.intro i0 j0) (fun r15 g18 g19 g16 g17 => ?_))
        refine Exists.intro r15 (And.intro rfl (fun r20 g22 g23 g21 => ?_))
        refine And.intro (fun h24 => ?_) (fun h24 => ?_)
        · have z25 := PS_bd p1
          refine Exists.intro 1 (Exists.intro r20 (And.intro rfl (And.intro (And.intro i0 (And.intro j0 (And.intro (by omega) (And.intro (by omega) (And.intro (by omega) (And.intro (by omega) (by first | assumption | omega | simp_all))))))) (fun A26 i27 j28 f29 g30 g31 => ?_))))
          have f32 := frm_c f0 f29 rfl
          have t33 : A26 0 (fd 27) = A 0 (fd 27) := (frm_f f29 rfl)
          have t34 : A26 0 (fd 28) = A 0 (fd 28) := (frm_f f29 rfl)
          have t35 := ivf_at j28 8 rfl
          have t36 : A26 0 (fd 32) = A 0 (fd 32) := (frm_f f29 rfl)
          have t37 : A26 0 (fd 34) = A 0 (fd 34) := (frm_f f29 rfl)
          refine fun v38 gv38 e39 => ?_
          have b40 := ivf_at j28 6 rfl
          refine fun v41 e42 => ?_
          refine And.intro (by omega) (fun A43 e44 => ?_)
          have i45 := iva_sf i27 e44 rfl
          have j46 := ivf_st j28 e44 (And.intro (by omega) trivial)
          have f47 := frm_sf f32 e44 rfl
          have t48 := st_v e44
          have t49 : A43 0 (fd 28) = A26 0 (fd 28) := (st_f e44 rfl)
          have t50 : A43 0 (fd 31) = A26 0 (fd 31) := (st_f e44 rfl)
          have t51 : A43 0 (fd 32) = A26 0 (fd 32) := (st_f e44 rfl)
          have t52 : A43 0 (fd 34) = A26 0 (fd 34) := (st_f e44 rfl)
          have ps53 := (PS_n p1 (Eq.trans (st_a e44 rfl) g30) (Eq.trans (st_a e44 rfl) (frm_a f29 rfl)) (by omega) (by omega) (by omega) (by omega) (by omega) (by omega) (by omega) : PS A43 u0 f b (e + 1) x)
          have z54 := PS_bd ps53
          have z55 := top_k (A := A) (A' := A43) (Eq.trans (st_a e44 rfl) (frm_a f29 rfl)) (by omega)
          exact And.intro (by omega) (hK _ i45 j46 f47 _ (by omega) (by omega) (Or.inr (PS_k ps53 rfl rfl (by omega) (by omega) (by omega) (by omega) (by omega) (by omega))) (by first | assumption | omega | simp_all))
        · refine fun v56 gv56 e57 => ?_
          have b58 := ivf_at j0 6 rfl
          refine Exists.intro 1 (Exists.intro v56 (And.intro rfl (And.intro (And.intro i0 (And.intro j0 (And.intro (by omega) (And.intro (by omega) (And.intro (by omega) (by omega)))))) (fun A59 i60 j61 f62 => (fun h63 => ?_)))))
          · have f64 := frm_c f0 f62 rfl
            have t65 : A59 0 (fd 27) = A 0 (fd 27) := (frm_f f62 rfl)
            have t66 : A59 0 (fd 28) = A 0 (fd 28) := (frm_f f62 rfl)
            have t67 : A59 0 (fd 31) = A 0 (fd 31) := (frm_f f62 rfl)
            have t68 : A59 0 (fd 32) = A 0 (fd 32) := (frm_f f62 rfl)
            have t69 : A59 0 (fd 34) = A 0 (fd 34) := (frm_f f62 rfl)
            exact And.intro (by omega) (hK _ i60 j61 f64 _ (by omega) (by omega) (Or.inl rfl) (by first | assumption | omega | simp_all))
      · refine And.intro rfl (And.intro (And.intro i0 (And.intro j0 (And.intro (by first | assumption | omega | simp_all) (by first | assumption | omega | simp_all)))) (fun A70 i71 j72 f73 r74 g77 g78 g75 g76 => ?_))
        have f79 := frm_c f0 f73 rfl
        have t80 := ivf_at j72 6 rfl
        have t81 : A70 0 (fd 28) = A 0 (fd 28) := (frm_f f73 rfl)
        have t82 : A70 0 (fd 31) = A 0 (fd 31) := (frm_f f73 rfl)
        have t83 : A70 0 (fd 32) = A 0 (fd 32) := (frm_f f73 rfl)
        refine And.intro (fun h84 => ?_) (fun h84 => ?_)
        · refine fun v85 gv85 e86 => ?_
          have z87 := PS_bd p1
          refine Exists.intro 0 (Exists.intro v85 (And.intro rfl (And.intro (And.intro i71 (And.intro j72 (And.intro (by omega) (And.intro (by omega) (And.intro (by omega) (And.intro (by omega) (by first | assumption | omega | simp_all))))))) (fun A88 i89 j90 f91 g92 g93 => ?_))))
          have f94 := frm_c f79 f91 rfl
          have t95 : A88 0 (fd 27) = A70 0 (fd 27) := (frm_f f91 rfl)
          have t96 : A88 0 (fd 28) = A70 0 (fd 28) := (frm_f f91 rfl)
          have t97 := ivf_at j90 8 rfl
          have t98 : A88 0 (fd 32) = A70 0 (fd 32) := (frm_f f91 rfl)
          have t99 : A88 0 (fd 34) = A70 0 (fd 34) := (frm_f f91 rfl)
          have ps100 := (PS_n p1 (Eq.trans g92 (cu (frm_a f73 rfl))) (Eq.trans (frm_a f91 rfl) (frm_a f73 rfl)) (by omega) (by omega) (by omega) (by omega) (by omega) (by omega) (by omega) : PS A88 u0 f b (e + 1) x)
          have z101 := PS_bd ps100
          have z102 := top_k (A := A) (A' := A88) (Eq.trans (frm_a f91 rfl) (frm_a f73 rfl)) (by omega)
          exact And.intro (by omega) (hK _ i89 j90 f94 _ (by omega) (by omega) (Or.inr (PS_k ps100 rfl rfl (by omega) (by omega) (by omega) (by omega) (by omega) (by omega))) (by first | assumption | omega | simp_all))
        · exact And.intro (by omega) (hK _ i71 j72 f79 _ (by omega) (by omega) (Or.inl rfl) (by first | assumption | omega | simp_all))
    · have z103 := PS_bd p1
      refine Exists.intro 14 (And.intro rfl (And.intro (And.intro i0 (And.intro j0 (And.intro (by omega) (And.intro (by omega) (And.intro (by first | assumption | omega | simp_all) (by first | assumption | omega | simp_all)))))) (fun A104 i105 j106 f107 r108 g112 g113 g109 g110 g111 => ?_)))
      have f114 := frm_c f0 f107 rfl
      have t115 := ivf_at j106 6 rfl
      have t116 : A104 0 (fd 28) = A 0 (fd 28) := (frm_f f107 rfl)
      have t117 : A104 0 (fd 31) = A 0 (fd 31) := (frm_f f107 rfl)
      have t118 := ivf_at j106 9 rfl
      have t119 : A104 0 (fd 34) = A 0 (fd 34) := (frm_f f107 rfl)
      refine And.intro (fun h120 => ?_) (fun h120 => ?_)
      · exact Exists.intro (200 - A104 0 (fd 27) : Int).toNat (And.intro i105 (And.intro j106 (And.intro f114 (And.intro rfl (And.intro (PS_k (PS_q p1 (frm_a f107 rfl) (Or.resolve_left g109 (by omega)) (by omega) (by omega) (by omega) (by omega) (by omega) (by omega) : PS A104 u0 f b e x) rfl rfl (by omega) (by omega) (by omega) (by omega) (by omega) (by omega)) (by omega))))))
      · exact And.intro (by omega) (hK _ i105 j106 f114 _ (by omega) (by omega) (Or.inl rfl) (by first | assumption | omega | simp_all))
def sM_hasOpenSum : qS := fun as A K => ∃ b : Int, as = [rf 0, ni b] ∧ (iva IM A ∧ ivf JM A ∧ 0 ≤ b ∧ b ≤ 220) ∧ (∀ r : Int, 0 ≤ r → r ≤ 1 → ((r = 1 ∧ ∃ j, b ≤ j ∧ j < A 0 (fd 32) ∧ A 24 j / 1048576 = 14) ∨ (r = 0 ∧ ∀ j, b ≤ j → j < A 0 (fd 32) → A 24 j / 1048576 ≠ 14)) → K (some (ni r)) A)
theorem okM_hasOpenSum : okM LM 1 174 sM_hasOpenSum := by
  refine qmeth [] false [] 26 rfl trivial ?_
  rintro _ A K hA has ⟨b, rfl, ⟨i0, j0, p1, p2⟩, hK⟩
  have rg_b : rng b := has (ni b) (by simp)
  have f0 := frm_0 [] [] A
  refine ⟨Nat.le_of_ble_eq_true rfl, [(2, [(0, 2, 0), (2, 0, 0)], fun zs B nn => match zs with | [k] => A = B ∧ nn = (220 - k : Int).toNat ∧ (b ≤ k) ∧ (k ≤ 220) ∧ (∀ j, b ≤ j → j < k → A 24 j / 1048576 ≠ 14) | _ => False)], ?_, ?_⟩
  · refine ⟨⟨rfl, ?_⟩, trivial⟩
    · refine fun k B mm hB hz hI => ?_
      obtain ⟨rfl, hm, c0, c1, c2⟩ := hI
      obtain ⟨hz_k, _⟩ := hz
      refine fun v3 gv3 e4 => ?_
      have b5 := ivf_at j0 9 rfl
      refine And.intro (fun h6 => ?_) (fun h6 => ?_)
      · exact And.intro (by omega) (hK _ (by omega) (by omega) (Or.inr ⟨rfl, fun j h0 h1 => c2 j h0 (by omega)⟩))
      · refine And.intro (by omega) (fun v7 gv7 e8 => ?_)
        have b9 := iva_at i0 12 rfl (i := k) (by omega) (by omega)
        have k10 : qn 1048576 = 1048576 := by decide
        refine And.intro (by omega) (fun v11 e12 => ?_)
        have h13 := qd_nn (a := v7) (b := (qn 1048576)) (by omega)
        rw [show qn 1048576 = 1048576 by decide] at h13 e12
        refine And.intro (by omega) (And.intro (fun h14 => ?_) (fun h14 => ?_))
        · refine fun v15 e16 => ?_
          exact And.intro (by omega) (Exists.intro (220 - v15 : Int).toNat (And.intro (by omega) (And.intro rfl (And.intro rfl (And.intro (by omega) (And.intro (by omega) (by first | (intro j h0 h1; omega) | (intro j h0 h1; by_cases hj : j = k; (subst hj; omega); exact c2 j h0 (by omega)))))))))
        · exact And.intro (by omega) (hK _ (by omega) (by omega) (Or.inl ⟨rfl, k, by omega, by omega, by omega⟩))
  · exact Exists.intro (220 - b : Int).toNat (And.intro rfl (And.intro rfl (And.intro (by omega) (And.intro (by omega) (by first | (intro j h0 h1; omega) | (intro j h0 h1; by_cases hj : j = k; (subst hj; omega); exact hK j h0 (by omega)))))))
def sM_readsSum : qS := fun as A K => ∃ u0 : Int → Int, ∃ f : Int, ∃ e : Int, ∃ x : Int, as = [rf 0] ∧ (iva IM A ∧ ivf JM A ∧ (PS A u0 f (A 0 (fd 32)) e x) ∧ (0 ≤ e) ∧ (0 ≤ x)) ∧ (∀ A' : qA, iva IM A' → ivf JM A' → frm [23, 24] [(0, 27), (0, 29), (0, 30), (0, 31), (0, 32), (0, 34)] A A' → ∀ r : Int, 0 ≤ r → r ≤ 1 → (r = 0 ∨ PS A' u0 f (A' 0 (fd 32)) (e + 1) x) → (r = 0 ∨ A' 0 (fd 32) = A 0 (fd 32)) → (r = 0 ∨ A 0 (fd 27) < A' 0 (fd 27)) → K (some (ni r)) A')
theorem okM_readsSum : okM LM 5 175 sM_readsSum := by
  refine qmeth [] true [(173, sM_readsFactor), (162, sM_here), (171, sM_sumSign), (174, sM_hasOpenSum), (172, sM_closesSums), (164, sM_wrongAt)] 100 rfl ⟨okM_readsFactor.le (by decide), ⟨okM_here.le (by decide), ⟨okM_sumSign.le (by decide), ⟨okM_hasOpenSum.le (by decide), ⟨okM_closesSums.le (by decide), ⟨okM_wrongAt.le (by decide), trivial⟩⟩⟩⟩⟩⟩ ?_
  rintro _ A K hA has ⟨u0, f, e, x, rfl, ⟨i0, j0, p1, p2, p3⟩, hK⟩
  have f0 := frm_0 [23, 24] [(0, 27), (0, 29), (0, 30), (0, 31), (0, 32), (0, 34)] A
  have hb_0_27 := ivf_at j0 6 rfl
  have hb_0_28 := ivf_at j0 7 rfl
  have hb_0_31 := ivf_at j0 8 rfl
  have hb_0_32 := ivf_at j0 9 rfl
  refine ⟨Nat.le_of_ble_eq_true rfl, [(8, [(0, 2, 0), (1, 0, 0)], fun zs B nn => match zs with | [b] => iva IM B ∧ ivf JM B ∧ frm [23, 24] [(0, 27), (0, 29), (0, 30), (0, 31), (0, 32), (0, 34)] A B ∧ nn = (200 - B 0 (fd 27) : Int).toNat ∧ (b = A 0 (fd 32)) ∧ (PS B u0 f b (e + 1) x) ∧ (A 0 (fd 27) < B 0 (fd 27)) | _ => False)], ?_, ?_⟩
  · refine ⟨⟨rfl, ?_⟩, trivial⟩
    · refine fun b B mm hB hz hI => ?_
      obtain ⟨i1, j1, f1, hm, c0, c1, c2⟩ := hI
      obtain ⟨hz_b, _⟩ := hz
      have hc_0_27 := ivf_at j1 6 rfl
      have hc_0_28 := ivf_at j1 7 rfl
      have hc_0_31 := ivf_at j1 8 rfl
      have hc_0_32 := ivf_at j1 9 rfl
      refine And.intro rfl (And.intro (And.intro i1 j1) (fun r23 g26 g27 g24 g25 => ?_))
      refine Exists.intro r23 (And.intro rfl (fun r28 g30 g31 g29 => ?_))
      refine And.intro (fun h32 => ?_) (fun h32 => ?_)
      · refine And.intro rfl (And.intro (And.intro i1 j1) (fun r33 g36 g37 g34 g35 => ?_))
        refine And.intro (fun h38 => ?_) (fun h38 => ?_)
        · refine Exists.intro b (And.intro rfl (And.intro (And.intro i1 (And.intro j1 (And.intro (by omega) (by omega)))) (fun r39 g41 g42 g40 => ?_)))
          refine And.intro (fun h43 => ?_) (fun h43 => ?_)
          · have z44 := PS_bd c1
            refine Exists.intro 1 (Exists.intro u0 (Exists.intro f (Exists.intro b (Exists.intro (e + 1) (Exists.intro x (And.intro rfl (And.intro (And.intro i1 (And.intro j1 (And.intro (by omega) (And.intro (by omega) (And.intro (PS_k c1 rfl rfl (by omega) (by omega) (by omega) (by omega) (by omega) (by omega)) (And.intro (by first | assumption | omega | simp_all) (by first | assumption | omega | simp_all))))))) (fun A45 i46 j47 f48 g49 g50 g51 g52 => ?_))))))))
            have f53 := frm_c f1 f48 rfl
            have t54 : A45 0 (fd 27) = B 0 (fd 27) := (frm_f f48 rfl)
            have t55 : A45 0 (fd 28) = B 0 (fd 28) := (frm_f f48 rfl)
            have t56 := ivf_at j47 8 rfl
            have t57 := ivf_at j47 9 rfl
            have hn9 : ∀ j, b ≤ j → j < B 0 (fd 32) → B 24 j / 1048576 ≠ 14 := by rcases g40 with ⟨q, _⟩ | ⟨_, q⟩; exfalso; omega; exact q
            have he9 := PS_end g49 (by omega) (fun j h0 h1 => by rw [(frm_a f48 rfl)]; exact hn9 j h0 (by omega))
            exact And.intro (by omega) (hK _ i46 j47 f53 _ (by omega) (by omega) (Or.inr (PS_k g49 rfl rfl (by omega) (by omega) (by omega) (by omega) (by omega) (by omega))) (by first | assumption | omega | simp_all) (by first | assumption | omega | simp_all))
          · refine fun v58 gv58 e59 => ?_
            have b60 := ivf_at j1 6 rfl
            refine Exists.intro 1 (Exists.intro v58 (And.intro rfl (And.intro (And.intro i1 (And.intro j1 (And.intro (by omega) (And.intro (by omega) (And.intro (by omega) (by omega)))))) (fun A61 i62 j63 f64 => (fun h65 => ?_)))))
            · have f66 := frm_c f1 f64 rfl
              have t67 : A61 0 (fd 27) = B 0 (fd 27) := (frm_f f64 rfl)
              have t68 : A61 0 (fd 28) = B 0 (fd 28) := (frm_f f64 rfl)
              have t69 : A61 0 (fd 31) = B 0 (fd 31) := (frm_f f64 rfl)
              have t70 : A61 0 (fd 32) = B 0 (fd 32) := (frm_f f64 rfl)
              exact And.intro (by omega) (hK _ i62 j63 f66 _ (by omega) (by omega) (Or.inl rfl) (by first | assumption | omega | simp_all) (by first | assumption | omega | simp_all))
        · refine Exists.intro b (And.intro rfl (And.intro (And.intro i1 (And.intro j1 (And.intro (by omega) (by omega)))) (fun r71 g73 g74 g72 => ?_)))
          refine And.intro (fun h75 => ?_) (fun h75 => ?_)
          · refine Exists.intro b (And.intro rfl (And.intro (And.intro i1 (And.intro j1 (And.intro (by omega) (by omega)))) (fun r76 g78 g79 g77 => ?_)))
            refine And.intro (fun h80 => ?_) (fun h80 => ?_)
            · have z81 := PS_bd c1
              refine Exists.intro 1 (Exists.intro u0 (Exists.intro f (Exists.intro b (Exists.intro (e + 1) (Exists.intro x (And.intro rfl (And.intro (And.intro i1 (And.intro j1 (And.intro (by omega) (And.intro (by omega) (And.intro (PS_k c1 rfl rfl (by omega) (by omega) (by omega) (by omega) (by omega) (by omega)) (And.intro (by first | assumption | omega | simp_all) (by first | assumption | omega | simp_all))))))) (fun A82 i83 j84 f85 g86 g87 g88 g89 => ?_))))))))
              have f90 := frm_c f1 f85 rfl
              have t91 : A82 0 (fd 27) = B 0 (fd 27) := (frm_f f85 rfl)
              have t92 : A82 0 (fd 28) = B 0 (fd 28) := (frm_f f85 rfl)
              have t93 := ivf_at j84 8 rfl
              have t94 := ivf_at j84 9 rfl
              have hn9 : ∀ j, b ≤ j → j < B 0 (fd 32) → B 24 j / 1048576 ≠ 14 := by rcases g77 with ⟨q, _⟩ | ⟨_, q⟩; exfalso; omega; exact q
              have he9 := PS_end g86 (by omega) (fun j h0 h1 => by rw [(frm_a f85 rfl)]; exact hn9 j h0 (by omega))
              exact And.intro (by omega) (hK _ i83 j84 f90 _ (by omega) (by omega) (Or.inr (PS_k g86 rfl rfl (by omega) (by omega) (by omega) (by omega) (by omega) (by omega))) (by first | assumption | omega | simp_all) (by first | assumption | omega | simp_all))
            · refine fun v95 gv95 e96 => ?_
              have b97 := ivf_at j1 6 rfl
              refine Exists.intro 1 (Exists.intro v95 (And.intro rfl (And.intro (And.intro i1 (And.intro j1 (And.intro (by omega) (And.intro (by omega) (And.intro (by omega) (by omega)))))) (fun A98 i99 j100 f101 => (fun h102 => ?_)))))
              · have f103 := frm_c f1 f101 rfl
                have t104 : A98 0 (fd 27) = B 0 (fd 27) := (frm_f f101 rfl)
                have t105 : A98 0 (fd 28) = B 0 (fd 28) := (frm_f f101 rfl)
                have t106 : A98 0 (fd 31) = B 0 (fd 31) := (frm_f f101 rfl)
                have t107 : A98 0 (fd 32) = B 0 (fd 32) := (frm_f f101 rfl)
                exact And.intro (by omega) (hK _ i99 j100 f103 _ (by omega) (by omega) (Or.inl rfl) (by first | assumption | omega | simp_all) (by first | assumption | omega | simp_all))
          · have z108 := PS_bd c1
            refine Exists.intro 1 (Exists.intro u0 (Exists.intro f (Exists.intro b (Exists.intro (e + 1) (Exists.intro x (And.intro rfl (And.intro (And.intro i1 (And.intro j1 (And.intro (by omega) (And.intro (by omega) (And.intro (PS_k c1 rfl rfl (by omega) (by omega) (by omega) (by omega) (by omega) (by omega)) (And.intro (by first | assumption | omega | simp_all) (by first | assumption | omega | simp_all))))))) (fun A109 i110 j111 f112 g113 g114 g115 g116 => ?_))))))))
            have f117 := frm_c f1 f112 rfl
            have t118 : A109 0 (fd 27) = B 0 (fd 27) := (frm_f f112 rfl)
            have t119 : A109 0 (fd 28) = B 0 (fd 28) := (frm_f f112 rfl)
            have t120 := ivf_at j111 8 rfl
            have t121 := ivf_at j111 9 rfl
            obtain ⟨j9, hj1, hj2, hj3⟩ : ∃ j, b ≤ j ∧ j < B 0 (fd 32) ∧ B 24 j / 1048576 = 14 := by rcases g72 with ⟨_, q⟩ | ⟨q, _⟩; exact q; exfalso; omega
            have hj4 := g116 j9 hj2 hj3
            have hj5 := PS_top g113 (by omega) (by omega)
            refine fun v122 gv122 e123 => ?_
            have b124 := ivf_at j111 9 rfl
            refine fun v125 e126 => ?_
            have w129 := wI_rng v125
            have w130 : wI v125 = v125 := wI_id (by omega)
            refine fun A127 e128 => ?_
            have i131 := iva_sf i110 e128 rfl
            have j132 := ivf_st j111 e128 (And.intro (by omega) trivial)
            have f133 := frm_sf f117 e128 rfl
            have t134 : A127 0 (fd 27) = A109 0 (fd 27) := (st_f e128 rfl)
            have t135 : A127 0 (fd 28) = A109 0 (fd 28) := (st_f e128 rfl)
            have t136 : A127 0 (fd 31) = A109 0 (fd 31) := (st_f e128 rfl)
            have t137 := st_v e128
            refine fun v138 gv138 e139 => ?_
            refine fun v140 e141 => ?_
            have w144 := wI_rng v140
            refine fun A142 e143 => ?_
            have i145 := iva_sf i131 e143 rfl
            have j146 := ivf_st j132 e143 trivial
            have f147 := frm_sf f133 e143 rfl
            have t148 : A142 0 (fd 27) = A127 0 (fd 27) := (st_f e143 rfl)
            have t149 : A142 0 (fd 28) = A127 0 (fd 28) := (st_f e143 rfl)
            have t150 : A142 0 (fd 31) = A127 0 (fd 31) := (st_f e143 rfl)
            have t151 : A142 0 (fd 32) = A127 0 (fd 32) := (st_f e143 rfl)
            refine fun v152 gv152 e153 => ?_
            have b154 := ivf_at j146 6 rfl
            refine fun v155 e156 => ?_
            have w159 := wI_rng v155
            have w160 : wI v155 = v155 := wI_id (by omega)
            refine fun A157 e158 => ?_
            have i161 := iva_sf i145 e158 rfl
            have j162 := ivf_st j146 e158 (And.intro (by omega) trivial)
            have f163 := frm_sf f147 e158 rfl
            have t164 := st_v e158
            have t165 : A157 0 (fd 28) = A142 0 (fd 28) := (st_f e158 rfl)
            have t166 : A157 0 (fd 31) = A142 0 (fd 31) := (st_f e158 rfl)
            have t167 : A157 0 (fd 32) = A142 0 (fd 32) := (st_f e158 rfl)
            have ps168 := (PS_p g113 (Eq.trans (Eq.trans (st_a e158 rfl) (st_a e143 rfl)) (st_a e128 rfl)) (Eq.trans (Eq.trans (st_a e158 rfl) (st_a e143 rfl)) (st_a e128 rfl)) (by omega) (by omega) (by omega) (by omega) (by omega) (by omega) (by omega) (by omega) : PS A157 u0 f b (e + 1) x)
            have z169 := PS_bd ps168
            clear hj1 hj2 hj3 hj4 hj5 g72 g115 g116
            exact Exists.intro (200 - A157 0 (fd 27) : Int).toNat (And.intro (by omega) (And.intro i161 (And.intro j162 (And.intro f163 (And.intro rfl (And.intro (by omega) (And.intro (PS_k ps168 rfl rfl (by omega) (by omega) (by omega) (by omega) (by omega) (by omega)) (by omega))))))))
      · refine And.intro (fun h170 => ?_) (fun h170 => ?_)
        · have z171 := PS_bd c1
          refine Exists.intro 0 (Exists.intro u0 (Exists.intro f (Exists.intro b (Exists.intro (e + 1) (Exists.intro x (And.intro rfl (And.intro (And.intro i1 (And.intro j1 (And.intro (by omega) (And.intro (by omega) (And.intro (PS_k c1 rfl rfl (by omega) (by omega) (by omega) (by omega) (by omega) (by omega)) (And.intro (by first | assumption | omega | simp_all) (by first | assumption | omega | simp_all))))))) (fun A172 i173 j174 f175 g176 g177 g178 g179 => ?_))))))))
          have f180 := frm_c f1 f175 rfl
          have t181 : A172 0 (fd 27) = B 0 (fd 27) := (frm_f f175 rfl)
          have t182 : A172 0 (fd 28) = B 0 (fd 28) := (frm_f f175 rfl)
          have t183 := ivf_at j174 8 rfl
          have t184 := ivf_at j174 9 rfl
          refine fun v185 gv185 e186 => ?_
          have b187 := ivf_at j174 9 rfl
          have k188 : qn 1048576 = 1048576 := by decide
          refine fun v189 e190 => ?_
          rw [show qn 1048576 = 1048576 by decide] at e190
          have w193 := wI_rng v189
          have w194 : wI v189 = v189 := wI_id (by omega)
          refine And.intro (by omega) (fun A191 e192 => ?_)
          have i195 := iva_st i173 e192 (And.intro (by omega) trivial)
          have j196 := ivf_sa j174 e192 rfl
          have f197 := frm_s f180 e192 rfl
          have t198 : A191 0 (fd 27) = A172 0 (fd 27) := (congrFun (st_a e192 rfl) _)
          have t199 : A191 0 (fd 28) = A172 0 (fd 28) := (congrFun (st_a e192 rfl) _)
          have t200 : A191 0 (fd 31) = A172 0 (fd 31) := (congrFun (st_a e192 rfl) _)
          have t201 : A191 0 (fd 32) = A172 0 (fd 32) := (congrFun (st_a e192 rfl) _)
          refine fun v202 gv202 e203 => ?_
          have b204 := ivf_at j196 9 rfl
          have q205 : v185 = v202 := (e203.trans ((congrFun (st_a e192 rfl) _).trans e186.symm)).symm
          subst q205
          refine fun v206 e207 => ?_
          have w210 := wI_rng v206
          have w211 : wI v206 = v206 := wI_id (by omega)
          refine fun A208 e209 => ?_
          have i212 := iva_sf i195 e209 rfl
          have j213 := ivf_st j196 e209 (And.intro (by omega) trivial)
          have f214 := frm_sf f197 e209 rfl
          have t215 : A208 0 (fd 27) = A191 0 (fd 27) := (st_f e209 rfl)
          have t216 : A208 0 (fd 28) = A191 0 (fd 28) := (st_f e209 rfl)
          have t217 : A208 0 (fd 31) = A191 0 (fd 31) := (st_f e209 rfl)
          have t218 := st_v e209
          refine fun v219 gv219 e220 => ?_
          have b221 := ivf_at j213 6 rfl
          refine fun v222 e223 => ?_
          have w226 := wI_rng v222
          have w227 : wI v222 = v222 := wI_id (by omega)
          refine fun A224 e225 => ?_
          have i228 := iva_sf i212 e225 rfl
          have j229 := ivf_st j213 e225 (And.intro (by omega) trivial)
          have f230 := frm_sf f214 e225 rfl
          have t231 := st_v e225
          have t232 : A224 0 (fd 28) = A208 0 (fd 28) := (st_f e225 rfl)
          have t233 : A224 0 (fd 31) = A208 0 (fd 31) := (st_f e225 rfl)
          have t234 : A224 0 (fd 32) = A208 0 (fd 32) := (st_f e225 rfl)
          have ps235 := (PS_q g176 (Eq.trans (Eq.trans (st_a e225 rfl) (st_a e209 rfl)) (st_a e192 rfl)) (Eq.trans (Eq.trans (st_a e225 rfl) (st_a e209 rfl)) (st_u e192)) (by omega) (by omega) (by omega) (by omega) (by omega) (by omega) : PS A224 u0 f b e x)
          have z236 := PS_bd ps235
          have z237 := PS_bd ps235
          refine Exists.intro u0 (Exists.intro f (Exists.intro b (Exists.intro e (Exists.intro x (And.intro rfl (And.intro (And.intro i228 (And.intro j229 (And.intro (PS_k ps235 rfl rfl (by omega) (by omega) (by omega) (by omega) (by omega) (by omega)) (by first | assumption | omega | simp_all)))) (fun A238 i239 j240 f241 r242 g245 g246 g243 g244 => ?_)))))))
          have f247 := frm_c f230 f241 rfl
          have t248 := ivf_at j240 6 rfl
          have t249 : A238 0 (fd 28) = A224 0 (fd 28) := (frm_f f241 rfl)
          have t250 := ivf_at j240 8 rfl
          have t251 := ivf_at j240 9 rfl
          refine And.intro (fun h252 => ?_) (fun h252 => ?_)
          · exact Exists.intro (200 - A238 0 (fd 27) : Int).toNat (And.intro (by omega) (And.intro i239 (And.intro j240 (And.intro f247 (And.intro rfl (And.intro (by omega) (And.intro (PS_k (Or.resolve_left g243 (by omega)) rfl rfl (by omega) (by omega) (by omega) (by omega) (by omega) (by omega)) (by omega))))))))
          · exact And.intro (by omega) (hK _ i239 j240 f247 _ (by omega) (by omega) (Or.inl rfl) (by first | assumption | omega | simp_all) (by first | assumption | omega | simp_all))
        · have z253 := PS_bd c1
          refine Exists.intro 1 (Exists.intro u0 (Exists.intro f (Exists.intro b (Exists.intro (e + 1) (Exists.intro x (And.intro rfl (And.intro (And.intro i1 (And.intro j1 (And.intro (by omega) (And.intro (by omega) (And.intro (PS_k c1 rfl rfl (by omega) (by omega) (by omega) (by omega) (by omega) (by omega)) (And.intro (by first | assumption | omega | simp_all) (by first | assumption | omega | simp_all))))))) (fun A254 i255 j256 f257 g258 g259 g260 g261 => ?_))))))))
          have f262 := frm_c f1 f257 rfl
          have t263 : A254 0 (fd 27) = B 0 (fd 27) := (frm_f f257 rfl)
          have t264 : A254 0 (fd 28) = B 0 (fd 28) := (frm_f f257 rfl)
          have t265 := ivf_at j256 8 rfl
          have t266 := ivf_at j256 9 rfl
          refine fun v267 gv267 e268 => ?_
          have b269 := ivf_at j256 9 rfl
          have k270 : qn 1048576 = 1048576 := by decide
          refine fun v271 e272 => ?_
          rw [show qn 1048576 = 1048576 by decide] at e272
          have w275 := wI_rng v271
          have w276 : wI v271 = v271 := wI_id (by omega)
          refine And.intro (by omega) (fun A273 e274 => ?_)
          have i277 := iva_st i255 e274 (And.intro (by omega) trivial)
          have j278 := ivf_sa j256 e274 rfl
          have f279 := frm_s f262 e274 rfl
          have t280 : A273 0 (fd 27) = A254 0 (fd 27) := (congrFun (st_a e274 rfl) _)
          have t281 : A273 0 (fd 28) = A254 0 (fd 28) := (congrFun (st_a e274 rfl) _)
          have t282 : A273 0 (fd 31) = A254 0 (fd 31) := (congrFun (st_a e274 rfl) _)
          have t283 : A273 0 (fd 32) = A254 0 (fd 32) := (congrFun (st_a e274 rfl) _)
          refine fun v284 gv284 e285 => ?_
          have b286 := ivf_at j278 9 rfl
          have q287 : v267 = v284 := (e285.trans ((congrFun (st_a e274 rfl) _).trans e268.symm)).symm
          subst q287
          refine fun v288 e289 => ?_
          have w292 := wI_rng v288
          have w293 : wI v288 = v288 := wI_id (by omega)
          refine fun A290 e291 => ?_
          have i294 := iva_sf i277 e291 rfl
          have j295 := ivf_st j278 e291 (And.intro (by omega) trivial)
          have f296 := frm_sf f279 e291 rfl
          have t297 : A290 0 (fd 27) = A273 0 (fd 27) := (st_f e291 rfl)
          have t298 : A290 0 (fd 28) = A273 0 (fd 28) := (st_f e291 rfl)
          have t299 : A290 0 (fd 31) = A273 0 (fd 31) := (st_f e291 rfl)
          have t300 := st_v e291
          refine fun v301 gv301 e302 => ?_
          have b303 := ivf_at j295 6 rfl
          refine fun v304 e305 => ?_
          have w308 := wI_rng v304
          have w309 : wI v304 = v304 := wI_id (by omega)
          refine fun A306 e307 => ?_
          have i310 := iva_sf i294 e307 rfl
          have j311 := ivf_st j295 e307 (And.intro (by omega) trivial)
          have f312 := frm_sf f296 e307 rfl
          have t313 := st_v e307
          have t314 : A306 0 (fd 28) = A290 0 (fd 28) := (st_f e307 rfl)
          have t315 : A306 0 (fd 31) = A290 0 (fd 31) := (st_f e307 rfl)
          have t316 : A306 0 (fd 32) = A290 0 (fd 32) := (st_f e307 rfl)
          have ps317 := (PS_q g258 (Eq.trans (Eq.trans (st_a e307 rfl) (st_a e291 rfl)) (st_a e274 rfl)) (Eq.trans (Eq.trans (st_a e307 rfl) (st_a e291 rfl)) (st_u e274)) (by omega) (by omega) (by omega) (by omega) (by omega) (by omega) : PS A306 u0 f b e x)
          have z318 := PS_bd ps317
          have z319 := PS_bd ps317
          refine Exists.intro u0 (Exists.intro f (Exists.intro b (Exists.intro e (Exists.intro x (And.intro rfl (And.intro (And.intro i310 (And.intro j311 (And.intro (PS_k ps317 rfl rfl (by omega) (by omega) (by omega) (by omega) (by omega) (by omega)) (by first | assumption | omega | simp_all)))) (fun A320 i321 j322 f323 r324 g327 g328 g325 g326 => ?_)))))))
          have f329 := frm_c f312 f323 rfl
          have t330 := ivf_at j322 6 rfl
          have t331 : A320 0 (fd 28) = A306 0 (fd 28) := (frm_f f323 rfl)
          have t332 := ivf_at j322 8 rfl
          have t333 := ivf_at j322 9 rfl
          refine And.intro (fun h334 => ?_) (fun h334 => ?_)
          · exact Exists.intro (200 - A320 0 (fd 27) : Int).toNat (And.intro (by omega) (And.intro i321 (And.intro j322 (And.intro f329 (And.intro rfl (And.intro (by omega) (And.intro (PS_k (Or.resolve_left g325 (by omega)) rfl rfl (by omega) (by omega) (by omega) (by omega) (by omega) (by omega)) (by omega))))))))
          · exact And.intro (by omega) (hK _ i321 j322 f329 _ (by omega) (by omega) (Or.inl rfl) (by first | assumption | omega | simp_all) (by first | assumption | omega | simp_all))
  · refine fun v4 gv4 e5 => ?_
    have b6 := ivf_at j0 9 rfl
    have z7 := PS_bd p1
    refine Exists.intro u0 (Exists.intro f (Exists.intro (A 0 (fd 32)) (Exists.intro e (Exists.intro x (And.intro rfl (And.intro (And.intro i0 (And.intro j0 (And.intro (PS_k p1 rfl rfl (by omega) (by omega) (by omega) (by omega) (by omega) (by omega)) (by first | assumption | omega | simp_all)))) (fun A8 i9 j10 f11 r12 g15 g16 g13 g14 => ?_)))))))
    have f17 := frm_c f0 f11 rfl
    have t18 := ivf_at j10 6 rfl
    have t19 : A8 0 (fd 28) = A 0 (fd 28) := (frm_f f11 rfl)
    have t20 := ivf_at j10 8 rfl
    have t21 := ivf_at j10 9 rfl
    refine And.intro (fun h22 => ?_) (fun h22 => ?_)
    · exact Exists.intro (200 - A8 0 (fd 27) : Int).toNat (And.intro i9 (And.intro j10 (And.intro f17 (And.intro rfl (And.intro (by omega) (And.intro (PS_k (Or.resolve_left g13 (by omega)) rfl rfl (by omega) (by omega) (by omega) (by omega) (by omega) (by omega)) (by omega)))))))
    · exact And.intro (by omega) (hK _ i9 j10 f17 _ (by omega) (by omega) (Or.inl rfl) (by first | assumption | omega | simp_all) (by first | assumption | omega | simp_all))
