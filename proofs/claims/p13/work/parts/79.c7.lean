def fC_hungCell (c l : Int) (A : qA) : Int := (if (0 ≤ c ∧ c ≤ 7) ∧ (0 ≤ l ∧ l ≤ 5) then qlet (c * 6) fun v3 => qlet (v3 + l) fun v5 => (if 0 ≤ v5 ∧ v5 ≤ 47 ∧ HG A v5 then qlet (c * 6) fun v9 => qlet (v9 + l) fun v11 => v11 else (-1)) else (-1))
def sC_hungCell : qS := fun as A K => ∃ c l : Int, as = [rf 0, ni c, ni l] ∧ (iva IC A ∧ ivf JC A) ∧ (∀ r : Int, (-1) ≤ r → r ≤ 47 → (r = fC_hungCell c l A) → K (some (ni r)) A)
theorem okC_hungCell : okM LC 4 137 sC_hungCell := by
  refine qmeth [] false [(141, sC_isCell), (21, sC_hangs)] 27 rfl ⟨okC_isCell.le (by decide), ⟨okC_hangs.le (by decide), trivial⟩⟩ ?_
  rintro _ A K hA has ⟨c, l, rfl, ⟨i0, j0⟩, hK⟩
  have rg_c : rng c := has (ni c) (by simp)
  have rg_l : rng l := has (ni l) (by simp)
  have f0 := frm_0 [] [] A
  have hT : _ = fC_hungCell c l A := (fC_hungCell.eq_1 c l A).symm
  refine ⟨Nat.le_of_ble_eq_true rfl, [], trivial, ?_⟩
  refine Exists.intro c (Exists.intro l (And.intro rfl (And.intro (fun h1 => ?_) (fun h1 => ?_))))
  · replace hT := (if_pos h1).symm.trans hT
    refine And.intro (fun h2 => by exfalso; omega) (fun h2 => ?_)
    refine fun v3 e4 => ?_
    replace hT := qlc e4 hT
    refine fun v5 e6 => ?_
    replace hT := qlc e6 hT
    refine And.intro (by (first | (clear hm hnf; omega) | omega)) (Exists.intro v5 (And.intro rfl (And.intro (fun h7 => ?_) (fun h7 => ?_))))
    · replace hT := (if_pos h7).symm.trans hT
      refine And.intro (fun h8 => ?_) (fun h8 => by exfalso; omega)
      refine fun v9 e10 => ?_
      replace hT := qlc e10 hT
      refine fun v11 e12 => ?_
      replace hT := qlc e12 hT
      exact And.intro (by (first | (clear hm hnf; omega) | omega)) (hK _ (by (first | (clear hm hnf; omega) | omega)) (by (first | (clear hm hnf; omega) | omega)) hT)
    · replace hT := (if_neg h7).symm.trans hT
      refine And.intro (fun h13 => by exfalso; omega) (fun h13 => ?_)
      exact hK _ (by (first | (clear hm hnf; omega) | omega)) (by (first | (clear hm hnf; omega) | omega)) hT
  · replace hT := (if_neg h1).symm.trans hT
    refine And.intro (fun h14 => ?_) (fun h14 => by exfalso; omega)
    exact hK _ (by (first | (clear hm hnf; omega) | omega)) (by (first | (clear hm hnf; omega) | omega)) hT
theorem pC_hungCell {c l : Int} {A : qA} (hA : qokA LC A) (rg_c : rng c) (rg_l : rng l) (p0 : iva IC A) (p1 : ivf JC A) : ((-1) ≤ (fC_hungCell c l A) ∧ (fC_hungCell c l A) ≤ 47) := by
  obtain ⟨r, B, hB, _, hk⟩ := okM_ex okC_hungCell (as := [rf 0, ni c, ni l]) (K := fun _ B => B = A ∧ ((-1) ≤ (fC_hungCell c l A) ∧ (fC_hungCell c l A) ≤ 47)) hA (qoks_c (show qok (rf _) from trivial) (qoks_c (rg_c) (qoks_c (rg_l) qoks_n))) ⟨c, l, rfl, ⟨p0, p1⟩, fun r9 g8 g9 x0 => (by rw [← x0]; exact ⟨rfl, ⟨g8, g9⟩⟩)⟩
  exact hk.2
def fC_landIn (i c : Int) (A : qA) : qA := qlet (A 31 i) fun v11 => qlet (qd c 6) fun v15 => qlet (A 27 i) fun v18 => qlet (A 26 i) fun v21 => qlet (A 13 v21) fun v25 => qlet (v18 * v25) fun v28 => qlet (qu A 32 i (wI v28)) fun A31 => qlet (A31 23 v11) fun v38 => qlet (A31 32 i) fun v40 => qlet (v38 + (wI v28)) fun v43 => qlet (qu A31 23 v11 (wI v43)) fun A45 => qlet (A45 27 i) fun v51 => qlet (qm c 6) fun v55 => qlet (6 - v55) fun v58 => qlet (v18 * v58) fun v60 => qlet (A45 18 v15) fun v63 => (if v63 < (wI v60) then qlet (A45 20 v15) fun v69 => qlet (v69 + 1) fun v71 => qlet (qu A45 20 v15 (wI v71)) fun A73 => A73 else A45)
def sC_landIn : qS := fun as A K => ∃ i c : Int, as = [rf 0, ni i, ni c] ∧ (iva IC A ∧ ivf JC A ∧ 0 ≤ i ∧ i ≤ 60 ∧ 0 ≤ c ∧ c ≤ 47 ∧ (0 ≤ A 26 i ∧ A 26 i ≤ 5) ∧ (0 ≤ A 31 i ∧ A 31 i ≤ 7)) ∧ (∀ A' : qA, iva IC A' → ivf JC A' → frm [32, 23, 20] [] A A' → (A' = fC_landIn i c A) → K none A')
theorem okC_landIn : okM LC 1 135 sC_landIn := by
  refine qmeth [] true [] 76 rfl trivial ?_
  rintro _ A K hA has ⟨i, c, rfl, ⟨i0, j0, p1, p2, p3, p4, p5, p6⟩, hK⟩
  have rg_i : rng i := has (ni i) (by simp)
  have rg_c : rng c := has (ni c) (by simp)
  have f0 := frm_0 [32, 23, 20] [] A
  obtain ⟨v7, e8⟩ : ∃ v, v = A 26 i := ⟨_, rfl⟩
  rw [← e8] at p5
  obtain ⟨v9, e10⟩ : ∃ v, v = A 31 i := ⟨_, rfl⟩
  rw [← e10] at p6
  have hT : _ = fC_landIn i c A := (fC_landIn.eq_1 i c A).symm
  refine ⟨Nat.le_of_ble_eq_true rfl, [], trivial, ?_⟩
  refine And.intro (by (first | (clear hm hnf; omega) | omega)) (fun v11 gv11 e12 => ?_)
  replace hT := qlc e12 hT
  have b13 := iva_at i0 21 rfl (i := i) (by (first | (clear hm hnf; omega) | omega)) (by (first | (clear hm hnf; omega) | omega))
  have q14 : v9 = v11 := (e12.trans e10.symm).symm
  subst q14
  refine And.intro (by (first | (clear hm hnf; omega) | omega)) (fun v15 e16 => ?_)
  replace hT := qlc e16 hT
  have h17 := qd_nn (a := c) (b := 6) (by (first | (clear hm hnf; omega) | omega))
  refine And.intro (by (first | (clear hm hnf; omega) | omega)) (fun v18 gv18 e19 => ?_)
  replace hT := qlc e19 hT
  have b20 := iva_at i0 19 rfl (i := i) (by (first | (clear hm hnf; omega) | omega)) (by (first | (clear hm hnf; omega) | omega))
  refine And.intro (by (first | (clear hm hnf; omega) | omega)) (fun v21 gv21 e22 => ?_)
  replace hT := qlc e22 hT
  have b23 := iva_at i0 18 rfl (i := i) (by (first | (clear hm hnf; omega) | omega)) (by (first | (clear hm hnf; omega) | omega))
  have q24 : v7 = v21 := (e22.trans e8.symm).symm
  subst q24
  refine And.intro (by (first | (clear hm hnf; omega) | omega)) (fun v25 gv25 e26 => ?_)
  replace hT := qlc e26 hT
  have b27 := iva_at i0 10 rfl (i := v7) (by (first | (clear hm hnf; omega) | omega)) (by (first | (clear hm hnf; omega) | omega))
  refine fun v28 e29 => ?_
  replace hT := qlc e29 hT
  have h30 := mul_bd (a := v18) (b := v25) (p := 200) (q := 99) (by (first | (clear hm hnf; omega) | omega)) (by (first | (clear hm hnf; omega) | omega)) (by (first | (clear hm hnf; omega) | omega)) (by (first | (clear hm hnf; omega) | omega))
  rw [← e29] at h30
  have w33 := wI_rng v28
  have w34 : wI v28 = v28 := wI_id (by (first | (clear hm hnf; omega) | omega))
  refine And.intro (by (first | (clear hm hnf; omega) | omega)) (fun A31 e32 => ?_)
  replace hT := qlc e32 hT
  have i35 := iva_st i0 e32 trivial
  have j36 := ivf_sa j0 e32 rfl
  have f37 := frm_s f0 e32 rfl
  refine And.intro (by (first | (clear hm hnf; omega) | omega)) (fun v38 gv38 e39 => ?_)
  replace hT := qlc e39 hT
  refine And.intro (by (first | (clear hm hnf; omega) | omega)) (fun v40 gv40 e41 => ?_)
  replace hT := qlc e41 hT
  have q42 : (wI v28) = v40 := (e41.trans (st_v e32)).symm
  subst q42
  refine fun v43 e44 => ?_
  replace hT := qlc e44 hT
  have w47 := wI_rng v43
  refine And.intro (by (first | (clear hm hnf; omega) | omega)) (fun A45 e46 => ?_)
  replace hT := qlc e46 hT
  have i48 := iva_st i35 e46 trivial
  have j49 := ivf_sa j36 e46 rfl
  have f50 := frm_s f37 e46 rfl
  refine And.intro (by (first | (clear hm hnf; omega) | omega)) (fun v51 gv51 e52 => ?_)
  replace hT := qlc e52 hT
  have b53 := iva_at i48 19 rfl (i := i) (by (first | (clear hm hnf; omega) | omega)) (by (first | (clear hm hnf; omega) | omega))
  have q54 : v18 = v51 := (e52.trans ((congrFun (Eq.trans (st_a e46 rfl) (st_a e32 rfl)) _).trans e19.symm)).symm
  subst q54
  refine And.intro (by (first | (clear hm hnf; omega) | omega)) (fun v55 e56 => ?_)
  replace hT := qlc e56 hT
  have h57 := qm_nn (a := c) (b := 6) (by (first | (clear hm hnf; omega) | omega))
  refine fun v58 e59 => ?_
  replace hT := qlc e59 hT
  refine fun v60 e61 => ?_
  replace hT := qlc e61 hT
  have h62 := mul_bd (a := v18) (b := v58) (p := 200) (q := 6) (by (first | (clear hm hnf; omega) | omega)) (by (first | (clear hm hnf; omega) | omega)) (by (first | (clear hm hnf; omega) | omega)) (by (first | (clear hm hnf; omega) | omega))
  rw [← e61] at h62
  refine And.intro (by (first | (clear hm hnf; omega) | omega)) (fun v63 gv63 e64 => ?_)
  replace hT := qlc e64 hT
  have b65 := iva_at i48 14 rfl (i := v15) (by (first | (clear hm hnf; omega) | omega)) (by (first | (clear hm hnf; omega) | omega))
  have w67 := wI_rng v60
  have w68 : wI v60 = v60 := wI_id (by (first | (clear hm hnf; omega) | omega))
  refine And.intro (fun h66 => ?_) (fun h66 => ?_)
  · replace hT := (if_neg (Int.not_lt.mpr h66)).symm.trans hT
    exact hK _ i48 j49 f50 hT
  · replace hT := (if_pos h66).symm.trans hT
    refine And.intro (by (first | (clear hm hnf; omega) | omega)) (fun v69 gv69 e70 => ?_)
    replace hT := qlc e70 hT
    refine fun v71 e72 => ?_
    replace hT := qlc e72 hT
    have w75 := wI_rng v71
    refine And.intro (by (first | (clear hm hnf; omega) | omega)) (fun A73 e74 => ?_)
    replace hT := qlc e74 hT
    have i76 := iva_st i48 e74 trivial
    have j77 := ivf_sa j49 e74 rfl
    have f78 := frm_s f50 e74 rfl
    exact hK _ i76 j77 f78 hT
theorem pC_landIn {i c : Int} {A : qA} (hA : qokA LC A) (p0 : iva IC A) (p1 : ivf JC A) (p2 : 0 ≤ i) (p3 : i ≤ 60) (p4 : 0 ≤ c) (p5 : c ≤ 47) (p6 : (0 ≤ A 26 i ∧ A 26 i ≤ 5)) (p7 : (0 ≤ A 31 i ∧ A 31 i ≤ 7)) : qokA LC (fC_landIn i c A) ∧ iva IC (fC_landIn i c A) ∧ ivf JC (fC_landIn i c A) ∧ frm [32, 23, 20] [] A (fC_landIn i c A) := by
  obtain ⟨r, B, hB, _, hk⟩ := okM_ex okC_landIn (as := [rf 0, ni i, ni c]) (K := fun _ B => B = (fC_landIn i c A) ∧ iva IC (fC_landIn i c A) ∧ ivf JC (fC_landIn i c A) ∧ frm [32, 23, 20] [] A (fC_landIn i c A)) hA (qoks_c (show qok (rf _) from trivial) (qoks_c (show rng i from ⟨by (first | (clear hm hnf; omega) | omega), by (first | (clear hm hnf; omega) | omega)⟩) (qoks_c (show rng c from ⟨by (first | (clear hm hnf; omega) | omega), by (first | (clear hm hnf; omega) | omega)⟩) qoks_n))) ⟨i, c, rfl, ⟨p0, p1, p2, p3, p4, p5, p6, p7⟩, fun A9 i9 j9 f9 x0 => (by rw [← x0]; exact ⟨rfl, i9, j9, f9⟩)⟩
  exact ⟨hk.1 ▸ hB, hk.2⟩
def fC_dropCrop (c b : Int) (A : qA) : Int × qA := qlet (A 15 (fd 8)) fun v10 => qlp (fC_open c v10 A) fun r20 A16 => qlet (fC_clearCrop c A16) fun A29 => (if b = 0 then qlet (qu A29 30 r20 6) fun A36 => qlp (fC_ownerOf r20 A36) fun r46 A42 => qlet (qu A42 31 r20 r46) fun A52 => qlet (fC_landIn r20 c A52) fun A65 => qlet (fC_close A65) fun A71 => (6, A71) else qlp (fC_catching r20 A29) fun r81 A77 => qlet (qu A77 30 r20 r81) fun A87 => (if r81 < 6 then qlet (qm c 6) fun v128 => qlet (c - v128) fun v131 => qlet (v131 + r81) fun v133 => qlet (A87 8 v133) fun v135 => qlet (A87 27 r20) fun v137 => qlet (v135 + v137) fun v140 => qlet (qu A87 8 v133 (wI v140)) fun A142 => qlet (qu A142 31 r20 (-1)) fun A148 => qlet (qu A148 32 r20 0) fun A153 => qlet (fC_close A153) fun A158 => (r81, A158) else qlp (fC_ownerOf r20 A87) fun r97 A93 => qlet (qu A93 31 r20 r97) fun A103 => qlet (fC_landIn r20 c A103) fun A116 => qlet (fC_close A116) fun A122 => (r81, A122)))
def sC_dropCrop : qS := fun as A K => ∃ c b : Int, as = [rf 0, ni c, ni b] ∧ (iva IC A ∧ ivf JC A ∧ 0 ≤ c ∧ c ≤ 47 ∧ 0 ≤ b ∧ b ≤ 1 ∧ (0 ≤ A 6 c ∧ A 6 c ≤ 5) ∧ (LW A) ∧ (KO A)) ∧ (∀ A' : qA, iva IC A' → ivf JC A' → frm [6, 7, 10, 8, 20, 23, 25, 26, 27, 28, 29, 30, 31, 32, 33, 35, 43, 78] [(24, 9), (24, 10), (36, 9), (71, 9)] A A' → ∀ r : Int, 0 ≤ r → r ≤ 6 → (r = (fC_dropCrop c b A).1) → (A' = (fC_dropCrop c b A).2) → K (some (ni r)) A')
theorem okC_dropCrop : okM LC 5 134 sC_dropCrop := by
  refine qmeth [] true [(15, sC_open), (26, sC_clearCrop), (8, sC_ownerOf), (135, sC_landIn), (16, sC_close), (7, sC_catching)] 88 rfl ⟨okC_open.le (by decide), ⟨okC_clearCrop.le (by decide), ⟨okC_ownerOf.le (by decide), ⟨okC_landIn.le (by decide), ⟨okC_close.le (by decide), ⟨okC_catching.le (by decide), trivial⟩⟩⟩⟩⟩⟩ ?_
  rintro _ A K hA has ⟨c, b, rfl, ⟨i0, j0, p1, p2, p3, p4, p5, p6, p7⟩, hK⟩
  have rg_c : rng c := has (ni c) (by simp)
  have rg_b : rng b := has (ni b) (by simp)
  have f0 := frm_0 [6, 7, 10, 8, 20, 23, 25, 26, 27, 28, 29, 30, 31, 32, 33, 35, 43, 78] [(24, 9), (24, 10), (36, 9), (71, 9)] A
  obtain ⟨v8, e9⟩ : ∃ v, v = A 6 c := ⟨_, rfl⟩
  rw [← e9] at p5
  have hT : _ = fC_dropCrop c b A := (fC_dropCrop.eq_1 c b A).symm
  refine ⟨Nat.le_of_ble_eq_true rfl, [], trivial, ?_⟩
  refine fun v10 gv10 e11 => ?_
  replace hT := qlc e11 hT
  obtain ⟨v12, e13⟩ : ∃ v, v = A 6 c := ⟨_, rfl⟩
  have b14 := iva_at i0 2 rfl (i := c) (by (first | (clear hm hnf; omega) | omega)) (by (first | (clear hm hnf; omega) | omega))
  have q15 : v8 = v12 := (e13.trans e9.symm).symm
  subst q15
  refine Exists.intro c (Exists.intro v10 (And.intro rfl (And.intro (And.intro i0 (And.intro j0 (And.intro (by (first | (clear hm hnf; omega) | omega)) (And.intro (by (first | (clear hm hnf; omega) | omega)) (by rw [← e13]; omega))))) (fun A16 i17 j18 f19 r20 g24 g25 g21 g22 g23 => ?_))))
  replace hT := qlpc g21 g22 hT
  clear g21 g22
  have f26 := frm_c f0 f19 rfl
  obtain ⟨v27, e28⟩ : ∃ v, v = A16 26 r20 := ⟨_, rfl⟩
  rw [← e28] at g23
  refine Exists.intro c (And.intro rfl (And.intro (And.intro i17 (And.intro j18 (And.intro (by (first | (clear hm hnf; omega) | omega)) (by (first | (clear hm hnf; omega) | omega))))) (fun A29 i30 j31 f32 g33 => ?_)))
  replace hT := qlc g33 hT
  have f34 := frm_c f26 f32 rfl
  refine And.intro (fun h35 => ?_) (fun h35 => ?_)
  · replace hT := (if_pos h35).symm.trans hT
    refine And.intro (by (first | (clear hm hnf; omega) | omega)) (fun A36 e37 => ?_)
    replace hT := qlc e37 hT
    have i38 := iva_st i30 e37 (And.intro (by (first | (clear hm hnf; omega) | omega)) trivial)
    have j39 := ivf_sa j31 e37 rfl
    have f40 := frm_s f34 e37 rfl
    refine And.intro (fun h41 => ?_) (fun h41 => by exfalso; omega)
    refine Exists.intro r20 (And.intro rfl (And.intro (And.intro i38 (And.intro j39 (And.intro (by (first | (clear hm hnf; omega) | omega)) (And.intro (by (first | (clear hm hnf; omega) | omega)) (And.intro (LW_fr p6 f40 rfl) (KO_fr p7 f40 rfl)))))) (fun A42 i43 j44 f45 r46 g49 g50 g47 g48 => ?_)))
    replace hT := qlpc g47 g48 hT
    clear g47 g48
    have f51 := frm_c f40 f45 rfl
    refine And.intro (by (first | (clear hm hnf; omega) | omega)) (fun A52 e53 => ?_)
    replace hT := qlc e53 hT
    have i54 := iva_st i43 e53 (And.intro (by (first | (clear hm hnf; omega) | omega)) trivial)
    have j55 := ivf_sa j44 e53 rfl
    have f56 := frm_s f51 e53 rfl
    obtain ⟨v57, e58⟩ : ∃ v, v = A52 26 r20 := ⟨_, rfl⟩
    have b59 := iva_at i54 18 rfl (i := r20) (by (first | (clear hm hnf; omega) | omega)) (by (first | (clear hm hnf; omega) | omega))
    have q60 : v27 = v57 := (e58.trans ((congrFun (Eq.trans (Eq.trans (Eq.trans (st_a e53 rfl) (frm_a f45 rfl)) (st_a e37 rfl)) (frm_a f32 rfl)) _).trans e28.symm)).symm
    subst q60
    obtain ⟨v61, e62⟩ : ∃ v, v = A52 31 r20 := ⟨_, rfl⟩
    have b63 := iva_at i54 21 rfl (i := r20) (by (first | (clear hm hnf; omega) | omega)) (by (first | (clear hm hnf; omega) | omega))
    have q64 : r46 = v61 := (e62.trans (st_v e53)).symm
    subst q64
    refine Exists.intro r20 (Exists.intro c (And.intro rfl (And.intro (And.intro i54 (And.intro j55 (And.intro (by (first | (clear hm hnf; omega) | omega)) (And.intro (by (first | (clear hm hnf; omega) | omega)) (And.intro (by (first | (clear hm hnf; omega) | omega)) (And.intro (by (first | (clear hm hnf; omega) | omega)) (And.intro (by rw [← e58]; omega) (by rw [← e62]; omega)))))))) (fun A65 i66 j67 f68 g69 => ?_))))
    replace hT := qlc g69 hT
    have f70 := frm_c f56 f68 rfl
    refine And.intro rfl (And.intro (And.intro i66 j67) (fun A71 i72 j73 f74 g75 => ?_))
    replace hT := qlc g75 hT
    have f76 := frm_c f70 f74 rfl
    exact hK _ i72 j73 f76 _ (by (first | (clear hm hnf; omega) | omega)) (by (first | (clear hm hnf; omega) | omega)) (congrArg Prod.fst hT) (congrArg Prod.snd hT)
  · replace hT := (if_neg h35).symm.trans hT
    refine Exists.intro r20 (And.intro rfl (And.intro (And.intro i30 (And.intro j31 (And.intro (by (first | (clear hm hnf; omega) | omega)) (And.intro (by (first | (clear hm hnf; omega) | omega)) (And.intro (LW_fr p6 f34 rfl) (KO_fr p7 f34 rfl)))))) (fun A77 i78 j79 f80 r81 g84 g85 g82 g83 => ?_)))
    replace hT := qlpc g82 g83 hT
    clear g82 g83
    have f86 := frm_c f34 f80 rfl
    refine And.intro (by (first | (clear hm hnf; omega) | omega)) (fun A87 e88 => ?_)
    replace hT := qlc e88 hT
    have i89 := iva_st i78 e88 (And.intro (by (first | (clear hm hnf; omega) | omega)) trivial)
    have j90 := ivf_sa j79 e88 rfl
    have f91 := frm_s f86 e88 rfl
    refine And.intro (fun h92 => ?_) (fun h92 => ?_)
    · replace hT := (if_neg (Int.not_lt.mpr h92)).symm.trans hT
      refine Exists.intro r20 (And.intro rfl (And.intro (And.intro i89 (And.intro j90 (And.intro (by (first | (clear hm hnf; omega) | omega)) (And.intro (by (first | (clear hm hnf; omega) | omega)) (And.intro (LW_fr p6 f91 rfl) (KO_fr p7 f91 rfl)))))) (fun A93 i94 j95 f96 r97 g100 g101 g98 g99 => ?_)))
      replace hT := qlpc g98 g99 hT
      clear g98 g99
      have f102 := frm_c f91 f96 rfl
      refine And.intro (by (first | (clear hm hnf; omega) | omega)) (fun A103 e104 => ?_)
      replace hT := qlc e104 hT
      have i105 := iva_st i94 e104 (And.intro (by (first | (clear hm hnf; omega) | omega)) trivial)
      have j106 := ivf_sa j95 e104 rfl
      have f107 := frm_s f102 e104 rfl
      obtain ⟨v108, e109⟩ : ∃ v, v = A103 26 r20 := ⟨_, rfl⟩
      have b110 := iva_at i105 18 rfl (i := r20) (by (first | (clear hm hnf; omega) | omega)) (by (first | (clear hm hnf; omega) | omega))
      have q111 : v27 = v108 := (e109.trans ((congrFun (Eq.trans (Eq.trans (Eq.trans (Eq.trans (st_a e104 rfl) (frm_a f96 rfl)) (st_a e88 rfl)) (frm_a f80 rfl)) (frm_a f32 rfl)) _).trans e28.symm)).symm
      subst q111
      obtain ⟨v112, e113⟩ : ∃ v, v = A103 31 r20 := ⟨_, rfl⟩
      have b114 := iva_at i105 21 rfl (i := r20) (by (first | (clear hm hnf; omega) | omega)) (by (first | (clear hm hnf; omega) | omega))
      have q115 : r97 = v112 := (e113.trans (st_v e104)).symm
      subst q115
      refine Exists.intro r20 (Exists.intro c (And.intro rfl (And.intro (And.intro i105 (And.intro j106 (And.intro (by (first | (clear hm hnf; omega) | omega)) (And.intro (by (first | (clear hm hnf; omega) | omega)) (And.intro (by (first | (clear hm hnf; omega) | omega)) (And.intro (by (first | (clear hm hnf; omega) | omega)) (And.intro (by rw [← e109]; omega) (by rw [← e113]; omega)))))))) (fun A116 i117 j118 f119 g120 => ?_))))
      replace hT := qlc g120 hT
      have f121 := frm_c f107 f119 rfl
      refine And.intro rfl (And.intro (And.intro i117 j118) (fun A122 i123 j124 f125 g126 => ?_))
      replace hT := qlc g126 hT
      have f127 := frm_c f121 f125 rfl
      exact hK _ i123 j124 f127 _ (by (first | (clear hm hnf; omega) | omega)) (by (first | (clear hm hnf; omega) | omega)) (congrArg Prod.fst hT) (congrArg Prod.snd hT)
    · replace hT := (if_pos h92).symm.trans hT
      refine And.intro (by (first | (clear hm hnf; omega) | omega)) (fun v128 e129 => ?_)
      replace hT := qlc e129 hT
      have h130 := qm_nn (a := c) (b := 6) (by (first | (clear hm hnf; omega) | omega))
      refine fun v131 e132 => ?_
      replace hT := qlc e132 hT
      refine fun v133 e134 => ?_
      replace hT := qlc e134 hT
      refine And.intro (by (first | (clear hm hnf; omega) | omega)) (fun v135 gv135 e136 => ?_)
      replace hT := qlc e136 hT
      refine And.intro (by (first | (clear hm hnf; omega) | omega)) (fun v137 gv137 e138 => ?_)
      replace hT := qlc e138 hT
      have b139 := iva_at i89 19 rfl (i := r20) (by (first | (clear hm hnf; omega) | omega)) (by (first | (clear hm hnf; omega) | omega))
      refine fun v140 e141 => ?_
      replace hT := qlc e141 hT
      have w144 := wI_rng v140
      refine And.intro (by (first | (clear hm hnf; omega) | omega)) (fun A142 e143 => ?_)
      replace hT := qlc e143 hT
      have i145 := iva_st i89 e143 trivial
      have j146 := ivf_sa j90 e143 rfl
      have f147 := frm_s f91 e143 rfl
      refine And.intro (by (first | (clear hm hnf; omega) | omega)) (fun A148 e149 => ?_)
      replace hT := qlc e149 hT
      have i150 := iva_st i145 e149 (And.intro (by (first | (clear hm hnf; omega) | omega)) trivial)
      have j151 := ivf_sa j146 e149 rfl
      have f152 := frm_s f147 e149 rfl
      refine And.intro (by (first | (clear hm hnf; omega) | omega)) (fun A153 e154 => ?_)
      replace hT := qlc e154 hT
      have i155 := iva_st i150 e154 trivial
      have j156 := ivf_sa j151 e154 rfl
      have f157 := frm_s f152 e154 rfl
      refine And.intro rfl (And.intro (And.intro i155 j156) (fun A158 i159 j160 f161 g162 => ?_))
      replace hT := qlc g162 hT
      have f163 := frm_c f157 f161 rfl
      exact hK _ i159 j160 f163 _ (by (first | (clear hm hnf; omega) | omega)) (by (first | (clear hm hnf; omega) | omega)) (congrArg Prod.fst hT) (congrArg Prod.snd hT)
theorem pC_dropCrop {c b : Int} {A : qA} (hA : qokA LC A) (p0 : iva IC A) (p1 : ivf JC A) (p2 : 0 ≤ c) (p3 : c ≤ 47) (p4 : 0 ≤ b) (p5 : b ≤ 1) (p6 : (0 ≤ A 6 c ∧ A 6 c ≤ 5)) (p7 : LW A) (p8 : KO A) : qokA LC (fC_dropCrop c b A).2 ∧ iva IC (fC_dropCrop c b A).2 ∧ ivf JC (fC_dropCrop c b A).2 ∧ frm [6, 7, 10, 8, 20, 23, 25, 26, 27, 28, 29, 30, 31, 32, 33, 35, 43, 78] [(24, 9), (24, 10), (36, 9), (71, 9)] A (fC_dropCrop c b A).2 ∧ (0 ≤ (fC_dropCrop c b A).1 ∧ (fC_dropCrop c b A).1 ≤ 6) := by
  obtain ⟨r, B, hB, _, hk⟩ := okM_ex okC_dropCrop (as := [rf 0, ni c, ni b]) (K := fun _ B => B = (fC_dropCrop c b A).2 ∧ iva IC (fC_dropCrop c b A).2 ∧ ivf JC (fC_dropCrop c b A).2 ∧ frm [6, 7, 10, 8, 20, 23, 25, 26, 27, 28, 29, 30, 31, 32, 33, 35, 43, 78] [(24, 9), (24, 10), (36, 9), (71, 9)] A (fC_dropCrop c b A).2 ∧ (0 ≤ (fC_dropCrop c b A).1 ∧ (fC_dropCrop c b A).1 ≤ 6)) hA (qoks_c (show qok (rf _) from trivial) (qoks_c (show rng c from ⟨by (first | (clear hm hnf; omega) | omega), by (first | (clear hm hnf; omega) | omega)⟩) (qoks_c (show rng b from ⟨by (first | (clear hm hnf; omega) | omega), by (first | (clear hm hnf; omega) | omega)⟩) qoks_n))) ⟨c, b, rfl, ⟨p0, p1, p2, p3, p4, p5, p6, p7, p8⟩, fun A9 i9 j9 f9 r9 g8 g9 x0 x1 => (by rw [← x1]; (try rw [← x0]); exact ⟨rfl, i9, j9, f9, ⟨g8, g9⟩⟩)⟩
  exact ⟨hk.1 ▸ hB, hk.2⟩
def fC_tearDown_c12 (rec : Nat → List Int → qA → Int × qA) (l1 l2 l3 k : Int) (B : qA) : Int × qA := (if k < l1 then qlet (fC_unhang l1 l2 B) fun A13 => (l3, A13) else (if 0 ≤ k ∧ k ≤ 47 ∧ HG B k then (if 0 ≤ k ∧ k ≤ 47 ∧ HG B k ∧ 0 ≤ B 6 k ∧ B 6 k ≤ 5 then qlp (fC_dropCrop k 0 B) fun r33 A29 => qlet (qu A29 3 k 0) fun A39 => qlet (qu A39 8 k 0) fun A44 => qlet (l3 + 1) fun v49 => qlet (k + (-1)) fun v51 => rec 12 [l1, l2, ((wI v49)), ((wI v51))] A44 else qlet (qu B 3 k 0) fun A57 => qlet (qu A57 8 k 0) fun A62 => qlet (l3 + 1) fun v67 => qlet (k + (-1)) fun v69 => rec 12 [l1, l2, ((wI v67)), ((wI v69))] A62) else qlet (k + (-1)) fun v75 => rec 12 [l1, l2, l3, ((wI v75))] B))
def fC_tearDown_L : Nat → Nat → List Int → qA → Int × qA
  | 0 => fun _ _ B => (0, B)
  | nF + 1 => fun k zs B => bif Nat.beq k 12 then (match zs with | [l1, l2, l3, k] => fC_tearDown_c12 (fC_tearDown_L nF) l1 l2 l3 k B | _ => (0, B)) else (0, B)
theorem fC_tearDown_L12 (nF : Nat) (l1 l2 l3 k : Int) (B : qA) : fC_tearDown_L (nF + 1) 12 [l1, l2, l3, k] B = fC_tearDown_c12 (fC_tearDown_L nF) l1 l2 l3 k B := (congrFun (congrFun (congrFun (fC_tearDown_L.eq_2 nF) 12) [l1, l2, l3, k]) B).trans (qL1 rfl rfl)
def fC_tearDown (c : Int) (A : qA) : Int × qA := qlet (fC_loadOf c A) fun r5 => qlet ((c - c % 6 + 6) - 1) fun v8 => (fC_tearDown_L 100000) 12 [c, r5, 0, ((wI v8))] A
def sC_tearDown : qS := fun as A K => ∃ c : Int, as = [rf 0, ni c] ∧ (iva IC A ∧ ivf JC A ∧ 0 ≤ c ∧ c ≤ 47 ∧ (LW A) ∧ (KO A)) ∧ (∀ A' : qA, iva IC A' → ivf JC A' → frm [6, 7, 10, 8, 20, 23, 25, 26, 27, 28, 29, 30, 31, 32, 33, 35, 43, 78, 3, 2] [(24, 9), (24, 10), (36, 9), (71, 9), (1, 0)] A A' → ∀ r : Int, rng r → (r = (fC_tearDown c A).1) → (A' = (fC_tearDown c A).2) → K (some (ni r)) A')
theorem okC_tearDown : okM LC 6 133 sC_tearDown := by
  refine qmeth [] true [(29, sC_loadOf), (20, sC_endOfColumn), (32, sC_unhang), (21, sC_hangs), (22, sC_hasCrop), (134, sC_dropCrop)] 58 rfl ⟨okC_loadOf.le (by decide), ⟨okC_endOfColumn.le (by decide), ⟨okC_unhang.le (by decide), ⟨okC_hangs.le (by decide), ⟨okC_hasCrop.le (by decide), ⟨okC_dropCrop.le (by decide), trivial⟩⟩⟩⟩⟩⟩ ?_
  rintro _ A K hA has ⟨c, rfl, ⟨i0, j0, p1, p2, p3, p4⟩, hK⟩
  have rg_c : rng c := has (ni c) (by simp)
  have f0 := frm_0 [6, 7, 10, 8, 20, 23, 25, 26, 27, 28, 29, 30, 31, 32, 33, 35, 43, 78, 3, 2] [(24, 9), (24, 10), (36, 9), (71, 9), (1, 0)] A
  have hT : _ = fC_tearDown c A := (fC_tearDown.eq_1 c A).symm
  refine ⟨Nat.le_of_ble_eq_true rfl, [(12, [(0, 2, 0), (1, 0, 0), (2, 0, 0), (3, 0, 0), (4, 0, 0)], fun zs B nn => match zs with | [l1, l2, l3, k] => iva IC B ∧ ivf JC B ∧ frm [6, 7, 10, 8, 20, 23, 25, 26, 27, 28, 29, 30, 31, 32, 33, 35, 43, 78, 3, 2] [(24, 9), (24, 10), (36, 9), (71, 9), (1, 0)] A B ∧ nn = (k + 1 : Int).toNat ∧ (l1 = c) ∧ ((-1) ≤ k) ∧ (k ≤ 47) ∧ (∃ nf : Nat, nn < nf ∧ fC_tearDown_L nf 12 [l1, l2, l3, k] B = fC_tearDown c A) | _ => False)], ?_, ?_⟩
  · refine ⟨⟨rfl, ?_⟩, trivial⟩
    · refine fun l1 l2 l3 k B mm hB hz hI => ?_
      obtain ⟨i1, j1, f1, hm, c0, c1, c2, ⟨nf, hnf, hT⟩⟩ := hI
      obtain ⟨hz_l1, hz_l2, hz_l3, hz_k, _⟩ := hz
      obtain ⟨ng, rfl⟩ : ∃ k, nf = k + 1 := ⟨nf - 1, by omega⟩
      replace hT := (fC_tearDown_c12.eq_1 (fC_tearDown_L ng) l1 l2 l3 k B).symm.trans ((fC_tearDown_L12 ng l1 l2 l3 k B).symm.trans hT)
      refine And.intro (fun h12 => ?_) (fun h12 => ?_)
      · replace hT := (if_pos h12).symm.trans hT
        refine Exists.intro l1 (Exists.intro l2 (And.intro rfl (And.intro (And.intro i1 (And.intro j1 (And.intro (by (first | (clear hm hnf; omega) | omega)) (by (first | (clear hm hnf; omega) | omega))))) (fun A13 i14 j15 f16 g17 => ?_))))
        replace hT := qlc g17 hT
        have f18 := frm_c f1 f16 rfl
        exact hK _ i14 j15 f18 _ (by first | assumption | exact wI_rng _ | exact ⟨by (first | (clear hm hnf; omega) | omega), by (first | (clear hm hnf; omega) | omega)⟩ | exact i_rng _ | (subst_vars; exact i_rng _) | exact (hA _ _).2 rfl) (congrArg Prod.fst hT) (congrArg Prod.snd hT)
      · replace hT := (if_neg (Int.not_lt.mpr h12)).symm.trans hT
        refine Exists.intro k (And.intro rfl (And.intro (fun h19 => ?_) (fun h19 => ?_)))
        · replace hT := (if_pos h19).symm.trans hT
          refine And.intro (fun h20 => by exfalso; omega) (fun h20 => ?_)
          refine Exists.intro k (And.intro rfl (And.intro (fun h21 => ?_) (fun h21 => ?_)))
          · replace hT := (if_pos h21).symm.trans hT
            obtain ⟨v22, e23⟩ : ∃ v, v = B 6 k := ⟨_, rfl⟩
            refine And.intro (fun h24 => by exfalso; omega) (fun h24 => ?_)
            obtain ⟨v25, e26⟩ : ∃ v, v = B 6 k := ⟨_, rfl⟩
            have b27 := iva_at i1 2 rfl (i := k) (by (first | (clear hm hnf; omega) | omega)) (by (first | (clear hm hnf; omega) | omega))
            have q28 : v22 = v25 := (e26.trans e23.symm).symm
            subst q28
            refine Exists.intro k (Exists.intro 0 (And.intro rfl (And.intro (And.intro i1 (And.intro j1 (And.intro (by (first | (clear hm hnf; omega) | omega)) (And.intro (by (first | (clear hm hnf; omega) | omega)) (And.intro (by (first | (clear hm hnf; omega) | omega)) (And.intro (by (first | (clear hm hnf; omega) | omega)) (And.intro (by rw [← e26]; omega) (And.intro (LW_fr p3 f1 rfl) (KO_fr p4 f1 rfl))))))))) (fun A29 i30 j31 f32 r33 g36 g37 g34 g35 => ?_))))
            replace hT := qlpc g34 g35 hT
            clear g34 g35
            have f38 := frm_c f1 f32 rfl
            refine And.intro (by (first | (clear hm hnf; omega) | omega)) (fun A39 e40 => ?_)
            replace hT := qlc e40 hT
            have i41 := iva_st i30 e40 trivial
            have j42 := ivf_sa j31 e40 rfl
            have f43 := frm_s f38 e40 rfl
            refine And.intro (by (first | (clear hm hnf; omega) | omega)) (fun A44 e45 => ?_)
            replace hT := qlc e45 hT
            have i46 := iva_st i41 e45 trivial
            have j47 := ivf_sa j42 e45 rfl
            have f48 := frm_s f43 e45 rfl
            refine fun v49 e50 => ?_
            replace hT := qlc e50 hT
            refine fun v51 e52 => ?_
            replace hT := qlc e52 hT
            have w53 := wI_rng v49
            have w54 := wI_rng v51
            have w55 : wI v51 = v51 := wI_id (by (first | (clear hm hnf; omega) | omega))
            exact Exists.intro (((wI v51)) + 1 : Int).toNat (And.intro (by first | exact qtn hm (by (try clear hm hnf); omega) | omega) (And.intro i46 (And.intro j47 (And.intro f48 (And.intro rfl (And.intro (by (first | (clear hm hnf; omega) | omega)) (And.intro (by (first | (clear hm hnf; omega) | omega)) (And.intro (by (first | (clear hm hnf; omega) | omega)) (Exists.intro ng (And.intro (by first | exact qtm hm hnf (by (try clear hm hnf); omega) | omega) hT))))))))))
          · replace hT := (if_neg h21).symm.trans hT
            refine And.intro (fun h56 => ?_) (fun h56 => by exfalso; omega)
            refine And.intro (by (first | (clear hm hnf; omega) | omega)) (fun A57 e58 => ?_)
            replace hT := qlc e58 hT
            have i59 := iva_st i1 e58 trivial
            have j60 := ivf_sa j1 e58 rfl
            have f61 := frm_s f1 e58 rfl
            refine And.intro (by (first | (clear hm hnf; omega) | omega)) (fun A62 e63 => ?_)
            replace hT := qlc e63 hT
            have i64 := iva_st i59 e63 trivial
            have j65 := ivf_sa j60 e63 rfl
            have f66 := frm_s f61 e63 rfl
            refine fun v67 e68 => ?_
            replace hT := qlc e68 hT
            refine fun v69 e70 => ?_
            replace hT := qlc e70 hT
            have w71 := wI_rng v67
            have w72 := wI_rng v69
            have w73 : wI v69 = v69 := wI_id (by (first | (clear hm hnf; omega) | omega))
            exact Exists.intro (((wI v69)) + 1 : Int).toNat (And.intro (by first | exact qtn hm (by (try clear hm hnf); omega) | omega) (And.intro i64 (And.intro j65 (And.intro f66 (And.intro rfl (And.intro (by (first | (clear hm hnf; omega) | omega)) (And.intro (by (first | (clear hm hnf; omega) | omega)) (And.intro (by (first | (clear hm hnf; omega) | omega)) (Exists.intro ng (And.intro (by first | exact qtm hm hnf (by (try clear hm hnf); omega) | omega) hT))))))))))
        · replace hT := (if_neg h19).symm.trans hT
          refine And.intro (fun h74 => ?_) (fun h74 => by exfalso; omega)
          refine fun v75 e76 => ?_
          replace hT := qlc e76 hT
          have w77 := wI_rng v75
          have w78 : wI v75 = v75 := wI_id (by (first | (clear hm hnf; omega) | omega))
          exact Exists.intro (((wI v75)) + 1 : Int).toNat (And.intro (by first | exact qtn hm (by (try clear hm hnf); omega) | omega) (And.intro i1 (And.intro j1 (And.intro f1 (And.intro rfl (And.intro (by (first | (clear hm hnf; omega) | omega)) (And.intro (by (first | (clear hm hnf; omega) | omega)) (And.intro (by (first | (clear hm hnf; omega) | omega)) (Exists.intro ng (And.intro (by first | exact qtm hm hnf (by (try clear hm hnf); omega) | omega) hT))))))))))
  · refine Exists.intro c (And.intro rfl (And.intro (And.intro i0 (And.intro j0 (And.intro (by (first | (clear hm hnf; omega) | omega)) (by (first | (clear hm hnf; omega) | omega))))) (fun r5 g7 g6 => ?_)))
    replace hT := qlc g6 hT
    clear g6
    refine Exists.intro c (And.intro rfl (And.intro (And.intro (by (first | (clear hm hnf; omega) | omega)) (by (first | (clear hm hnf; omega) | omega))) ?_))
    refine fun v8 e9 => ?_
    replace hT := qlc e9 hT
    have w10 := wI_rng v8
    have w11 : wI v8 = v8 := wI_id (by (first | (clear hm hnf; omega) | omega))
    exact Exists.intro (((wI v8)) + 1 : Int).toNat (And.intro i0 (And.intro j0 (And.intro f0 (And.intro rfl (And.intro (by (first | (clear hm hnf; omega) | omega)) (And.intro (by (first | (clear hm hnf; omega) | omega)) (And.intro (by (first | (clear hm hnf; omega) | omega)) (Exists.intro 100000 (And.intro (by (first | (clear hm hnf; omega) | omega)) hT)))))))))
theorem pC_tearDown {c : Int} {A : qA} (hA : qokA LC A) (p0 : iva IC A) (p1 : ivf JC A) (p2 : 0 ≤ c) (p3 : c ≤ 47) (p4 : LW A) (p5 : KO A) : qokA LC (fC_tearDown c A).2 ∧ iva IC (fC_tearDown c A).2 ∧ ivf JC (fC_tearDown c A).2 ∧ frm [6, 7, 10, 8, 20, 23, 25, 26, 27, 28, 29, 30, 31, 32, 33, 35, 43, 78, 3, 2] [(24, 9), (24, 10), (36, 9), (71, 9), (1, 0)] A (fC_tearDown c A).2 ∧ rng (fC_tearDown c A).1 := by
  obtain ⟨r, B, hB, _, hk⟩ := okM_ex okC_tearDown (as := [rf 0, ni c]) (K := fun _ B => B = (fC_tearDown c A).2 ∧ iva IC (fC_tearDown c A).2 ∧ ivf JC (fC_tearDown c A).2 ∧ frm [6, 7, 10, 8, 20, 23, 25, 26, 27, 28, 29, 30, 31, 32, 33, 35, 43, 78, 3, 2] [(24, 9), (24, 10), (36, 9), (71, 9), (1, 0)] A (fC_tearDown c A).2 ∧ rng (fC_tearDown c A).1) hA (qoks_c (show qok (rf _) from trivial) (qoks_c (show rng c from ⟨by (first | (clear hm hnf; omega) | omega), by (first | (clear hm hnf; omega) | omega)⟩) qoks_n)) ⟨c, rfl, ⟨p0, p1, p2, p3, p4, p5⟩, fun A9 i9 j9 f9 r9 g9 x0 x1 => (by rw [← x1]; (try rw [← x0]); exact ⟨rfl, i9, j9, f9, g9⟩)⟩
  exact ⟨hk.1 ▸ hB, hk.2⟩
def fC_letKnotsGo_c4 (rec : Nat → List Int → qA → Int × qA) (l1 k : Int) (B : qA) : Int × qA := (if k < 48 then qlet (fC_firstOverloaded B) fun r4 => (if r4 = (-1) then (l1, B) else qlp (fC_tearDown r4 B) fun r13 A9 => qlet (l1 + r13) fun v18 => qlet (k + 1) fun v20 => rec 4 [((wI v18)), ((wI v20))] A9) else (l1, B))
def fC_letKnotsGo_L : Nat → Nat → List Int → qA → Int × qA
  | 0 => fun _ _ B => (0, B)
  | nF + 1 => fun k zs B => bif Nat.beq k 4 then (match zs with | [l1, k] => fC_letKnotsGo_c4 (fC_letKnotsGo_L nF) l1 k B | _ => (0, B)) else (0, B)
theorem fC_letKnotsGo_L4 (nF : Nat) (l1 k : Int) (B : qA) : fC_letKnotsGo_L (nF + 1) 4 [l1, k] B = fC_letKnotsGo_c4 (fC_letKnotsGo_L nF) l1 k B := (congrFun (congrFun (congrFun (fC_letKnotsGo_L.eq_2 nF) 4) [l1, k]) B).trans (qL1 rfl rfl)
def fC_letKnotsGo (A : qA) : Int × qA := (fC_letKnotsGo_L 100000) 4 [0, 0] A
def sC_letKnotsGo : qS := fun as A K => as = [rf 0] ∧ (iva IC A ∧ ivf JC A ∧ (LW A) ∧ (KO A)) ∧ (∀ A' : qA, iva IC A' → ivf JC A' → frm [6, 7, 10, 8, 20, 23, 25, 26, 27, 28, 29, 30, 31, 32, 33, 35, 43, 78, 3, 2] [(24, 9), (24, 10), (36, 9), (71, 9), (1, 0)] A A' → ∀ r : Int, rng r → (r = (fC_letKnotsGo A).1) → (A' = (fC_letKnotsGo A).2) → K (some (ni r)) A')
theorem okC_letKnotsGo : okM LC 7 132 sC_letKnotsGo := by
  refine qmeth [] true [(31, sC_firstOverloaded), (133, sC_tearDown)] 32 rfl ⟨okC_firstOverloaded.le (by decide), ⟨okC_tearDown.le (by decide), trivial⟩⟩ ?_
  rintro _ A K hA has ⟨rfl, ⟨i0, j0, p1, p2⟩, hK⟩
  have f0 := frm_0 [6, 7, 10, 8, 20, 23, 25, 26, 27, 28, 29, 30, 31, 32, 33, 35, 43, 78, 3, 2] [(24, 9), (24, 10), (36, 9), (71, 9), (1, 0)] A
  have hT : _ = fC_letKnotsGo A := (fC_letKnotsGo.eq_1 A).symm
  refine ⟨Nat.le_of_ble_eq_true rfl, [(4, [(0, 2, 0), (1, 0, 0), (2, 0, 0)], fun zs B nn => match zs with | [l1, k] => iva IC B ∧ ivf JC B ∧ frm [6, 7, 10, 8, 20, 23, 25, 26, 27, 28, 29, 30, 31, 32, 33, 35, 43, 78, 3, 2] [(24, 9), (24, 10), (36, 9), (71, 9), (1, 0)] A B ∧ nn = (48 - k : Int).toNat ∧ (0 ≤ k) ∧ (k ≤ 48) ∧ (∃ nf : Nat, nn < nf ∧ fC_letKnotsGo_L nf 4 [l1, k] B = fC_letKnotsGo A) | _ => False)], ?_, ?_⟩
  · refine ⟨⟨rfl, ?_⟩, trivial⟩
    · refine fun l1 k B mm hB hz hI => ?_
      obtain ⟨i1, j1, f1, hm, c0, c1, ⟨nf, hnf, hT⟩⟩ := hI
      obtain ⟨hz_l1, hz_k, _⟩ := hz
      obtain ⟨ng, rfl⟩ : ∃ k, nf = k + 1 := ⟨nf - 1, by omega⟩
      replace hT := (fC_letKnotsGo_c4.eq_1 (fC_letKnotsGo_L ng) l1 k B).symm.trans ((fC_letKnotsGo_L4 ng l1 k B).symm.trans hT)
      refine And.intro (fun h3 => ?_) (fun h3 => ?_)
      · replace hT := (if_neg (Int.not_lt.mpr h3)).symm.trans hT
        exact hK _ i1 j1 f1 _ (by first | assumption | exact wI_rng _ | exact ⟨by (first | (clear hm hnf; omega) | omega), by (first | (clear hm hnf; omega) | omega)⟩ | exact i_rng _ | (subst_vars; exact i_rng _) | exact (hA _ _).2 rfl) (congrArg Prod.fst hT) (congrArg Prod.snd hT)
      · replace hT := (if_pos h3).symm.trans hT
        refine And.intro rfl (And.intro (And.intro i1 j1) (fun r4 g6 g7 g5 => ?_))
        replace hT := qlc g5 hT
        clear g5
        refine And.intro (fun h8 => ?_) (fun h8 => ?_)
        · replace hT := (if_neg h8).symm.trans hT
          refine Exists.intro r4 (And.intro rfl (And.intro (And.intro i1 (And.intro j1 (And.intro (by (first | (clear hm hnf; omega) | omega)) (And.intro (by (first | (clear hm hnf; omega) | omega)) (And.intro (LW_fr p1 f1 rfl) (KO_fr p2 f1 rfl)))))) (fun A9 i10 j11 f12 r13 g16 g14 g15 => ?_)))
          replace hT := qlpc g14 g15 hT
          clear g14 g15
          have f17 := frm_c f1 f12 rfl
          refine fun v18 e19 => ?_
          replace hT := qlc e19 hT
          refine fun v20 e21 => ?_
          replace hT := qlc e21 hT
          have w22 := wI_rng v18
          have w23 := wI_rng v20
          have w24 : wI v20 = v20 := wI_id (by (first | (clear hm hnf; omega) | omega))
          exact Exists.intro (48 - ((wI v20)) : Int).toNat (And.intro (by first | exact qtn hm (by (try clear hm hnf); omega) | omega) (And.intro i10 (And.intro j11 (And.intro f17 (And.intro rfl (And.intro (by (first | (clear hm hnf; omega) | omega)) (And.intro (by (first | (clear hm hnf; omega) | omega)) (Exists.intro ng (And.intro (by first | exact qtm hm hnf (by (try clear hm hnf); omega) | omega) hT)))))))))
        · replace hT := (if_pos h8).symm.trans hT
          exact hK _ i1 j1 f1 _ (by first | assumption | exact wI_rng _ | exact ⟨by (first | (clear hm hnf; omega) | omega), by (first | (clear hm hnf; omega) | omega)⟩ | exact i_rng _ | (subst_vars; exact i_rng _) | exact (hA _ _).2 rfl) (congrArg Prod.fst hT) (congrArg Prod.snd hT)
  · exact Exists.intro (48 - 0 : Int).toNat (And.intro i0 (And.intro j0 (And.intro f0 (And.intro rfl (And.intro (by (first | (clear hm hnf; omega) | omega)) (And.intro (by (first | (clear hm hnf; omega) | omega)) (Exists.intro 100000 (And.intro (by (first | (clear hm hnf; omega) | omega)) hT))))))))
theorem pC_letKnotsGo {A : qA} (hA : qokA LC A) (p0 : iva IC A) (p1 : ivf JC A) (p2 : LW A) (p3 : KO A) : qokA LC (fC_letKnotsGo A).2 ∧ iva IC (fC_letKnotsGo A).2 ∧ ivf JC (fC_letKnotsGo A).2 ∧ frm [6, 7, 10, 8, 20, 23, 25, 26, 27, 28, 29, 30, 31, 32, 33, 35, 43, 78, 3, 2] [(24, 9), (24, 10), (36, 9), (71, 9), (1, 0)] A (fC_letKnotsGo A).2 ∧ rng (fC_letKnotsGo A).1 := by
  obtain ⟨r, B, hB, _, hk⟩ := okM_ex okC_letKnotsGo (as := [rf 0]) (K := fun _ B => B = (fC_letKnotsGo A).2 ∧ iva IC (fC_letKnotsGo A).2 ∧ ivf JC (fC_letKnotsGo A).2 ∧ frm [6, 7, 10, 8, 20, 23, 25, 26, 27, 28, 29, 30, 31, 32, 33, 35, 43, 78, 3, 2] [(24, 9), (24, 10), (36, 9), (71, 9), (1, 0)] A (fC_letKnotsGo A).2 ∧ rng (fC_letKnotsGo A).1) hA (qoks_c (show qok (rf _) from trivial) qoks_n) ⟨rfl, ⟨p0, p1, p2, p3⟩, fun A9 i9 j9 f9 r9 g9 x0 x1 => (by rw [← x1]; (try rw [← x0]); exact ⟨rfl, i9, j9, f9, g9⟩)⟩
  exact ⟨hk.1 ▸ hB, hk.2⟩
def fC_letKnotsAge_c2 (rec : Nat → List Int → qA → qA) (k : Int) (B : qA) : qA := (if k < 48 then (if 0 ≤ k ∧ k ≤ 47 ∧ HG B k then qlet (B 2 k) fun v6 => qlp (fC_ageing k B) fun r13 A9 => qlet (v6 - r13) fun v19 => qlet (max 0 (wI v19)) fun v21 => qlet (qu A9 2 k v21) fun A25 => qlet (k + 1) fun v30 => rec 2 [((wI v30))] A25 else qlet (k + 1) fun v35 => rec 2 [((wI v35))] B) else B)
def fC_letKnotsAge_L : Nat → Nat → List Int → qA → qA
  | 0 => fun _ _ B => B
  | nF + 1 => fun k zs B => bif Nat.beq k 2 then (match zs with | [k] => fC_letKnotsAge_c2 (fC_letKnotsAge_L nF) k B | _ => B) else B
theorem fC_letKnotsAge_L2 (nF : Nat) (k : Int) (B : qA) : fC_letKnotsAge_L (nF + 1) 2 [k] B = fC_letKnotsAge_c2 (fC_letKnotsAge_L nF) k B := (congrFun (congrFun (congrFun (fC_letKnotsAge_L.eq_2 nF) 2) [k]) B).trans (qL1 rfl rfl)
def fC_letKnotsAge (A : qA) : qA := (fC_letKnotsAge_L 100000) 2 [0] A
def sC_letKnotsAge : qS := fun as A K => as = [rf 0] ∧ (iva IC A ∧ ivf JC A ∧ (LW A) ∧ (KO A)) ∧ (∀ A' : qA, iva IC A' → ivf JC A' → frm [2, 35, 43, 78] [(36, 9), (71, 9)] A A' → (A' = fC_letKnotsAge A) → K none A')
theorem okC_letKnotsAge : okM LC 6 131 sC_letKnotsAge := by
  refine qmeth [] true [(21, sC_hangs), (6, sC_ageing)] 36 rfl ⟨okC_hangs.le (by decide), ⟨okC_ageing.le (by decide), trivial⟩⟩ ?_
  rintro _ A K hA has ⟨rfl, ⟨i0, j0, p1, p2⟩, hK⟩
  have f0 := frm_0 [2, 35, 43, 78] [(36, 9), (71, 9)] A
  have hT : _ = fC_letKnotsAge A := (fC_letKnotsAge.eq_1 A).symm
  refine ⟨Nat.le_of_ble_eq_true rfl, [(2, [(0, 2, 0), (1, 0, 0)], fun zs B nn => match zs with | [k] => iva IC B ∧ ivf JC B ∧ frm [2, 35, 43, 78] [(36, 9), (71, 9)] A B ∧ nn = (48 - k : Int).toNat ∧ (0 ≤ k) ∧ (k ≤ 48) ∧ (∃ nf : Nat, nn < nf ∧ fC_letKnotsAge_L nf 2 [k] B = fC_letKnotsAge A) | _ => False)], ?_, ?_⟩
  · refine ⟨⟨rfl, ?_⟩, trivial⟩
    · refine fun k B mm hB hz hI => ?_
      obtain ⟨i1, j1, f1, hm, c0, c1, ⟨nf, hnf, hT⟩⟩ := hI
      obtain ⟨hz_k, _⟩ := hz
      obtain ⟨ng, rfl⟩ : ∃ k, nf = k + 1 := ⟨nf - 1, by omega⟩
      replace hT := (fC_letKnotsAge_c2.eq_1 (fC_letKnotsAge_L ng) k B).symm.trans ((fC_letKnotsAge_L2 ng k B).symm.trans hT)
      refine And.intro (fun h3 => ?_) (fun h3 => ?_)
      · replace hT := (if_neg (Int.not_lt.mpr h3)).symm.trans hT
        exact hK _ i1 j1 f1 hT
      · replace hT := (if_pos h3).symm.trans hT
        refine Exists.intro k (And.intro rfl (And.intro (fun h4 => ?_) (fun h4 => ?_)))
        · replace hT := (if_pos h4).symm.trans hT
          refine And.intro (fun h5 => by exfalso; omega) (fun h5 => ?_)
          refine And.intro (by (first | (clear hm hnf; omega) | omega)) (fun v6 gv6 e7 => ?_)
          replace hT := qlc e7 hT
          have b8 := iva_at i1 0 rfl (i := k) (by (first | (clear hm hnf; omega) | omega)) (by (first | (clear hm hnf; omega) | omega))
          refine Exists.intro k (And.intro rfl (And.intro (And.intro i1 (And.intro j1 (And.intro (by (first | (clear hm hnf; omega) | omega)) (And.intro (by (first | (clear hm hnf; omega) | omega)) (And.intro (LW_fr p1 f1 rfl) (KO_fr p2 f1 rfl)))))) (fun A9 i10 j11 f12 r13 g16 g17 g14 g15 => ?_)))
          replace hT := qlpc g14 g15 hT
          clear g14 g15
          have f18 := frm_c f1 f12 rfl
          refine fun v19 e20 => ?_
          replace hT := qlc e20 hT
          have w23 := wI_rng v19
          have w24 : wI v19 = v19 := wI_id (by (first | (clear hm hnf; omega) | omega))
          refine (fun v21 e22 => ?_)
          replace hT := qlc e22 hT
          refine And.intro (by (first | (clear hm hnf; omega) | omega)) (fun A25 e26 => ?_)
          replace hT := qlc e26 hT
          have i27 := iva_st i10 e26 (And.intro (by (first | (clear hm hnf; omega) | omega)) trivial)
          have j28 := ivf_sa j11 e26 rfl
          have f29 := frm_s f18 e26 rfl
          refine fun v30 e31 => ?_
          replace hT := qlc e31 hT
          have w32 := wI_rng v30
          have w33 : wI v30 = v30 := wI_id (by (first | (clear hm hnf; omega) | omega))
          exact Exists.intro (48 - ((wI v30)) : Int).toNat (And.intro (by first | exact qtn hm (by (try clear hm hnf); omega) | omega) (And.intro i27 (And.intro j28 (And.intro f29 (And.intro rfl (And.intro (by (first | (clear hm hnf; omega) | omega)) (And.intro (by (first | (clear hm hnf; omega) | omega)) (Exists.intro ng (And.intro (by first | exact qtm hm hnf (by (try clear hm hnf); omega) | omega) hT)))))))))
        · replace hT := (if_neg h4).symm.trans hT
          refine And.intro (fun h34 => ?_) (fun h34 => by exfalso; omega)
          refine fun v35 e36 => ?_
          replace hT := qlc e36 hT
          have w37 := wI_rng v35
          have w38 : wI v35 = v35 := wI_id (by (first | (clear hm hnf; omega) | omega))
          exact Exists.intro (48 - ((wI v35)) : Int).toNat (And.intro (by first | exact qtn hm (by (try clear hm hnf); omega) | omega) (And.intro i1 (And.intro j1 (And.intro f1 (And.intro rfl (And.intro (by (first | (clear hm hnf; omega) | omega)) (And.intro (by (first | (clear hm hnf; omega) | omega)) (Exists.intro ng (And.intro (by first | exact qtm hm hnf (by (try clear hm hnf); omega) | omega) hT)))))))))
  · exact Exists.intro (48 - 0 : Int).toNat (And.intro i0 (And.intro j0 (And.intro f0 (And.intro rfl (And.intro (by (first | (clear hm hnf; omega) | omega)) (And.intro (by (first | (clear hm hnf; omega) | omega)) (Exists.intro 100000 (And.intro (by (first | (clear hm hnf; omega) | omega)) hT))))))))
theorem pC_letKnotsAge {A : qA} (hA : qokA LC A) (p0 : iva IC A) (p1 : ivf JC A) (p2 : LW A) (p3 : KO A) : qokA LC (fC_letKnotsAge A) ∧ iva IC (fC_letKnotsAge A) ∧ ivf JC (fC_letKnotsAge A) ∧ frm [2, 35, 43, 78] [(36, 9), (71, 9)] A (fC_letKnotsAge A) := by
  obtain ⟨r, B, hB, _, hk⟩ := okM_ex okC_letKnotsAge (as := [rf 0]) (K := fun _ B => B = (fC_letKnotsAge A) ∧ iva IC (fC_letKnotsAge A) ∧ ivf JC (fC_letKnotsAge A) ∧ frm [2, 35, 43, 78] [(36, 9), (71, 9)] A (fC_letKnotsAge A)) hA (qoks_c (show qok (rf _) from trivial) qoks_n) ⟨rfl, ⟨p0, p1, p2, p3⟩, fun A9 i9 j9 f9 x0 => (by rw [← x0]; exact ⟨rfl, i9, j9, f9⟩)⟩
  exact ⟨hk.1 ▸ hB, hk.2⟩
def fC_letCropsFall_c2 (rec : Nat → List Int → qA → qA) (k : Int) (B : qA) : qA := (if k < 48 then (if 0 ≤ k ∧ k ≤ 47 ∧ HG B k ∧ 0 ≤ B 6 k ∧ B 6 k ≤ 5 then qlet (B 0 (fd 11)) fun v8 => qlet (25173 * v8) fun v11 => qlet (v11 + 13849) fun v13 => qlet (ia v13 (qn 65535)) fun v16 => qlet (qu B 0 (fd 11) v16) fun A19 => qlet (A19 0 (fd 11)) fun v24 => qlet (qm v16 1000) fun v28 => qlp (fC_odds k A19) fun r35 A31 => (if v28 < r35 then qlp (fC_dropCrop k 1 A31) fun r52 A48 => qlet (k + 1) fun v58 => rec 2 [v58] A48 else qlet (k + 1) fun v42 => rec 2 [v42] A31) else qlet (k + 1) fun v61 => rec 2 [v61] B) else B)
def fC_letCropsFall_L : Nat → Nat → List Int → qA → qA
  | 0 => fun _ _ B => B
  | nF + 1 => fun k zs B => bif Nat.beq k 2 then (match zs with | [k] => fC_letCropsFall_c2 (fC_letCropsFall_L nF) k B | _ => B) else B
theorem fC_letCropsFall_L2 (nF : Nat) (k : Int) (B : qA) : fC_letCropsFall_L (nF + 1) 2 [k] B = fC_letCropsFall_c2 (fC_letCropsFall_L nF) k B := (congrFun (congrFun (congrFun (fC_letCropsFall_L.eq_2 nF) 2) [k]) B).trans (qL1 rfl rfl)
def fC_letCropsFall (A : qA) : qA := (fC_letCropsFall_L 100000) 2 [0] A
def sC_letCropsFall : qS := fun as A K => as = [rf 0] ∧ (iva IC A ∧ ivf JC A ∧ (LW A) ∧ (KO A)) ∧ (∀ A' : qA, iva IC A' → ivf JC A' → frm [6, 7, 10, 8, 20, 23, 25, 26, 27, 28, 29, 30, 31, 32, 33, 35, 43, 78] [(24, 9), (24, 10), (36, 9), (71, 9), (0, 11)] A A' → (A' = fC_letCropsFall A) → K none A')
theorem okC_letCropsFall : okM LC 6 130 sC_letCropsFall := by
  refine qmeth [] false [(22, sC_hasCrop), (5, sC_odds), (134, sC_dropCrop)] 43 rfl ⟨okC_hasCrop.le (by decide), ⟨okC_odds.le (by decide), ⟨okC_dropCrop.le (by decide), trivial⟩⟩⟩ ?_
  rintro _ A K hA has ⟨rfl, ⟨i0, j0, p1, p2⟩, hK⟩
  have f0 := frm_0 [6, 7, 10, 8, 20, 23, 25, 26, 27, 28, 29, 30, 31, 32, 33, 35, 43, 78] [(24, 9), (24, 10), (36, 9), (71, 9), (0, 11)] A
  have hT : _ = fC_letCropsFall A := (fC_letCropsFall.eq_1 A).symm
  refine ⟨Nat.le_of_ble_eq_true rfl, [(2, [(0, 2, 0), (1, 0, 0)], fun zs B nn => match zs with | [k] => iva IC B ∧ ivf JC B ∧ frm [6, 7, 10, 8, 20, 23, 25, 26, 27, 28, 29, 30, 31, 32, 33, 35, 43, 78] [(24, 9), (24, 10), (36, 9), (71, 9), (0, 11)] A B ∧ nn = (48 - k : Int).toNat ∧ (0 ≤ k) ∧ (k ≤ 48) ∧ (∃ nf : Nat, nn < nf ∧ fC_letCropsFall_L nf 2 [k] B = fC_letCropsFall A) | _ => False)], ?_, ?_⟩
  · refine ⟨⟨rfl, ?_⟩, trivial⟩
    · refine fun k B mm hB hz hI => ?_
      obtain ⟨i1, j1, f1, hm, c0, c1, ⟨nf, hnf, hT⟩⟩ := hI
      obtain ⟨hz_k, _⟩ := hz
      obtain ⟨ng, rfl⟩ : ∃ k, nf = k + 1 := ⟨nf - 1, by omega⟩
      replace hT := (fC_letCropsFall_c2.eq_1 (fC_letCropsFall_L ng) k B).symm.trans ((fC_letCropsFall_L2 ng k B).symm.trans hT)
      refine And.intro (fun h3 => ?_) (fun h3 => ?_)
      · replace hT := (if_neg (Int.not_lt.mpr h3)).symm.trans hT
        exact hK _ i1 j1 f1 hT
      · replace hT := (if_pos h3).symm.trans hT
        refine Exists.intro k (And.intro rfl (And.intro (fun h4 => ?_) (fun h4 => ?_)))
        · replace hT := (if_pos h4).symm.trans hT
          obtain ⟨v5, e6⟩ : ∃ v, v = B 6 k := ⟨_, rfl⟩
          refine And.intro (fun h7 => by exfalso; omega) (fun h7 => ?_)
          refine fun v8 gv8 e9 => ?_
          replace hT := qlc e9 hT
          have b10 := ivf_at j1 7 rfl
          refine fun v11 e12 => ?_
          replace hT := qlc e12 hT
          refine fun v13 e14 => ?_
          replace hT := qlc e14 hT
          have k15 : qn 65535 = 65535 := by decide
          refine fun v16 e17 => ?_
          replace hT := qlc e17 hT
          have h18 := ia_bd (a := v13) (b := (qn 65535)) (by (first | (clear hm hnf; omega) | omega)) (by (first | (clear hm hnf; omega) | omega))
          refine fun A19 e20 => ?_
          replace hT := qlc e20 hT
          have i21 := iva_sf i1 e20 rfl
          have j22 := ivf_st j1 e20 (And.intro (by (first | (clear hm hnf; omega) | omega)) trivial)
          have f23 := frm_sf f1 e20 rfl
          refine fun v24 gv24 e25 => ?_
          replace hT := qlc e25 hT
          have b26 := ivf_at j22 7 rfl
          have q27 : v16 = v24 := (e25.trans (st_v e20)).symm
          subst q27
          refine And.intro (by (first | (clear hm hnf; omega) | omega)) (fun v28 e29 => ?_)
          replace hT := qlc e29 hT
          have h30 := qm_nn (a := v16) (b := 1000) (by (first | (clear hm hnf; omega) | omega))
          refine Exists.intro k (And.intro rfl (And.intro (And.intro i21 (And.intro j22 (And.intro (by (first | (clear hm hnf; omega) | omega)) (And.intro (by (first | (clear hm hnf; omega) | omega)) (And.intro (LW_fr p1 f23 rfl) (KO_fr p2 f23 rfl)))))) (fun A31 i32 j33 f34 r35 g38 g39 g36 g37 => ?_)))
          replace hT := qlpc g36 g37 hT
          clear g36 g37
          have f40 := frm_c f23 f34 rfl
          refine And.intro (fun h41 => ?_) (fun h41 => ?_)
          · replace hT := (if_neg (Int.not_lt.mpr h41)).symm.trans hT
            refine fun v42 e43 => ?_
            replace hT := qlc e43 hT
            exact And.intro (by (first | (clear hm hnf; omega) | omega)) (Exists.intro (48 - v42 : Int).toNat (And.intro (by first | exact qtn hm (by (try clear hm hnf); omega) | omega) (And.intro i32 (And.intro j33 (And.intro f40 (And.intro rfl (And.intro (by (first | (clear hm hnf; omega) | omega)) (And.intro (by (first | (clear hm hnf; omega) | omega)) (Exists.intro ng (And.intro (by first | exact qtm hm hnf (by (try clear hm hnf); omega) | omega) hT))))))))))
          · replace hT := (if_pos h41).symm.trans hT
            obtain ⟨v44, e45⟩ : ∃ v, v = A31 6 k := ⟨_, rfl⟩
            have b46 := iva_at i32 2 rfl (i := k) (by (first | (clear hm hnf; omega) | omega)) (by (first | (clear hm hnf; omega) | omega))
            have q47 : v5 = v44 := (e45.trans ((congrFun (Eq.trans (frm_a f34 rfl) (st_a e20 rfl)) _).trans e6.symm)).symm
            subst q47
            refine Exists.intro k (Exists.intro 1 (And.intro rfl (And.intro (And.intro i32 (And.intro j33 (And.intro (by (first | (clear hm hnf; omega) | omega)) (And.intro (by (first | (clear hm hnf; omega) | omega)) (And.intro (by (first | (clear hm hnf; omega) | omega)) (And.intro (by (first | (clear hm hnf; omega) | omega)) (And.intro (by rw [← e45]; omega) (And.intro (LW_fr p1 f40 rfl) (KO_fr p2 f40 rfl))))))))) (fun A48 i49 j50 f51 r52 g55 g56 g53 g54 => ?_))))
            replace hT := qlpc g53 g54 hT
            clear g53 g54
            have f57 := frm_c f40 f51 rfl
            refine fun v58 e59 => ?_
            replace hT := qlc e59 hT
            exact And.intro (by (first | (clear hm hnf; omega) | omega)) (Exists.intro (48 - v58 : Int).toNat (And.intro (by first | exact qtn hm (by (try clear hm hnf); omega) | omega) (And.intro i49 (And.intro j50 (And.intro f57 (And.intro rfl (And.intro (by (first | (clear hm hnf; omega) | omega)) (And.intro (by (first | (clear hm hnf; omega) | omega)) (Exists.intro ng (And.intro (by first | exact qtm hm hnf (by (try clear hm hnf); omega) | omega) hT))))))))))
        · replace hT := (if_neg h4).symm.trans hT
          refine And.intro (fun h60 => ?_) (fun h60 => by exfalso; omega)
          refine fun v61 e62 => ?_
          replace hT := qlc e62 hT
          exact And.intro (by (first | (clear hm hnf; omega) | omega)) (Exists.intro (48 - v61 : Int).toNat (And.intro (by first | exact qtn hm (by (try clear hm hnf); omega) | omega) (And.intro i1 (And.intro j1 (And.intro f1 (And.intro rfl (And.intro (by (first | (clear hm hnf; omega) | omega)) (And.intro (by (first | (clear hm hnf; omega) | omega)) (Exists.intro ng (And.intro (by first | exact qtm hm hnf (by (try clear hm hnf); omega) | omega) hT))))))))))
  · exact Exists.intro (48 - 0 : Int).toNat (And.intro i0 (And.intro j0 (And.intro f0 (And.intro rfl (And.intro (by (first | (clear hm hnf; omega) | omega)) (And.intro (by (first | (clear hm hnf; omega) | omega)) (Exists.intro 100000 (And.intro (by (first | (clear hm hnf; omega) | omega)) hT))))))))
theorem pC_letCropsFall {A : qA} (hA : qokA LC A) (p0 : iva IC A) (p1 : ivf JC A) (p2 : LW A) (p3 : KO A) : qokA LC (fC_letCropsFall A) ∧ iva IC (fC_letCropsFall A) ∧ ivf JC (fC_letCropsFall A) ∧ frm [6, 7, 10, 8, 20, 23, 25, 26, 27, 28, 29, 30, 31, 32, 33, 35, 43, 78] [(24, 9), (24, 10), (36, 9), (71, 9), (0, 11)] A (fC_letCropsFall A) := by
  obtain ⟨r, B, hB, _, hk⟩ := okM_ex okC_letCropsFall (as := [rf 0]) (K := fun _ B => B = (fC_letCropsFall A) ∧ iva IC (fC_letCropsFall A) ∧ ivf JC (fC_letCropsFall A) ∧ frm [6, 7, 10, 8, 20, 23, 25, 26, 27, 28, 29, 30, 31, 32, 33, 35, 43, 78] [(24, 9), (24, 10), (36, 9), (71, 9), (0, 11)] A (fC_letCropsFall A)) hA (qoks_c (show qok (rf _) from trivial) qoks_n) ⟨rfl, ⟨p0, p1, p2, p3⟩, fun A9 i9 j9 f9 x0 => (by rw [← x0]; exact ⟨rfl, i9, j9, f9⟩)⟩
  exact ⟨hk.1 ▸ hB, hk.2⟩
def fC_letCropsGrow_c2 (rec : Nat → List Int → qA → qA) (k : Int) (B : qA) : qA := (if k < 48 then (if 0 ≤ k ∧ k ≤ 47 ∧ HG B k ∧ 0 ≤ B 6 k ∧ B 6 k ≤ 5 then qlet (B 7 k) fun v8 => qlet (B 9 k) fun v11 => qlp (fC_growth k v11 B) fun r18 A14 => qlet (v8 + r18) fun v24 => qlet (min 200 v24) fun v26 => qlet (qu A14 7 k v26) fun A28 => qlet (k + 1) fun v33 => rec 2 [v33] A28 else qlet (k + 1) fun v36 => rec 2 [v36] B) else B)
def fC_letCropsGrow_L : Nat → Nat → List Int → qA → qA
  | 0 => fun _ _ B => B
  | nF + 1 => fun k zs B => bif Nat.beq k 2 then (match zs with | [k] => fC_letCropsGrow_c2 (fC_letCropsGrow_L nF) k B | _ => B) else B
theorem fC_letCropsGrow_L2 (nF : Nat) (k : Int) (B : qA) : fC_letCropsGrow_L (nF + 1) 2 [k] B = fC_letCropsGrow_c2 (fC_letCropsGrow_L nF) k B := (congrFun (congrFun (congrFun (fC_letCropsGrow_L.eq_2 nF) 2) [k]) B).trans (qL1 rfl rfl)
def fC_letCropsGrow (A : qA) : qA := (fC_letCropsGrow_L 100000) 2 [0] A
def sC_letCropsGrow : qS := fun as A K => as = [rf 0] ∧ (iva IC A ∧ ivf JC A ∧ (LW A) ∧ (KO A)) ∧ (∀ A' : qA, iva IC A' → ivf JC A' → frm [7, 35, 43, 78] [(36, 9), (71, 9)] A A' → (A' = fC_letCropsGrow A) → K none A')
theorem okC_letCropsGrow : okM LC 6 129 sC_letCropsGrow := by
  refine qmeth [] false [(22, sC_hasCrop), (4, sC_growth)] 41 rfl ⟨okC_hasCrop.le (by decide), ⟨okC_growth.le (by decide), trivial⟩⟩ ?_
  rintro _ A K hA has ⟨rfl, ⟨i0, j0, p1, p2⟩, hK⟩
  have f0 := frm_0 [7, 35, 43, 78] [(36, 9), (71, 9)] A
  have hT : _ = fC_letCropsGrow A := (fC_letCropsGrow.eq_1 A).symm
  refine ⟨Nat.le_of_ble_eq_true rfl, [(2, [(0, 2, 0), (1, 0, 0)], fun zs B nn => match zs with | [k] => iva IC B ∧ ivf JC B ∧ frm [7, 35, 43, 78] [(36, 9), (71, 9)] A B ∧ nn = (48 - k : Int).toNat ∧ (0 ≤ k) ∧ (k ≤ 48) ∧ (∃ nf : Nat, nn < nf ∧ fC_letCropsGrow_L nf 2 [k] B = fC_letCropsGrow A) | _ => False)], ?_, ?_⟩
  · refine ⟨⟨rfl, ?_⟩, trivial⟩
    · refine fun k B mm hB hz hI => ?_
      obtain ⟨i1, j1, f1, hm, c0, c1, ⟨nf, hnf, hT⟩⟩ := hI
      obtain ⟨hz_k, _⟩ := hz
      obtain ⟨ng, rfl⟩ : ∃ k, nf = k + 1 := ⟨nf - 1, by omega⟩
      replace hT := (fC_letCropsGrow_c2.eq_1 (fC_letCropsGrow_L ng) k B).symm.trans ((fC_letCropsGrow_L2 ng k B).symm.trans hT)
      refine And.intro (fun h3 => ?_) (fun h3 => ?_)
      · replace hT := (if_neg (Int.not_lt.mpr h3)).symm.trans hT
        exact hK _ i1 j1 f1 hT
      · replace hT := (if_pos h3).symm.trans hT
        refine Exists.intro k (And.intro rfl (And.intro (fun h4 => ?_) (fun h4 => ?_)))
        · replace hT := (if_pos h4).symm.trans hT
          obtain ⟨v5, e6⟩ : ∃ v, v = B 6 k := ⟨_, rfl⟩
          refine And.intro (fun h7 => by exfalso; omega) (fun h7 => ?_)
          refine And.intro (by (first | (clear hm hnf; omega) | omega)) (fun v8 gv8 e9 => ?_)
          replace hT := qlc e9 hT
          have b10 := iva_at i1 3 rfl (i := k) (by (first | (clear hm hnf; omega) | omega)) (by (first | (clear hm hnf; omega) | omega))
          refine And.intro (by (first | (clear hm hnf; omega) | omega)) (fun v11 gv11 e12 => ?_)
          replace hT := qlc e12 hT
          have b13 := iva_at i1 4 rfl (i := k) (by (first | (clear hm hnf; omega) | omega)) (by (first | (clear hm hnf; omega) | omega))
          refine Exists.intro k (Exists.intro v11 (And.intro rfl (And.intro (And.intro i1 (And.intro j1 (And.intro (by (first | (clear hm hnf; omega) | omega)) (And.intro (by (first | (clear hm hnf; omega) | omega)) (And.intro (LW_fr p1 f1 rfl) (KO_fr p2 f1 rfl)))))) (fun A14 i15 j16 f17 r18 g21 g22 g19 g20 => ?_))))
          replace hT := qlpc g19 g20 hT
          clear g19 g20
          have f23 := frm_c f1 f17 rfl
          refine fun v24 e25 => ?_
          replace hT := qlc e25 hT
          refine And.intro (by (first | (clear hm hnf; omega) | omega)) ((fun v26 e27 => ?_))
          replace hT := qlc e27 hT
          refine And.intro (by (first | (clear hm hnf; omega) | omega)) (fun A28 e29 => ?_)
          replace hT := qlc e29 hT
          have i30 := iva_st i15 e29 (And.intro (by (first | (clear hm hnf; omega) | omega)) trivial)
          have j31 := ivf_sa j16 e29 rfl
          have f32 := frm_s f23 e29 rfl
          refine fun v33 e34 => ?_
          replace hT := qlc e34 hT
          exact And.intro (by (first | (clear hm hnf; omega) | omega)) (Exists.intro (48 - v33 : Int).toNat (And.intro (by first | exact qtn hm (by (try clear hm hnf); omega) | omega) (And.intro i30 (And.intro j31 (And.intro f32 (And.intro rfl (And.intro (by (first | (clear hm hnf; omega) | omega)) (And.intro (by (first | (clear hm hnf; omega) | omega)) (Exists.intro ng (And.intro (by first | exact qtm hm hnf (by (try clear hm hnf); omega) | omega) hT))))))))))
        · replace hT := (if_neg h4).symm.trans hT
          refine And.intro (fun h35 => ?_) (fun h35 => by exfalso; omega)
          refine fun v36 e37 => ?_
          replace hT := qlc e37 hT
          exact And.intro (by (first | (clear hm hnf; omega) | omega)) (Exists.intro (48 - v36 : Int).toNat (And.intro (by first | exact qtn hm (by (try clear hm hnf); omega) | omega) (And.intro i1 (And.intro j1 (And.intro f1 (And.intro rfl (And.intro (by (first | (clear hm hnf; omega) | omega)) (And.intro (by (first | (clear hm hnf; omega) | omega)) (Exists.intro ng (And.intro (by first | exact qtm hm hnf (by (try clear hm hnf); omega) | omega) hT))))))))))
  · exact Exists.intro (48 - 0 : Int).toNat (And.intro i0 (And.intro j0 (And.intro f0 (And.intro rfl (And.intro (by (first | (clear hm hnf; omega) | omega)) (And.intro (by (first | (clear hm hnf; omega) | omega)) (Exists.intro 100000 (And.intro (by (first | (clear hm hnf; omega) | omega)) hT))))))))
theorem pC_letCropsGrow {A : qA} (hA : qokA LC A) (p0 : iva IC A) (p1 : ivf JC A) (p2 : LW A) (p3 : KO A) : qokA LC (fC_letCropsGrow A) ∧ iva IC (fC_letCropsGrow A) ∧ ivf JC (fC_letCropsGrow A) ∧ frm [7, 35, 43, 78] [(36, 9), (71, 9)] A (fC_letCropsGrow A) := by
  obtain ⟨r, B, hB, _, hk⟩ := okM_ex okC_letCropsGrow (as := [rf 0]) (K := fun _ B => B = (fC_letCropsGrow A) ∧ iva IC (fC_letCropsGrow A) ∧ ivf JC (fC_letCropsGrow A) ∧ frm [7, 35, 43, 78] [(36, 9), (71, 9)] A (fC_letCropsGrow A)) hA (qoks_c (show qok (rf _) from trivial) qoks_n) ⟨rfl, ⟨p0, p1, p2, p3⟩, fun A9 i9 j9 f9 x0 => (by rw [← x0]; exact ⟨rfl, i9, j9, f9⟩)⟩
  exact ⟨hk.1 ▸ hB, hk.2⟩
def fC_letWaterFlow_c13 (rec : Nat → List Int → qA → Int × qA) (s k : Int) (B : qA) : Int × qA := (if k < 8 then qlet (B 19 k) fun v8 => qlet (B 45 k) fun v10 => qlet (v8 + v10) fun v12 => qlet (qu B 19 k (wI v12)) fun A14 => qlet (A14 45 k) fun v20 => qlet (s + v10) fun v23 => qlet (k + 1) fun v25 => rec 13 [((wI v23)), ((wI v25))] A14 else (s, B))
def fC_letWaterFlow_L : Nat → Nat → List Int → qA → Int × qA
  | 0 => fun _ _ B => (0, B)
  | nF + 1 => fun k zs B => bif Nat.beq k 13 then (match zs with | [s, k] => fC_letWaterFlow_c13 (fC_letWaterFlow_L nF) s k B | _ => (0, B)) else (0, B)
theorem fC_letWaterFlow_L13 (nF : Nat) (s k : Int) (B : qA) : fC_letWaterFlow_L (nF + 1) 13 [s, k] B = fC_letWaterFlow_c13 (fC_letWaterFlow_L nF) s k B := (congrFun (congrFun (congrFun (fC_letWaterFlow_L.eq_2 nF) 13) [s, k]) B).trans (qL1 rfl rfl)
def fC_letWaterFlow (A : qA) : Int × qA := qlet (fC_pourA A) fun A1 => (fC_letWaterFlow_L 100000) 13 [0, 0] A1
def sC_letWaterFlow : qS := fun as A K => as = [rf 0] ∧ (iva IC A ∧ ivf JC A) ∧ (∀ A' : qA, iva IC A' → ivf JC A' → frm [45, 46, 9, 19] [] A A' → ∀ r : Int, rng r → (r = (fC_letWaterFlow A).1) → (A' = (fC_letWaterFlow A).2) → K (some (ni r)) A')
theorem okC_letWaterFlow : okM LC 5 128 sC_letWaterFlow := by
  refine qmeth [] true [(87, sC_pourA)] 47 rfl ⟨okC_pourA.le (by decide), trivial⟩ ?_
  rintro _ A K hA has ⟨rfl, ⟨i0, j0⟩, hK⟩
  have f0 := frm_0 [45, 46, 9, 19] [] A
  have hT : _ = fC_letWaterFlow A := (fC_letWaterFlow.eq_1 A).symm
  refine ⟨Nat.le_of_ble_eq_true rfl, [(13, [(0, 2, 0), (1, 0, 0), (2, 0, 0)], fun zs B nn => match zs with | [s, k] => iva IC B ∧ ivf JC B ∧ frm [45, 46, 9, 19] [] A B ∧ nn = (8 - k : Int).toNat ∧ (0 ≤ k) ∧ (k ≤ 8) ∧ (∃ nf : Nat, nn < nf ∧ fC_letWaterFlow_L nf 13 [s, k] B = fC_letWaterFlow A) | _ => False)], ?_, ?_⟩
  · refine ⟨⟨rfl, ?_⟩, trivial⟩
    · refine fun s k B mm hB hz hI => ?_
      obtain ⟨i1, j1, f1, hm, c0, c1, ⟨nf, hnf, hT⟩⟩ := hI
      obtain ⟨hz_s, hz_k, _⟩ := hz
      obtain ⟨ng, rfl⟩ : ∃ k, nf = k + 1 := ⟨nf - 1, by omega⟩
      replace hT := (fC_letWaterFlow_c13.eq_1 (fC_letWaterFlow_L ng) s k B).symm.trans ((fC_letWaterFlow_L13 ng s k B).symm.trans hT)
      refine And.intro (fun h7 => ?_) (fun h7 => ?_)
      · replace hT := (if_neg (Int.not_lt.mpr h7)).symm.trans hT
        exact hK _ i1 j1 f1 _ (by first | assumption | exact wI_rng _ | exact ⟨by (first | (clear hm hnf; omega) | omega), by (first | (clear hm hnf; omega) | omega)⟩ | exact i_rng _ | (subst_vars; exact i_rng _) | exact (hA _ _).2 rfl) (congrArg Prod.fst hT) (congrArg Prod.snd hT)
      · replace hT := (if_pos h7).symm.trans hT
        refine And.intro (by (first | (clear hm hnf; omega) | omega)) (fun v8 gv8 e9 => ?_)
        replace hT := qlc e9 hT
        refine And.intro (by (first | (clear hm hnf; omega) | omega)) (fun v10 gv10 e11 => ?_)
        replace hT := qlc e11 hT
        refine fun v12 e13 => ?_
        replace hT := qlc e13 hT
        have w16 := wI_rng v12
        refine And.intro (by (first | (clear hm hnf; omega) | omega)) (fun A14 e15 => ?_)
        replace hT := qlc e15 hT
        have i17 := iva_st i1 e15 trivial
        have j18 := ivf_sa j1 e15 rfl
        have f19 := frm_s f1 e15 rfl
        refine And.intro (by (first | (clear hm hnf; omega) | omega)) (fun v20 gv20 e21 => ?_)
        replace hT := qlc e21 hT
        have q22 : v10 = v20 := (e21.trans ((congrFun (st_a e15 rfl) _).trans e11.symm)).symm
        subst q22
        refine fun v23 e24 => ?_
        replace hT := qlc e24 hT
        refine fun v25 e26 => ?_
        replace hT := qlc e26 hT
        have w27 := wI_rng v23
        have w28 := wI_rng v25
        have w29 : wI v25 = v25 := wI_id (by (first | (clear hm hnf; omega) | omega))
        exact Exists.intro (8 - ((wI v25)) : Int).toNat (And.intro (by first | exact qtn hm (by (try clear hm hnf); omega) | omega) (And.intro i17 (And.intro j18 (And.intro f19 (And.intro rfl (And.intro (by (first | (clear hm hnf; omega) | omega)) (And.intro (by (first | (clear hm hnf; omega) | omega)) (Exists.intro ng (And.intro (by first | exact qtm hm hnf (by (try clear hm hnf); omega) | omega) hT)))))))))
  · refine And.intro rfl (And.intro (And.intro i0 j0) (fun A1 i2 j3 f4 g5 => ?_))
    replace hT := qlc g5 hT
    have f6 := frm_c f0 f4 rfl
    exact Exists.intro (8 - 0 : Int).toNat (And.intro i2 (And.intro j3 (And.intro f6 (And.intro rfl (And.intro (by (first | (clear hm hnf; omega) | omega)) (And.intro (by (first | (clear hm hnf; omega) | omega)) (Exists.intro 100000 (And.intro (by (first | (clear hm hnf; omega) | omega)) hT))))))))
theorem pC_letWaterFlow {A : qA} (hA : qokA LC A) (p0 : iva IC A) (p1 : ivf JC A) : qokA LC (fC_letWaterFlow A).2 ∧ iva IC (fC_letWaterFlow A).2 ∧ ivf JC (fC_letWaterFlow A).2 ∧ frm [45, 46, 9, 19] [] A (fC_letWaterFlow A).2 ∧ rng (fC_letWaterFlow A).1 := by
  obtain ⟨r, B, hB, _, hk⟩ := okM_ex okC_letWaterFlow (as := [rf 0]) (K := fun _ B => B = (fC_letWaterFlow A).2 ∧ iva IC (fC_letWaterFlow A).2 ∧ ivf JC (fC_letWaterFlow A).2 ∧ frm [45, 46, 9, 19] [] A (fC_letWaterFlow A).2 ∧ rng (fC_letWaterFlow A).1) hA (qoks_c (show qok (rf _) from trivial) qoks_n) ⟨rfl, ⟨p0, p1⟩, fun A9 i9 j9 f9 r9 g9 x0 x1 => (by rw [← x1]; (try rw [← x0]); exact ⟨rfl, i9, j9, f9, g9⟩)⟩
  exact ⟨hk.1 ▸ hB, hk.2⟩
def fC_claimantOf_c6 (rec : Nat → List Int → qA → Int × qA) (l1 l2 b w k : Int) (B : qA) : Int × qA := (if k < 8 then qlet (sr l2 k) fun v6 => qlet (ia v6 1) fun v8 => (if v8 = 0 then qlet (k + 1) fun v12 => rec 6 [l1, l2, b, w, v12] B else qlp (fC_pointsOf l1 k B) fun r18 A14 => (if b < r18 then qlet (k + 1) fun v27 => rec 6 [l1, l2, r18, k, v27] A14 else qlet (k + 1) fun v25 => rec 6 [l1, l2, b, w, v25] A14)) else (w, B))
def fC_claimantOf_L : Nat → Nat → List Int → qA → Int × qA
  | 0 => fun _ _ B => (0, B)
  | nF + 1 => fun k zs B => bif Nat.beq k 6 then (match zs with | [l1, l2, b, w, k] => fC_claimantOf_c6 (fC_claimantOf_L nF) l1 l2 b w k B | _ => (0, B)) else (0, B)
theorem fC_claimantOf_L6 (nF : Nat) (l1 l2 b w k : Int) (B : qA) : fC_claimantOf_L (nF + 1) 6 [l1, l2, b, w, k] B = fC_claimantOf_c6 (fC_claimantOf_L nF) l1 l2 b w k B := (congrFun (congrFun (congrFun (fC_claimantOf_L.eq_2 nF) 6) [l1, l2, b, w, k]) B).trans (qL1 rfl rfl)
def fC_claimantOf (i p : Int) (A : qA) : Int × qA := (fC_claimantOf_L 100000) 6 [i, p, 0, (-2), 0] A
def sC_claimantOf : qS := fun as A K => ∃ i p : Int, as = [rf 0, ni i, ni p] ∧ (iva IC A ∧ ivf JC A ∧ 0 ≤ i ∧ i ≤ 60 ∧ (LW A) ∧ (KO A)) ∧ (∀ A' : qA, iva IC A' → ivf JC A' → frm [35, 43, 78] [(36, 9), (71, 9)] A A' → ∀ r : Int, (-2) ≤ r → r ≤ 7 → (r = (fC_claimantOf i p A).1) → (A' = (fC_claimantOf i p A).2) → K (some (ni r)) A')
theorem okC_claimantOf : okM LC 5 136 sC_claimantOf := by
  refine qmeth [] false [(9, sC_pointsOf)] 38 rfl ⟨okC_pointsOf.le (by decide), trivial⟩ ?_
  rintro _ A K hA has ⟨i, p, rfl, ⟨i0, j0, p1, p2, p3, p4⟩, hK⟩
  have rg_i : rng i := has (ni i) (by simp)
  have rg_p : rng p := has (ni p) (by simp)
  have f0 := frm_0 [35, 43, 78] [(36, 9), (71, 9)] A
  have hT : _ = fC_claimantOf i p A := (fC_claimantOf.eq_1 i p A).symm
  refine ⟨Nat.le_of_ble_eq_true rfl, [(6, [(0, 2, 0), (1, 0, 0), (2, 0, 0), (3, 0, 0), (4, 0, 0), (5, 0, 0)], fun zs B nn => match zs with | [l1, l2, b, w, k] => iva IC B ∧ ivf JC B ∧ frm [35, 43, 78] [(36, 9), (71, 9)] A B ∧ nn = (8 - k : Int).toNat ∧ (l1 = i) ∧ (l2 = p) ∧ (0 ≤ k) ∧ (k ≤ 8) ∧ (0 ≤ b) ∧ (b ≤ 1000) ∧ ((-2) ≤ w) ∧ (w ≤ 7) ∧ (∃ nf : Nat, nn < nf ∧ fC_claimantOf_L nf 6 [l1, l2, b, w, k] B = fC_claimantOf i p A) | _ => False)], ?_, ?_⟩
  · refine ⟨⟨rfl, ?_⟩, trivial⟩
    · refine fun l1 l2 b w k B mm hB hz hI => ?_
      obtain ⟨i1, j1, f1, hm, c0, c1, c2, c3, c4, c5, c6, c7, ⟨nf, hnf, hT⟩⟩ := hI
      obtain ⟨hz_l1, hz_l2, hz_b, hz_w, hz_k, _⟩ := hz
      obtain ⟨ng, rfl⟩ : ∃ k, nf = k + 1 := ⟨nf - 1, by omega⟩
      replace hT := (fC_claimantOf_c6.eq_1 (fC_claimantOf_L ng) l1 l2 b w k B).symm.trans ((fC_claimantOf_L6 ng l1 l2 b w k B).symm.trans hT)
      refine And.intro (fun h5 => ?_) (fun h5 => ?_)
      · replace hT := (if_neg (Int.not_lt.mpr h5)).symm.trans hT
        exact hK _ i1 j1 f1 _ (by (first | (clear hm hnf; omega) | omega)) (by (first | (clear hm hnf; omega) | omega)) (congrArg Prod.fst hT) (congrArg Prod.snd hT)
      · replace hT := (if_pos h5).symm.trans hT
        refine fun v6 e7 => ?_
        replace hT := qlc e7 hT
        refine fun v8 e9 => ?_
        replace hT := qlc e9 hT
        have h10 := ia_bd (a := v6) (b := 1) (by (first | (clear hm hnf; omega) | omega)) (by (first | (clear hm hnf; omega) | omega))
        refine And.intro (fun h11 => ?_) (fun h11 => ?_)
        · replace hT := (if_pos h11).symm.trans hT
          refine fun v12 e13 => ?_
          replace hT := qlc e13 hT
          exact And.intro (by (first | (clear hm hnf; omega) | omega)) (Exists.intro (8 - v12 : Int).toNat (And.intro (by first | exact qtn hm (by (try clear hm hnf); omega) | omega) (And.intro i1 (And.intro j1 (And.intro f1 (And.intro rfl (And.intro (by (first | (clear hm hnf; omega) | omega)) (And.intro (by (first | (clear hm hnf; omega) | omega)) (And.intro (by (first | (clear hm hnf; omega) | omega)) (And.intro (by (first | (clear hm hnf; omega) | omega)) (And.intro (by (first | (clear hm hnf; omega) | omega)) (And.intro (by (first | (clear hm hnf; omega) | omega)) (And.intro (by (first | (clear hm hnf; omega) | omega)) (And.intro (by (first | (clear hm hnf; omega) | omega)) (Exists.intro ng (And.intro (by first | exact qtm hm hnf (by (try clear hm hnf); omega) | omega) hT))))))))))))))))
        · replace hT := (if_neg h11).symm.trans hT
          refine Exists.intro l1 (Exists.intro k (And.intro rfl (And.intro (And.intro i1 (And.intro j1 (And.intro (by (first | (clear hm hnf; omega) | omega)) (And.intro (by (first | (clear hm hnf; omega) | omega)) (And.intro (by (first | (clear hm hnf; omega) | omega)) (And.intro (by (first | (clear hm hnf; omega) | omega)) (And.intro (LW_fr p3 f1 rfl) (KO_fr p4 f1 rfl)))))))) (fun A14 i15 j16 f17 r18 g21 g22 g19 g20 => ?_))))
          replace hT := qlpc g19 g20 hT
          clear g19 g20
          have f23 := frm_c f1 f17 rfl
          refine And.intro (fun h24 => ?_) (fun h24 => ?_)
          · replace hT := (if_neg (Int.not_lt.mpr h24)).symm.trans hT
            refine fun v25 e26 => ?_
            replace hT := qlc e26 hT
            exact And.intro (by (first | (clear hm hnf; omega) | omega)) (Exists.intro (8 - v25 : Int).toNat (And.intro (by first | exact qtn hm (by (try clear hm hnf); omega) | omega) (And.intro i15 (And.intro j16 (And.intro f23 (And.intro rfl (And.intro (by (first | (clear hm hnf; omega) | omega)) (And.intro (by (first | (clear hm hnf; omega) | omega)) (And.intro (by (first | (clear hm hnf; omega) | omega)) (And.intro (by (first | (clear hm hnf; omega) | omega)) (And.intro (by (first | (clear hm hnf; omega) | omega)) (And.intro (by (first | (clear hm hnf; omega) | omega)) (And.intro (by (first | (clear hm hnf; omega) | omega)) (And.intro (by (first | (clear hm hnf; omega) | omega)) (Exists.intro ng (And.intro (by first | exact qtm hm hnf (by (try clear hm hnf); omega) | omega) hT))))))))))))))))
          · replace hT := (if_pos h24).symm.trans hT
            refine fun v27 e28 => ?_
            replace hT := qlc e28 hT
            exact And.intro (by (first | (clear hm hnf; omega) | omega)) (Exists.intro (8 - v27 : Int).toNat (And.intro (by first | exact qtn hm (by (try clear hm hnf); omega) | omega) (And.intro i15 (And.intro j16 (And.intro f23 (And.intro rfl (And.intro (by (first | (clear hm hnf; omega) | omega)) (And.intro (by (first | (clear hm hnf; omega) | omega)) (And.intro (by (first | (clear hm hnf; omega) | omega)) (And.intro (by (first | (clear hm hnf; omega) | omega)) (And.intro (by (first | (clear hm hnf; omega) | omega)) (And.intro (by (first | (clear hm hnf; omega) | omega)) (And.intro (by (first | (clear hm hnf; omega) | omega)) (And.intro (by (first | (clear hm hnf; omega) | omega)) (Exists.intro ng (And.intro (by first | exact qtm hm hnf (by (try clear hm hnf); omega) | omega) hT))))))))))))))))
  · exact Exists.intro (8 - 0 : Int).toNat (And.intro i0 (And.intro j0 (And.intro f0 (And.intro rfl (And.intro (by (first | (clear hm hnf; omega) | omega)) (And.intro (by (first | (clear hm hnf; omega) | omega)) (And.intro (by (first | (clear hm hnf; omega) | omega)) (And.intro (by (first | (clear hm hnf; omega) | omega)) (And.intro (by (first | (clear hm hnf; omega) | omega)) (And.intro (by (first | (clear hm hnf; omega) | omega)) (And.intro (by (first | (clear hm hnf; omega) | omega)) (And.intro (by (first | (clear hm hnf; omega) | omega)) (Exists.intro 100000 (And.intro (by (first | (clear hm hnf; omega) | omega)) hT))))))))))))))
theorem pC_claimantOf {i p : Int} {A : qA} (hA : qokA LC A) (rg_p : rng p) (p0 : iva IC A) (p1 : ivf JC A) (p2 : 0 ≤ i) (p3 : i ≤ 60) (p4 : LW A) (p5 : KO A) : qokA LC (fC_claimantOf i p A).2 ∧ iva IC (fC_claimantOf i p A).2 ∧ ivf JC (fC_claimantOf i p A).2 ∧ frm [35, 43, 78] [(36, 9), (71, 9)] A (fC_claimantOf i p A).2 ∧ ((-2) ≤ (fC_claimantOf i p A).1 ∧ (fC_claimantOf i p A).1 ≤ 7) := by
  obtain ⟨r, B, hB, _, hk⟩ := okM_ex okC_claimantOf (as := [rf 0, ni i, ni p]) (K := fun _ B => B = (fC_claimantOf i p A).2 ∧ iva IC (fC_claimantOf i p A).2 ∧ ivf JC (fC_claimantOf i p A).2 ∧ frm [35, 43, 78] [(36, 9), (71, 9)] A (fC_claimantOf i p A).2 ∧ ((-2) ≤ (fC_claimantOf i p A).1 ∧ (fC_claimantOf i p A).1 ≤ 7)) hA (qoks_c (show qok (rf _) from trivial) (qoks_c (show rng i from ⟨by (first | (clear hm hnf; omega) | omega), by (first | (clear hm hnf; omega) | omega)⟩) (qoks_c (rg_p) qoks_n))) ⟨i, p, rfl, ⟨p0, p1, p2, p3, p4, p5⟩, fun A9 i9 j9 f9 r9 g8 g9 x0 x1 => (by rw [← x1]; (try rw [← x0]); exact ⟨rfl, i9, j9, f9, ⟨g8, g9⟩⟩)⟩
  exact ⟨hk.1 ▸ hB, hk.2⟩
def fC_countOfRow (w : Int) (A : qA) : Int := (if w < 10 then (-1) else (if w < 18 then qlet (w - 10) fun v27 => qlet (A 16 v27) fun v29 => v29 else (if w < 20 then (-1) else (if w < 38 then qlet (w - 20) fun v6 => qlet (qd v6 3) fun v8 => qlet (w - 20) fun v11 => qlet (qm v11 3) fun v13 => (if v13 = 0 then qlet (A 11 v8) fun v24 => v24 else (if v13 = 1 then qlet (A 12 v8) fun v21 => v21 else qlet (A 13 v8) fun v18 => v18)) else (-1)))))
def sC_countOfRow : qS := fun as A K => ∃ w : Int, as = [rf 0, ni w] ∧ (iva IC A ∧ ivf JC A) ∧ (∀ r : Int, rng r → (r = fC_countOfRow w A) → K (some (ni r)) A)
theorem okC_countOfRow : okM LC 1 127 sC_countOfRow := by
  refine qmeth [] false [] 63 rfl trivial ?_
  rintro _ A K hA has ⟨w, rfl, ⟨i0, j0⟩, hK⟩
  have rg_w : rng w := has (ni w) (by simp)
  have f0 := frm_0 [] [] A
  have hT : _ = fC_countOfRow w A := (fC_countOfRow.eq_1 w A).symm
  refine ⟨Nat.le_of_ble_eq_true rfl, [], trivial, ?_⟩
  refine And.intro (fun h1 => ?_) (fun h1 => ?_)
  · replace hT := (if_pos h1).symm.trans hT
    refine And.intro (fun h2 => ?_) (fun h2 => by exfalso; omega)
    exact hK _ (by first | assumption | exact wI_rng _ | exact ⟨by (first | (clear hm hnf; omega) | omega), by (first | (clear hm hnf; omega) | omega)⟩ | exact i_rng _ | (subst_vars; exact i_rng _) | exact (hA _ _).2 rfl) hT
  · replace hT := (if_neg (Int.not_lt.mpr h1)).symm.trans hT
    refine And.intro (fun h3 => ?_) (fun h3 => ?_)
    · replace hT := (if_neg (Int.not_lt.mpr h3)).symm.trans hT
      refine And.intro (fun h4 => ?_) (fun h4 => ?_)
      · replace hT := (if_pos h4).symm.trans hT
        exact hK _ (by first | assumption | exact wI_rng _ | exact ⟨by (first | (clear hm hnf; omega) | omega), by (first | (clear hm hnf; omega) | omega)⟩ | exact i_rng _ | (subst_vars; exact i_rng _) | exact (hA _ _).2 rfl) hT
      · replace hT := (if_neg (Int.not_lt.mpr h4)).symm.trans hT
        refine And.intro (fun h5 => ?_) (fun h5 => ?_)
        · replace hT := (if_pos h5).symm.trans hT
          refine fun v6 e7 => ?_
          replace hT := qlc e7 hT
          refine And.intro (by (first | (clear hm hnf; omega) | omega)) (And.intro (by (first | (clear hm hnf; omega) | omega)) (fun v8 e9 => ?_))
          replace hT := qlc e9 hT
          have h10 := qd_nn (a := v6) (b := 3) (by (first | (clear hm hnf; omega) | omega))
          refine fun v11 e12 => ?_
          replace hT := qlc e12 hT
          refine And.intro (by (first | (clear hm hnf; omega) | omega)) (And.intro (by (first | (clear hm hnf; omega) | omega)) (fun v13 e14 => ?_))
          replace hT := qlc e14 hT
          have h15 := qm_nn (a := v11) (b := 3) (by (first | (clear hm hnf; omega) | omega))
          refine And.intro (fun h16 => ?_) (fun h16 => ?_)
          · replace hT := (if_neg h16).symm.trans hT
            refine And.intro (fun h17 => ?_) (fun h17 => ?_)
            · replace hT := (if_neg h17).symm.trans hT
              refine And.intro (by (first | (clear hm hnf; omega) | omega)) (fun v18 gv18 e19 => ?_)
              replace hT := qlc e19 hT
              have b20 := iva_at i0 10 rfl (i := v8) (by (first | (clear hm hnf; omega) | omega)) (by (first | (clear hm hnf; omega) | omega))
              exact hK _ (by first | assumption | exact wI_rng _ | exact ⟨by (first | (clear hm hnf; omega) | omega), by (first | (clear hm hnf; omega) | omega)⟩ | exact i_rng _ | (subst_vars; exact i_rng _) | exact (hA _ _).2 rfl) hT
            · replace hT := (if_pos h17).symm.trans hT
              refine And.intro (by (first | (clear hm hnf; omega) | omega)) (fun v21 gv21 e22 => ?_)
              replace hT := qlc e22 hT
              have b23 := iva_at i0 9 rfl (i := v8) (by (first | (clear hm hnf; omega) | omega)) (by (first | (clear hm hnf; omega) | omega))
              exact hK _ (by first | assumption | exact wI_rng _ | exact ⟨by (first | (clear hm hnf; omega) | omega), by (first | (clear hm hnf; omega) | omega)⟩ | exact i_rng _ | (subst_vars; exact i_rng _) | exact (hA _ _).2 rfl) hT
          · replace hT := (if_pos h16).symm.trans hT
            refine And.intro (by (first | (clear hm hnf; omega) | omega)) (fun v24 gv24 e25 => ?_)
            replace hT := qlc e25 hT
            have b26 := iva_at i0 8 rfl (i := v8) (by (first | (clear hm hnf; omega) | omega)) (by (first | (clear hm hnf; omega) | omega))
            exact hK _ (by first | assumption | exact wI_rng _ | exact ⟨by (first | (clear hm hnf; omega) | omega), by (first | (clear hm hnf; omega) | omega)⟩ | exact i_rng _ | (subst_vars; exact i_rng _) | exact (hA _ _).2 rfl) hT
        · replace hT := (if_neg (Int.not_lt.mpr h5)).symm.trans hT
          exact hK _ (by first | assumption | exact wI_rng _ | exact ⟨by (first | (clear hm hnf; omega) | omega), by (first | (clear hm hnf; omega) | omega)⟩ | exact i_rng _ | (subst_vars; exact i_rng _) | exact (hA _ _).2 rfl) hT
    · replace hT := (if_pos h3).symm.trans hT
      refine fun v27 e28 => ?_
      replace hT := qlc e28 hT
      refine And.intro (by (first | (clear hm hnf; omega) | omega)) (fun v29 gv29 e30 => ?_)
      replace hT := qlc e30 hT
      have b31 := iva_at i0 12 rfl (i := v27) (by (first | (clear hm hnf; omega) | omega)) (by (first | (clear hm hnf; omega) | omega))
      exact hK _ (by first | assumption | exact wI_rng _ | exact ⟨by (first | (clear hm hnf; omega) | omega), by (first | (clear hm hnf; omega) | omega)⟩ | exact i_rng _ | (subst_vars; exact i_rng _) | exact (hA _ _).2 rfl) hT
theorem pC_countOfRow {w : Int} {A : qA} (hA : qokA LC A) (rg_w : rng w) (p0 : iva IC A) (p1 : ivf JC A) : rng (fC_countOfRow w A) := by
  obtain ⟨r, B, hB, _, hk⟩ := okM_ex okC_countOfRow (as := [rf 0, ni w]) (K := fun _ B => B = A ∧ rng (fC_countOfRow w A)) hA (qoks_c (show qok (rf _) from trivial) (qoks_c (rg_w) qoks_n)) ⟨w, rfl, ⟨p0, p1⟩, fun r9 g9 x0 => (by rw [← x0]; exact ⟨rfl, g9⟩)⟩
  exact hk.2
