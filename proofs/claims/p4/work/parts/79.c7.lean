def sC_hungCell : qS := fun as A K => ∃ c l : Int, as = [rf 0, ni c, ni l] ∧ (iva IC A ∧ ivf JC A) ∧ (∀ r : Int, (-1) ≤ r → r ≤ 47 → K (some (ni r)) A)
theorem okC_hungCell : okM LC 4 137 sC_hungCell := by
  refine qmeth [] false [(141, sC_isCell), (21, sC_hangs)] 27 rfl ⟨okC_isCell.le (by decide), ⟨okC_hangs.le (by decide), trivial⟩⟩ ?_
  rintro _ A K hA has ⟨c, l, rfl, ⟨i0, j0⟩, hK⟩
  have rg_c : rng c := has (ni c) (by simp)
  have rg_l : rng l := has (ni l) (by simp)
  have f0 := frm_0 [] [] A
  refine ⟨Nat.le_of_ble_eq_true rfl, [], trivial, ?_⟩
  refine Exists.intro c (Exists.intro l (And.intro rfl (And.intro (fun h1 => ?_) (fun h1 => ?_))))
  · refine And.intro (fun h2 => by exfalso; omega) (fun h2 => ?_)
    refine fun v3 e4 => ?_
    refine fun v5 e6 => ?_
    refine And.intro (by omega) (Exists.intro v5 (And.intro rfl (And.intro (fun h7 => ?_) (fun h7 => ?_))))
    · refine And.intro (fun h8 => ?_) (fun h8 => by exfalso; omega)
      refine fun v9 e10 => ?_
      refine fun v11 e12 => ?_
      exact And.intro (by omega) (hK _ (by omega) (by omega))
    · refine And.intro (fun h13 => by exfalso; omega) (fun h13 => ?_)
      exact hK _ (by omega) (by omega)
  · refine And.intro (fun h14 => ?_) (fun h14 => by exfalso; omega)
    exact hK _ (by omega) (by omega)
def sC_landIn : qS := fun as A K => ∃ i c : Int, as = [rf 0, ni i, ni c] ∧ (iva IC A ∧ ivf JC A ∧ 0 ≤ i ∧ i ≤ 60 ∧ 0 ≤ c ∧ c ≤ 47 ∧ (0 ≤ A 26 i ∧ A 26 i ≤ 5) ∧ (0 ≤ A 31 i ∧ A 31 i ≤ 7)) ∧ (∀ A' : qA, iva IC A' → ivf JC A' → frm [32, 23, 20] [] A A' → K none A')
theorem okC_landIn : okM LC 1 135 sC_landIn := by
  refine qmeth [] true [] 76 rfl trivial ?_
  rintro _ A K hA has ⟨i, c, rfl, ⟨i0, j0, p1, p2, p3, p4, p5, p6⟩, hK⟩
  have rg_i : rng i := has (ni i) (by simp)
  have rg_c : rng c := has (ni c) (by simp)
  have f0 := frm_0 [32, 23, 20] [] A
  obtain ⟨v7, e8⟩ : ∃ v, v = A 26 i := ⟨_, rfl⟩
  rw [← e8] at p5
  obtain ⟨v9, e10⟩ : ∃ v, v = A 31 i := ⟨_, rfl⟩
  rw [← e10] at p6
  refine ⟨Nat.le_of_ble_eq_true rfl, [], trivial, ?_⟩
  refine And.intro (by omega) (fun v11 gv11 e12 => ?_)
  have b13 := iva_at i0 21 rfl (i := i) (by omega) (by omega)
  have q14 : v9 = v11 := (e12.trans e10.symm).symm
  subst q14
  refine And.intro (by omega) (fun v15 e16 => ?_)
  have h17 := qd_nn (a := c) (b := 6) (by omega)
  refine And.intro (by omega) (fun v18 gv18 e19 => ?_)
  have b20 := iva_at i0 19 rfl (i := i) (by omega) (by omega)
  refine And.intro (by omega) (fun v21 gv21 e22 => ?_)
  have b23 := iva_at i0 18 rfl (i := i) (by omega) (by omega)
  have q24 : v7 = v21 := (e22.trans e8.symm).symm
  subst q24
  refine And.intro (by omega) (fun v25 gv25 e26 => ?_)
  have b27 := iva_at i0 10 rfl (i := v7) (by omega) (by omega)
  refine fun v28 e29 => ?_
  have h30 := mul_bd (a := v18) (b := v25) (p := 200) (q := 99) (by omega) (by omega) (by omega) (by omega)
  rw [← e29] at h30
  have w33 := wI_rng v28
  have w34 : wI v28 = v28 := wI_id (by omega)
  refine And.intro (by omega) (fun A31 e32 => ?_)
  have i35 := iva_st i0 e32 trivial
  have j36 := ivf_sa j0 e32 rfl
  have f37 := frm_s f0 e32 rfl
  refine And.intro (by omega) (fun v38 gv38 e39 => ?_)
  refine And.intro (by omega) (fun v40 gv40 e41 => ?_)
  have q42 : (wI v28) = v40 := (e41.trans (st_v e32)).symm
  subst q42
  refine fun v43 e44 => ?_
  have w47 := wI_rng v43
  refine And.intro (by omega) (fun A45 e46 => ?_)
  have i48 := iva_st i35 e46 trivial
  have j49 := ivf_sa j36 e46 rfl
  have f50 := frm_s f37 e46 rfl
  refine And.intro (by omega) (fun v51 gv51 e52 => ?_)
  have b53 := iva_at i48 19 rfl (i := i) (by omega) (by omega)
  have q54 : v18 = v51 := (e52.trans ((congrFun (Eq.trans (st_a e46 rfl) (st_a e32 rfl)) _).trans e19.symm)).symm
  subst q54
  refine And.intro (by omega) (fun v55 e56 => ?_)
  have h57 := qm_nn (a := c) (b := 6) (by omega)
  refine fun v58 e59 => ?_
  refine fun v60 e61 => ?_
  have h62 := mul_bd (a := v18) (b := v58) (p := 200) (q := 6) (by omega) (by omega) (by omega) (by omega)
  rw [← e61] at h62
  refine And.intro (by omega) (fun v63 gv63 e64 => ?_)
  have b65 := iva_at i48 14 rfl (i := v15) (by omega) (by omega)
  have w67 := wI_rng v60
  have w68 : wI v60 = v60 := wI_id (by omega)
  refine And.intro (fun h66 => ?_) (fun h66 => ?_)
  · exact hK _ i48 j49 f50
  · refine And.intro (by omega) (fun v69 gv69 e70 => ?_)
    refine fun v71 e72 => ?_
    have w75 := wI_rng v71
    refine And.intro (by omega) (fun A73 e74 => ?_)
    have i76 := iva_st i48 e74 trivial
    have j77 := ivf_sa j49 e74 rfl
    have f78 := frm_s f50 e74 rfl
    exact hK _ i76 j77 f78
def sC_dropCrop : qS := fun as A K => ∃ c b : Int, as = [rf 0, ni c, ni b] ∧ (iva IC A ∧ ivf JC A ∧ 0 ≤ c ∧ c ≤ 47 ∧ 0 ≤ b ∧ b ≤ 1 ∧ (0 ≤ A 6 c ∧ A 6 c ≤ 5) ∧ (LW A) ∧ (KO A)) ∧ (∀ A' : qA, iva IC A' → ivf JC A' → frm [6, 7, 10, 8, 20, 23, 25, 26, 27, 28, 29, 30, 31, 32, 33, 35, 43, 78] [(24, 9), (24, 10), (36, 9), (71, 9)] A A' → ∀ r : Int, 0 ≤ r → r ≤ 6 → K (some (ni r)) A')
theorem okC_dropCrop : okM LC 5 134 sC_dropCrop := by
  refine qmeth [] true [(15, sC_open), (26, sC_clearCrop), (8, sC_ownerOf), (135, sC_landIn), (16, sC_close), (7, sC_catching)] 88 rfl ⟨okC_open.le (by decide), ⟨okC_clearCrop.le (by decide), ⟨okC_ownerOf.le (by decide), ⟨okC_landIn.le (by decide), ⟨okC_close.le (by decide), ⟨okC_catching.le (by decide), trivial⟩⟩⟩⟩⟩⟩ ?_
  rintro _ A K hA has ⟨c, b, rfl, ⟨i0, j0, p1, p2, p3, p4, p5, p6, p7⟩, hK⟩
  have rg_c : rng c := has (ni c) (by simp)
  have rg_b : rng b := has (ni b) (by simp)
  have f0 := frm_0 [6, 7, 10, 8, 20, 23, 25, 26, 27, 28, 29, 30, 31, 32, 33, 35, 43, 78] [(24, 9), (24, 10), (36, 9), (71, 9)] A
  obtain ⟨v8, e9⟩ : ∃ v, v = A 6 c := ⟨_, rfl⟩
  rw [← e9] at p5
  refine ⟨Nat.le_of_ble_eq_true rfl, [], trivial, ?_⟩
  refine fun v10 gv10 e11 => ?_
  obtain ⟨v12, e13⟩ : ∃ v, v = A 6 c := ⟨_, rfl⟩
  have b14 := iva_at i0 2 rfl (i := c) (by omega) (by omega)
  have q15 : v8 = v12 := (e13.trans e9.symm).symm
  subst q15
  refine Exists.intro c (Exists.intro v10 (And.intro rfl (And.intro (And.intro i0 (And.intro j0 (And.intro (by omega) (And.intro (by omega) (by rw [← e13]; omega))))) (fun A16 i17 j18 f19 r20 g22 g23 g21 => ?_))))
  have f24 := frm_c f0 f19 rfl
  obtain ⟨v25, e26⟩ : ∃ v, v = A16 26 r20 := ⟨_, rfl⟩
  rw [← e26] at g21
  refine Exists.intro c (And.intro rfl (And.intro (And.intro i17 (And.intro j18 (And.intro (by omega) (by omega)))) (fun A27 i28 j29 f30 => ?_)))
  have f31 := frm_c f24 f30 rfl
  refine And.intro (fun h32 => ?_) (fun h32 => ?_)
  · refine And.intro (by omega) (fun A33 e34 => ?_)
    have i35 := iva_st i28 e34 (And.intro (by omega) trivial)
    have j36 := ivf_sa j29 e34 rfl
    have f37 := frm_s f31 e34 rfl
    refine And.intro (fun h38 => ?_) (fun h38 => by exfalso; omega)
    refine Exists.intro r20 (And.intro rfl (And.intro (And.intro i35 (And.intro j36 (And.intro (by omega) (And.intro (by omega) (And.intro (LW_fr p6 f37 rfl) (KO_fr p7 f37 rfl)))))) (fun A39 i40 j41 f42 r43 g44 g45 => ?_)))
    have f46 := frm_c f37 f42 rfl
    refine And.intro (by omega) (fun A47 e48 => ?_)
    have i49 := iva_st i40 e48 (And.intro (by omega) trivial)
    have j50 := ivf_sa j41 e48 rfl
    have f51 := frm_s f46 e48 rfl
    obtain ⟨v52, e53⟩ : ∃ v, v = A47 26 r20 := ⟨_, rfl⟩
    have b54 := iva_at i49 18 rfl (i := r20) (by omega) (by omega)
    have q55 : v25 = v52 := (e53.trans ((congrFun (Eq.trans (Eq.trans (Eq.trans (st_a e48 rfl) (frm_a f42 rfl)) (st_a e34 rfl)) (frm_a f30 rfl)) _).trans e26.symm)).symm
    subst q55
    obtain ⟨v56, e57⟩ : ∃ v, v = A47 31 r20 := ⟨_, rfl⟩
    have b58 := iva_at i49 21 rfl (i := r20) (by omega) (by omega)
    have q59 : r43 = v56 := (e57.trans (st_v e48)).symm
    subst q59
    refine Exists.intro r20 (Exists.intro c (And.intro rfl (And.intro (And.intro i49 (And.intro j50 (And.intro (by omega) (And.intro (by omega) (And.intro (by omega) (And.intro (by omega) (And.intro (by rw [← e53]; omega) (by rw [← e57]; omega)))))))) (fun A60 i61 j62 f63 => ?_))))
    have f64 := frm_c f51 f63 rfl
    refine And.intro rfl (And.intro (And.intro i61 j62) (fun A65 i66 j67 f68 => ?_))
    have f69 := frm_c f64 f68 rfl
    exact hK _ i66 j67 f69 _ (by omega) (by omega)
  · refine Exists.intro r20 (And.intro rfl (And.intro (And.intro i28 (And.intro j29 (And.intro (by omega) (And.intro (by omega) (And.intro (LW_fr p6 f31 rfl) (KO_fr p7 f31 rfl)))))) (fun A70 i71 j72 f73 r74 g75 g76 => ?_)))
    have f77 := frm_c f31 f73 rfl
    refine And.intro (by omega) (fun A78 e79 => ?_)
    have i80 := iva_st i71 e79 (And.intro (by omega) trivial)
    have j81 := ivf_sa j72 e79 rfl
    have f82 := frm_s f77 e79 rfl
    refine And.intro (fun h83 => ?_) (fun h83 => ?_)
    · refine Exists.intro r20 (And.intro rfl (And.intro (And.intro i80 (And.intro j81 (And.intro (by omega) (And.intro (by omega) (And.intro (LW_fr p6 f82 rfl) (KO_fr p7 f82 rfl)))))) (fun A84 i85 j86 f87 r88 g89 g90 => ?_)))
      have f91 := frm_c f82 f87 rfl
      refine And.intro (by omega) (fun A92 e93 => ?_)
      have i94 := iva_st i85 e93 (And.intro (by omega) trivial)
      have j95 := ivf_sa j86 e93 rfl
      have f96 := frm_s f91 e93 rfl
      obtain ⟨v97, e98⟩ : ∃ v, v = A92 26 r20 := ⟨_, rfl⟩
      have b99 := iva_at i94 18 rfl (i := r20) (by omega) (by omega)
      have q100 : v25 = v97 := (e98.trans ((congrFun (Eq.trans (Eq.trans (Eq.trans (Eq.trans (st_a e93 rfl) (frm_a f87 rfl)) (st_a e79 rfl)) (frm_a f73 rfl)) (frm_a f30 rfl)) _).trans e26.symm)).symm
      subst q100
      obtain ⟨v101, e102⟩ : ∃ v, v = A92 31 r20 := ⟨_, rfl⟩
      have b103 := iva_at i94 21 rfl (i := r20) (by omega) (by omega)
      have q104 : r88 = v101 := (e102.trans (st_v e93)).symm
      subst q104
      refine Exists.intro r20 (Exists.intro c (And.intro rfl (And.intro (And.intro i94 (And.intro j95 (And.intro (by omega) (And.intro (by omega) (And.intro (by omega) (And.intro (by omega) (And.intro (by rw [← e98]; omega) (by rw [← e102]; omega)))))))) (fun A105 i106 j107 f108 => ?_))))
      have f109 := frm_c f96 f108 rfl
      refine And.intro rfl (And.intro (And.intro i106 j107) (fun A110 i111 j112 f113 => ?_))
      have f114 := frm_c f109 f113 rfl
      exact hK _ i111 j112 f114 _ (by omega) (by omega)
    · refine And.intro (by omega) (fun v115 e116 => ?_)
      have h117 := qm_nn (a := c) (b := 6) (by omega)
      refine fun v118 e119 => ?_
      refine fun v120 e121 => ?_
      refine And.intro (by omega) (fun v122 gv122 e123 => ?_)
      refine And.intro (by omega) (fun v124 gv124 e125 => ?_)
      have b126 := iva_at i80 19 rfl (i := r20) (by omega) (by omega)
      refine fun v127 e128 => ?_
      have w131 := wI_rng v127
      refine And.intro (by omega) (fun A129 e130 => ?_)
      have i132 := iva_st i80 e130 trivial
      have j133 := ivf_sa j81 e130 rfl
      have f134 := frm_s f82 e130 rfl
      refine And.intro (by omega) (fun A135 e136 => ?_)
      have i137 := iva_st i132 e136 (And.intro (by omega) trivial)
      have j138 := ivf_sa j133 e136 rfl
      have f139 := frm_s f134 e136 rfl
      refine And.intro (by omega) (fun A140 e141 => ?_)
      have i142 := iva_st i137 e141 trivial
      have j143 := ivf_sa j138 e141 rfl
      have f144 := frm_s f139 e141 rfl
      refine And.intro rfl (And.intro (And.intro i142 j143) (fun A145 i146 j147 f148 => ?_))
      have f149 := frm_c f144 f148 rfl
      exact hK _ i146 j147 f149 _ (by omega) (by omega)
def sC_tearDown : qS := fun as A K => ∃ c : Int, as = [rf 0, ni c] ∧ (iva IC A ∧ ivf JC A ∧ 0 ≤ c ∧ c ≤ 47 ∧ (LW A) ∧ (KO A)) ∧ (∀ A' : qA, iva IC A' → ivf JC A' → frm [6, 7, 10, 8, 20, 23, 25, 26, 27, 28, 29, 30, 31, 32, 33, 35, 43, 78, 3, 2] [(24, 9), (24, 10), (36, 9), (71, 9), (1, 0)] A A' → ∀ r : Int, rng r → K (some (ni r)) A')
theorem okC_tearDown : okM LC 6 133 sC_tearDown := by
  refine qmeth [] true [(29, sC_loadOf), (20, sC_endOfColumn), (32, sC_unhang), (21, sC_hangs), (22, sC_hasCrop), (134, sC_dropCrop)] 58 rfl ⟨okC_loadOf.le (by decide), ⟨okC_endOfColumn.le (by decide), ⟨okC_unhang.le (by decide), ⟨okC_hangs.le (by decide), ⟨okC_hasCrop.le (by decide), ⟨okC_dropCrop.le (by decide), trivial⟩⟩⟩⟩⟩⟩ ?_
  rintro _ A K hA has ⟨c, rfl, ⟨i0, j0, p1, p2, p3, p4⟩, hK⟩
  have rg_c : rng c := has (ni c) (by simp)
  have f0 := frm_0 [6, 7, 10, 8, 20, 23, 25, 26, 27, 28, 29, 30, 31, 32, 33, 35, 43, 78, 3, 2] [(24, 9), (24, 10), (36, 9), (71, 9), (1, 0)] A
  refine ⟨Nat.le_of_ble_eq_true rfl, [(12, [(0, 2, 0), (1, 0, 0), (2, 0, 0), (3, 0, 0), (4, 0, 0)], fun zs B nn => match zs with | [l1, l2, l3, k] => iva IC B ∧ ivf JC B ∧ frm [6, 7, 10, 8, 20, 23, 25, 26, 27, 28, 29, 30, 31, 32, 33, 35, 43, 78, 3, 2] [(24, 9), (24, 10), (36, 9), (71, 9), (1, 0)] A B ∧ nn = (k + 1 : Int).toNat ∧ (l1 = c) ∧ ((-1) ≤ k) ∧ (k ≤ 47) | _ => False)], ?_, ?_⟩
  · refine ⟨⟨rfl, ?_⟩, trivial⟩
    · refine fun l1 l2 l3 k B mm hB hz hI => ?_
      obtain ⟨i1, j1, f1, hm, c0, c1, c2⟩ := hI
      obtain ⟨hz_l1, hz_l2, hz_l3, hz_k, _⟩ := hz
      refine And.intro (fun h11 => ?_) (fun h11 => ?_)
      · refine Exists.intro l1 (Exists.intro l2 (And.intro rfl (And.intro (And.intro i1 (And.intro j1 (And.intro (by omega) (by omega)))) (fun A12 i13 j14 f15 => ?_))))
        have f16 := frm_c f1 f15 rfl
        exact hK _ i13 j14 f16 _ (by first | exact wI_rng _ | omega | (exact (hA _ _).2 rfl))
      · refine Exists.intro k (And.intro rfl (And.intro (fun h17 => ?_) (fun h17 => ?_)))
        · refine And.intro (fun h18 => by exfalso; omega) (fun h18 => ?_)
          refine Exists.intro k (And.intro rfl (And.intro (fun h19 => ?_) (fun h19 => ?_)))
          · obtain ⟨v20, e21⟩ : ∃ v, v = B 6 k := ⟨_, rfl⟩
            refine And.intro (fun h22 => by exfalso; omega) (fun h22 => ?_)
            obtain ⟨v23, e24⟩ : ∃ v, v = B 6 k := ⟨_, rfl⟩
            have b25 := iva_at i1 2 rfl (i := k) (by omega) (by omega)
            have q26 : v20 = v23 := (e24.trans e21.symm).symm
            subst q26
            refine Exists.intro k (Exists.intro 0 (And.intro rfl (And.intro (And.intro i1 (And.intro j1 (And.intro (by omega) (And.intro (by omega) (And.intro (by omega) (And.intro (by omega) (And.intro (by rw [← e24]; omega) (And.intro (LW_fr p3 f1 rfl) (KO_fr p4 f1 rfl))))))))) (fun A27 i28 j29 f30 r31 g32 g33 => ?_))))
            have f34 := frm_c f1 f30 rfl
            refine And.intro (by omega) (fun A35 e36 => ?_)
            have i37 := iva_st i28 e36 trivial
            have j38 := ivf_sa j29 e36 rfl
            have f39 := frm_s f34 e36 rfl
            refine And.intro (by omega) (fun A40 e41 => ?_)
            have i42 := iva_st i37 e41 trivial
            have j43 := ivf_sa j38 e41 rfl
            have f44 := frm_s f39 e41 rfl
            refine fun v45 e46 => ?_
            refine fun v47 e48 => ?_
            have w49 := wI_rng v45
            have w50 := wI_rng v47
            have w51 : wI v47 = v47 := wI_id (by omega)
            exact Exists.intro (((wI v47)) + 1 : Int).toNat (And.intro (by omega) (And.intro i42 (And.intro j43 (And.intro f44 (And.intro rfl (And.intro (by omega) (And.intro (by omega) (by omega))))))))
          · refine And.intro (fun h52 => ?_) (fun h52 => by exfalso; omega)
            refine And.intro (by omega) (fun A53 e54 => ?_)
            have i55 := iva_st i1 e54 trivial
            have j56 := ivf_sa j1 e54 rfl
            have f57 := frm_s f1 e54 rfl
            refine And.intro (by omega) (fun A58 e59 => ?_)
            have i60 := iva_st i55 e59 trivial
            have j61 := ivf_sa j56 e59 rfl
            have f62 := frm_s f57 e59 rfl
            refine fun v63 e64 => ?_
            refine fun v65 e66 => ?_
            have w67 := wI_rng v63
            have w68 := wI_rng v65
            have w69 : wI v65 = v65 := wI_id (by omega)
            exact Exists.intro (((wI v65)) + 1 : Int).toNat (And.intro (by omega) (And.intro i60 (And.intro j61 (And.intro f62 (And.intro rfl (And.intro (by omega) (And.intro (by omega) (by omega))))))))
        · refine And.intro (fun h70 => ?_) (fun h70 => by exfalso; omega)
          refine fun v71 e72 => ?_
          have w73 := wI_rng v71
          have w74 : wI v71 = v71 := wI_id (by omega)
          exact Exists.intro (((wI v71)) + 1 : Int).toNat (And.intro (by omega) (And.intro i1 (And.intro j1 (And.intro f1 (And.intro rfl (And.intro (by omega) (And.intro (by omega) (by omega))))))))
  · refine Exists.intro c (And.intro rfl (And.intro (And.intro i0 (And.intro j0 (And.intro (by omega) (by omega)))) (fun r5 g6 => ?_)))
    refine Exists.intro c (And.intro rfl (And.intro (And.intro (by omega) (by omega)) ?_))
    refine fun v7 e8 => ?_
    have w9 := wI_rng v7
    have w10 : wI v7 = v7 := wI_id (by omega)
    exact Exists.intro (((wI v7)) + 1 : Int).toNat (And.intro i0 (And.intro j0 (And.intro f0 (And.intro rfl (And.intro (by omega) (And.intro (by omega) (by omega)))))))
def sC_letKnotsGo : qS := fun as A K => as = [rf 0] ∧ (iva IC A ∧ ivf JC A ∧ (LW A) ∧ (KO A)) ∧ (∀ A' : qA, iva IC A' → ivf JC A' → frm [6, 7, 10, 8, 20, 23, 25, 26, 27, 28, 29, 30, 31, 32, 33, 35, 43, 78, 3, 2] [(24, 9), (24, 10), (36, 9), (71, 9), (1, 0)] A A' → ∀ r : Int, rng r → K (some (ni r)) A')
theorem okC_letKnotsGo : okM LC 7 132 sC_letKnotsGo := by
  refine qmeth [] true [(31, sC_firstOverloaded), (133, sC_tearDown)] 32 rfl ⟨okC_firstOverloaded.le (by decide), ⟨okC_tearDown.le (by decide), trivial⟩⟩ ?_
  rintro _ A K hA has ⟨rfl, ⟨i0, j0, p1, p2⟩, hK⟩
  have f0 := frm_0 [6, 7, 10, 8, 20, 23, 25, 26, 27, 28, 29, 30, 31, 32, 33, 35, 43, 78, 3, 2] [(24, 9), (24, 10), (36, 9), (71, 9), (1, 0)] A
  refine ⟨Nat.le_of_ble_eq_true rfl, [(4, [(0, 2, 0), (1, 0, 0), (2, 0, 0)], fun zs B nn => match zs with | [l1, k] => iva IC B ∧ ivf JC B ∧ frm [6, 7, 10, 8, 20, 23, 25, 26, 27, 28, 29, 30, 31, 32, 33, 35, 43, 78, 3, 2] [(24, 9), (24, 10), (36, 9), (71, 9), (1, 0)] A B ∧ nn = (48 - k : Int).toNat ∧ (0 ≤ k) ∧ (k ≤ 48) | _ => False)], ?_, ?_⟩
  · refine ⟨⟨rfl, ?_⟩, trivial⟩
    · refine fun l1 k B mm hB hz hI => ?_
      obtain ⟨i1, j1, f1, hm, c0, c1⟩ := hI
      obtain ⟨hz_l1, hz_k, _⟩ := hz
      refine And.intro (fun h3 => ?_) (fun h3 => ?_)
      · exact hK _ i1 j1 f1 _ (by first | exact wI_rng _ | omega | (exact (hA _ _).2 rfl))
      · refine And.intro rfl (And.intro (And.intro i1 j1) (fun r4 g5 g6 => ?_))
        refine And.intro (fun h7 => ?_) (fun h7 => ?_)
        · refine Exists.intro r4 (And.intro rfl (And.intro (And.intro i1 (And.intro j1 (And.intro (by omega) (And.intro (by omega) (And.intro (LW_fr p1 f1 rfl) (KO_fr p2 f1 rfl)))))) (fun A8 i9 j10 f11 r12 g13 => ?_)))
          have f14 := frm_c f1 f11 rfl
          refine fun v15 e16 => ?_
          refine fun v17 e18 => ?_
          have w19 := wI_rng v15
          have w20 := wI_rng v17
          have w21 : wI v17 = v17 := wI_id (by omega)
          exact Exists.intro (48 - ((wI v17)) : Int).toNat (And.intro (by omega) (And.intro i9 (And.intro j10 (And.intro f14 (And.intro rfl (And.intro (by omega) (by omega)))))))
        · exact hK _ i1 j1 f1 _ (by first | exact wI_rng _ | omega | (exact (hA _ _).2 rfl))
  · exact Exists.intro (48 - 0 : Int).toNat (And.intro i0 (And.intro j0 (And.intro f0 (And.intro rfl (And.intro (by omega) (by omega))))))
def sC_letKnotsAge : qS := fun as A K => as = [rf 0] ∧ (iva IC A ∧ ivf JC A ∧ (LW A) ∧ (KO A)) ∧ (∀ A' : qA, iva IC A' → ivf JC A' → frm [2, 35, 43, 78] [(36, 9), (71, 9)] A A' → K none A')
theorem okC_letKnotsAge : okM LC 6 131 sC_letKnotsAge := by
  refine qmeth [] true [(21, sC_hangs), (6, sC_ageing)] 36 rfl ⟨okC_hangs.le (by decide), ⟨okC_ageing.le (by decide), trivial⟩⟩ ?_
  rintro _ A K hA has ⟨rfl, ⟨i0, j0, p1, p2⟩, hK⟩
  have f0 := frm_0 [2, 35, 43, 78] [(36, 9), (71, 9)] A
  refine ⟨Nat.le_of_ble_eq_true rfl, [(2, [(0, 2, 0), (1, 0, 0)], fun zs B nn => match zs with | [k] => iva IC B ∧ ivf JC B ∧ frm [2, 35, 43, 78] [(36, 9), (71, 9)] A B ∧ nn = (48 - k : Int).toNat ∧ (0 ≤ k) ∧ (k ≤ 48) | _ => False)], ?_, ?_⟩
  · refine ⟨⟨rfl, ?_⟩, trivial⟩
    · refine fun k B mm hB hz hI => ?_
      obtain ⟨i1, j1, f1, hm, c0, c1⟩ := hI
      obtain ⟨hz_k, _⟩ := hz
      refine And.intro (fun h3 => ?_) (fun h3 => ?_)
      · exact hK _ i1 j1 f1
      · refine Exists.intro k (And.intro rfl (And.intro (fun h4 => ?_) (fun h4 => ?_)))
        · refine And.intro (fun h5 => by exfalso; omega) (fun h5 => ?_)
          refine And.intro (by omega) (fun v6 gv6 e7 => ?_)
          have b8 := iva_at i1 0 rfl (i := k) (by omega) (by omega)
          refine Exists.intro k (And.intro rfl (And.intro (And.intro i1 (And.intro j1 (And.intro (by omega) (And.intro (by omega) (And.intro (LW_fr p1 f1 rfl) (KO_fr p2 f1 rfl)))))) (fun A9 i10 j11 f12 r13 g14 g15 => ?_)))
          have f16 := frm_c f1 f12 rfl
          refine fun v17 e18 => ?_
          have w21 := wI_rng v17
          have w22 : wI v17 = v17 := wI_id (by omega)
          refine (fun v19 e20 => ?_)
          refine And.intro (by omega) (fun A23 e24 => ?_)
          have i25 := iva_st i10 e24 (And.intro (by omega) trivial)
          have j26 := ivf_sa j11 e24 rfl
          have f27 := frm_s f16 e24 rfl
          refine fun v28 e29 => ?_
          have w30 := wI_rng v28
          have w31 : wI v28 = v28 := wI_id (by omega)
          exact Exists.intro (48 - ((wI v28)) : Int).toNat (And.intro (by omega) (And.intro i25 (And.intro j26 (And.intro f27 (And.intro rfl (And.intro (by omega) (by omega)))))))
        · refine And.intro (fun h32 => ?_) (fun h32 => by exfalso; omega)
          refine fun v33 e34 => ?_
          have w35 := wI_rng v33
          have w36 : wI v33 = v33 := wI_id (by omega)
          exact Exists.intro (48 - ((wI v33)) : Int).toNat (And.intro (by omega) (And.intro i1 (And.intro j1 (And.intro f1 (And.intro rfl (And.intro (by omega) (by omega)))))))
  · exact Exists.intro (48 - 0 : Int).toNat (And.intro i0 (And.intro j0 (And.intro f0 (And.intro rfl (And.intro (by omega) (by omega))))))
def sC_letCropsFall : qS := fun as A K => as = [rf 0] ∧ (iva IC A ∧ ivf JC A ∧ (LW A) ∧ (KO A)) ∧ (∀ A' : qA, iva IC A' → ivf JC A' → frm [6, 7, 10, 8, 20, 23, 25, 26, 27, 28, 29, 30, 31, 32, 33, 35, 43, 78] [(24, 9), (24, 10), (36, 9), (71, 9), (0, 11)] A A' → K none A')
theorem okC_letCropsFall : okM LC 6 130 sC_letCropsFall := by
  refine qmeth [] false [(22, sC_hasCrop), (5, sC_odds), (134, sC_dropCrop)] 43 rfl ⟨okC_hasCrop.le (by decide), ⟨okC_odds.le (by decide), ⟨okC_dropCrop.le (by decide), trivial⟩⟩⟩ ?_
  rintro _ A K hA has ⟨rfl, ⟨i0, j0, p1, p2⟩, hK⟩
  have f0 := frm_0 [6, 7, 10, 8, 20, 23, 25, 26, 27, 28, 29, 30, 31, 32, 33, 35, 43, 78] [(24, 9), (24, 10), (36, 9), (71, 9), (0, 11)] A
  refine ⟨Nat.le_of_ble_eq_true rfl, [(2, [(0, 2, 0), (1, 0, 0)], fun zs B nn => match zs with | [k] => iva IC B ∧ ivf JC B ∧ frm [6, 7, 10, 8, 20, 23, 25, 26, 27, 28, 29, 30, 31, 32, 33, 35, 43, 78] [(24, 9), (24, 10), (36, 9), (71, 9), (0, 11)] A B ∧ nn = (48 - k : Int).toNat ∧ (0 ≤ k) ∧ (k ≤ 48) | _ => False)], ?_, ?_⟩
  · refine ⟨⟨rfl, ?_⟩, trivial⟩
    · refine fun k B mm hB hz hI => ?_
      obtain ⟨i1, j1, f1, hm, c0, c1⟩ := hI
      obtain ⟨hz_k, _⟩ := hz
      refine And.intro (fun h3 => ?_) (fun h3 => ?_)
      · exact hK _ i1 j1 f1
      · refine Exists.intro k (And.intro rfl (And.intro (fun h4 => ?_) (fun h4 => ?_)))
        · obtain ⟨v5, e6⟩ : ∃ v, v = B 6 k := ⟨_, rfl⟩
          refine And.intro (fun h7 => by exfalso; omega) (fun h7 => ?_)
          refine fun v8 gv8 e9 => ?_
          have b10 := ivf_at j1 7 rfl
          refine fun v11 e12 => ?_
          refine fun v13 e14 => ?_
          have k15 : qn 65535 = 65535 := by decide
          refine fun v16 e17 => ?_
          have h18 := ia_bd (a := v13) (b := (qn 65535)) (by omega) (by omega)
          refine fun A19 e20 => ?_
          have i21 := iva_sf i1 e20 rfl
          have j22 := ivf_st j1 e20 (And.intro (by omega) trivial)
          have f23 := frm_sf f1 e20 rfl
          refine fun v24 gv24 e25 => ?_
          have b26 := ivf_at j22 7 rfl
          have q27 : v16 = v24 := (e25.trans (st_v e20)).symm
          subst q27
          refine And.intro (by omega) (fun v28 e29 => ?_)
          have h30 := qm_nn (a := v16) (b := 1000) (by omega)
          refine Exists.intro k (And.intro rfl (And.intro (And.intro i21 (And.intro j22 (And.intro (by omega) (And.intro (by omega) (And.intro (LW_fr p1 f23 rfl) (KO_fr p2 f23 rfl)))))) (fun A31 i32 j33 f34 r35 g36 g37 => ?_)))
          have f38 := frm_c f23 f34 rfl
          refine And.intro (fun h39 => ?_) (fun h39 => ?_)
          · refine fun v40 e41 => ?_
            exact And.intro (by omega) (Exists.intro (48 - v40 : Int).toNat (And.intro (by omega) (And.intro i32 (And.intro j33 (And.intro f38 (And.intro rfl (And.intro (by omega) (by omega))))))))
          · obtain ⟨v42, e43⟩ : ∃ v, v = A31 6 k := ⟨_, rfl⟩
            have b44 := iva_at i32 2 rfl (i := k) (by omega) (by omega)
            have q45 : v5 = v42 := (e43.trans ((congrFun (Eq.trans (frm_a f34 rfl) (st_a e20 rfl)) _).trans e6.symm)).symm
            subst q45
            refine Exists.intro k (Exists.intro 1 (And.intro rfl (And.intro (And.intro i32 (And.intro j33 (And.intro (by omega) (And.intro (by omega) (And.intro (by omega) (And.intro (by omega) (And.intro (by rw [← e43]; omega) (And.intro (LW_fr p1 f38 rfl) (KO_fr p2 f38 rfl))))))))) (fun A46 i47 j48 f49 r50 g51 g52 => ?_))))
            have f53 := frm_c f38 f49 rfl
            refine fun v54 e55 => ?_
            exact And.intro (by omega) (Exists.intro (48 - v54 : Int).toNat (And.intro (by omega) (And.intro i47 (And.intro j48 (And.intro f53 (And.intro rfl (And.intro (by omega) (by omega))))))))
        · refine And.intro (fun h56 => ?_) (fun h56 => by exfalso; omega)
          refine fun v57 e58 => ?_
          exact And.intro (by omega) (Exists.intro (48 - v57 : Int).toNat (And.intro (by omega) (And.intro i1 (And.intro j1 (And.intro f1 (And.intro rfl (And.intro (by omega) (by omega))))))))
  · exact Exists.intro (48 - 0 : Int).toNat (And.intro i0 (And.intro j0 (And.intro f0 (And.intro rfl (And.intro (by omega) (by omega))))))
def sC_letCropsGrow : qS := fun as A K => as = [rf 0] ∧ (iva IC A ∧ ivf JC A ∧ (LW A) ∧ (KO A)) ∧ (∀ A' : qA, iva IC A' → ivf JC A' → frm [7, 35, 43, 78] [(36, 9), (71, 9)] A A' → K none A')
theorem okC_letCropsGrow : okM LC 6 129 sC_letCropsGrow := by
  refine qmeth [] false [(22, sC_hasCrop), (4, sC_growth)] 41 rfl ⟨okC_hasCrop.le (by decide), ⟨okC_growth.le (by decide), trivial⟩⟩ ?_
  rintro _ A K hA has ⟨rfl, ⟨i0, j0, p1, p2⟩, hK⟩
  have f0 := frm_0 [7, 35, 43, 78] [(36, 9), (71, 9)] A
  refine ⟨Nat.le_of_ble_eq_true rfl, [(2, [(0, 2, 0), (1, 0, 0)], fun zs B nn => match zs with | [k] => iva IC B ∧ ivf JC B ∧ frm [7, 35, 43, 78] [(36, 9), (71, 9)] A B ∧ nn = (48 - k : Int).toNat ∧ (0 ≤ k) ∧ (k ≤ 48) | _ => False)], ?_, ?_⟩
  · refine ⟨⟨rfl, ?_⟩, trivial⟩
    · refine fun k B mm hB hz hI => ?_
      obtain ⟨i1, j1, f1, hm, c0, c1⟩ := hI
      obtain ⟨hz_k, _⟩ := hz
      refine And.intro (fun h3 => ?_) (fun h3 => ?_)
      · exact hK _ i1 j1 f1
      · refine Exists.intro k (And.intro rfl (And.intro (fun h4 => ?_) (fun h4 => ?_)))
        · obtain ⟨v5, e6⟩ : ∃ v, v = B 6 k := ⟨_, rfl⟩
          refine And.intro (fun h7 => by exfalso; omega) (fun h7 => ?_)
          refine And.intro (by omega) (fun v8 gv8 e9 => ?_)
          have b10 := iva_at i1 3 rfl (i := k) (by omega) (by omega)
          refine And.intro (by omega) (fun v11 gv11 e12 => ?_)
          have b13 := iva_at i1 4 rfl (i := k) (by omega) (by omega)
          refine Exists.intro k (Exists.intro v11 (And.intro rfl (And.intro (And.intro i1 (And.intro j1 (And.intro (by omega) (And.intro (by omega) (And.intro (LW_fr p1 f1 rfl) (KO_fr p2 f1 rfl)))))) (fun A14 i15 j16 f17 r18 g19 g20 => ?_))))
          have f21 := frm_c f1 f17 rfl
          refine fun v22 e23 => ?_
          refine And.intro (by omega) ((fun v24 e25 => ?_))
          refine And.intro (by omega) (fun A26 e27 => ?_)
          have i28 := iva_st i15 e27 (And.intro (by omega) trivial)
          have j29 := ivf_sa j16 e27 rfl
          have f30 := frm_s f21 e27 rfl
          refine fun v31 e32 => ?_
          exact And.intro (by omega) (Exists.intro (48 - v31 : Int).toNat (And.intro (by omega) (And.intro i28 (And.intro j29 (And.intro f30 (And.intro rfl (And.intro (by omega) (by omega))))))))
        · refine And.intro (fun h33 => ?_) (fun h33 => by exfalso; omega)
          refine fun v34 e35 => ?_
          exact And.intro (by omega) (Exists.intro (48 - v34 : Int).toNat (And.intro (by omega) (And.intro i1 (And.intro j1 (And.intro f1 (And.intro rfl (And.intro (by omega) (by omega))))))))
  · exact Exists.intro (48 - 0 : Int).toNat (And.intro i0 (And.intro j0 (And.intro f0 (And.intro rfl (And.intro (by omega) (by omega))))))
def sC_letWaterFlow : qS := fun as A K => as = [rf 0] ∧ (iva IC A ∧ ivf JC A) ∧ (∀ A' : qA, iva IC A' → ivf JC A' → frm [45, 46, 9, 19] [] A A' → ∀ r : Int, rng r → K (some (ni r)) A')
theorem okC_letWaterFlow : okM LC 5 128 sC_letWaterFlow := by
  refine qmeth [] true [(87, sC_pourA)] 47 rfl ⟨okC_pourA.le (by decide), trivial⟩ ?_
  rintro _ A K hA has ⟨rfl, ⟨i0, j0⟩, hK⟩
  have f0 := frm_0 [45, 46, 9, 19] [] A
  refine ⟨Nat.le_of_ble_eq_true rfl, [(13, [(0, 2, 0), (1, 0, 0), (2, 0, 0)], fun zs B nn => match zs with | [s, k] => iva IC B ∧ ivf JC B ∧ frm [45, 46, 9, 19] [] A B ∧ nn = (8 - k : Int).toNat ∧ (0 ≤ k) ∧ (k ≤ 8) | _ => False)], ?_, ?_⟩
  · refine ⟨⟨rfl, ?_⟩, trivial⟩
    · refine fun s k B mm hB hz hI => ?_
      obtain ⟨i1, j1, f1, hm, c0, c1⟩ := hI
      obtain ⟨hz_s, hz_k, _⟩ := hz
      refine And.intro (fun h6 => ?_) (fun h6 => ?_)
      · exact hK _ i1 j1 f1 _ (by first | exact wI_rng _ | omega | (exact (hA _ _).2 rfl))
      · refine And.intro (by omega) (fun v7 gv7 e8 => ?_)
        refine And.intro (by omega) (fun v9 gv9 e10 => ?_)
        refine fun v11 e12 => ?_
        have w15 := wI_rng v11
        refine And.intro (by omega) (fun A13 e14 => ?_)
        have i16 := iva_st i1 e14 trivial
        have j17 := ivf_sa j1 e14 rfl
        have f18 := frm_s f1 e14 rfl
        refine And.intro (by omega) (fun v19 gv19 e20 => ?_)
        have q21 : v9 = v19 := (e20.trans ((congrFun (st_a e14 rfl) _).trans e10.symm)).symm
        subst q21
        refine fun v22 e23 => ?_
        refine fun v24 e25 => ?_
        have w26 := wI_rng v22
        have w27 := wI_rng v24
        have w28 : wI v24 = v24 := wI_id (by omega)
        exact Exists.intro (8 - ((wI v24)) : Int).toNat (And.intro (by omega) (And.intro i16 (And.intro j17 (And.intro f18 (And.intro rfl (And.intro (by omega) (by omega)))))))
  · refine And.intro rfl (And.intro (And.intro i0 j0) (fun A1 i2 j3 f4 => ?_))
    have f5 := frm_c f0 f4 rfl
    exact Exists.intro (8 - 0 : Int).toNat (And.intro i2 (And.intro j3 (And.intro f5 (And.intro rfl (And.intro (by omega) (by omega))))))
def sC_claimantOf : qS := fun as A K => ∃ i p : Int, as = [rf 0, ni i, ni p] ∧ (iva IC A ∧ ivf JC A ∧ 0 ≤ i ∧ i ≤ 60 ∧ (LW A) ∧ (KO A)) ∧ (∀ A' : qA, iva IC A' → ivf JC A' → frm [35, 43, 78] [(36, 9), (71, 9)] A A' → ∀ r : Int, (-2) ≤ r → r ≤ 7 → K (some (ni r)) A')
theorem okC_claimantOf : okM LC 5 136 sC_claimantOf := by
  refine qmeth [] false [(9, sC_pointsOf)] 38 rfl ⟨okC_pointsOf.le (by decide), trivial⟩ ?_
  rintro _ A K hA has ⟨i, p, rfl, ⟨i0, j0, p1, p2, p3, p4⟩, hK⟩
  have rg_i : rng i := has (ni i) (by simp)
  have rg_p : rng p := has (ni p) (by simp)
  have f0 := frm_0 [35, 43, 78] [(36, 9), (71, 9)] A
  refine ⟨Nat.le_of_ble_eq_true rfl, [(6, [(0, 2, 0), (1, 0, 0), (2, 0, 0), (3, 0, 0), (4, 0, 0), (5, 0, 0)], fun zs B nn => match zs with | [l1, l2, b, w, k] => iva IC B ∧ ivf JC B ∧ frm [35, 43, 78] [(36, 9), (71, 9)] A B ∧ nn = (8 - k : Int).toNat ∧ (l1 = i) ∧ (l2 = p) ∧ (0 ≤ k) ∧ (k ≤ 8) ∧ (0 ≤ b) ∧ (b ≤ 1000) ∧ ((-2) ≤ w) ∧ (w ≤ 7) | _ => False)], ?_, ?_⟩
  · refine ⟨⟨rfl, ?_⟩, trivial⟩
    · refine fun l1 l2 b w k B mm hB hz hI => ?_
      obtain ⟨i1, j1, f1, hm, c0, c1, c2, c3, c4, c5, c6, c7⟩ := hI
      obtain ⟨hz_l1, hz_l2, hz_b, hz_w, hz_k, _⟩ := hz
      refine And.intro (fun h5 => ?_) (fun h5 => ?_)
      · exact hK _ i1 j1 f1 _ (by omega) (by omega)
      · refine fun v6 e7 => ?_
        refine fun v8 e9 => ?_
        have h10 := ia_bd (a := v6) (b := 1) (by omega) (by omega)
        refine And.intro (fun h11 => ?_) (fun h11 => ?_)
        · refine fun v12 e13 => ?_
          exact And.intro (by omega) (Exists.intro (8 - v12 : Int).toNat (And.intro (by omega) (And.intro i1 (And.intro j1 (And.intro f1 (And.intro rfl (And.intro (by omega) (And.intro (by omega) (And.intro (by omega) (And.intro (by omega) (And.intro (by omega) (And.intro (by omega) (And.intro (by omega) (by omega))))))))))))))
        · refine Exists.intro l1 (Exists.intro k (And.intro rfl (And.intro (And.intro i1 (And.intro j1 (And.intro (by omega) (And.intro (by omega) (And.intro (by omega) (And.intro (by omega) (And.intro (LW_fr p3 f1 rfl) (KO_fr p4 f1 rfl)))))))) (fun A14 i15 j16 f17 r18 g19 g20 => ?_))))
          have f21 := frm_c f1 f17 rfl
          refine And.intro (fun h22 => ?_) (fun h22 => ?_)
          · refine fun v23 e24 => ?_
            exact And.intro (by omega) (Exists.intro (8 - v23 : Int).toNat (And.intro (by omega) (And.intro i15 (And.intro j16 (And.intro f21 (And.intro rfl (And.intro (by omega) (And.intro (by omega) (And.intro (by omega) (And.intro (by omega) (And.intro (by omega) (And.intro (by omega) (And.intro (by omega) (by omega))))))))))))))
          · refine fun v25 e26 => ?_
            exact And.intro (by omega) (Exists.intro (8 - v25 : Int).toNat (And.intro (by omega) (And.intro i15 (And.intro j16 (And.intro f21 (And.intro rfl (And.intro (by omega) (And.intro (by omega) (And.intro (by omega) (And.intro (by omega) (And.intro (by omega) (And.intro (by omega) (And.intro (by omega) (by omega))))))))))))))
  · exact Exists.intro (8 - 0 : Int).toNat (And.intro i0 (And.intro j0 (And.intro f0 (And.intro rfl (And.intro (by omega) (And.intro (by omega) (And.intro (by omega) (And.intro (by omega) (And.intro (by omega) (And.intro (by omega) (And.intro (by omega) (by omega))))))))))))
def sC_countOfRow : qS := fun as A K => ∃ w : Int, as = [rf 0, ni w] ∧ (iva IC A ∧ ivf JC A) ∧ (∀ r : Int, rng r → K (some (ni r)) A)
theorem okC_countOfRow : okM LC 1 127 sC_countOfRow := by
  refine qmeth [] false [] 63 rfl trivial ?_
  rintro _ A K hA has ⟨w, rfl, ⟨i0, j0⟩, hK⟩
  have rg_w : rng w := has (ni w) (by simp)
  have f0 := frm_0 [] [] A
  refine ⟨Nat.le_of_ble_eq_true rfl, [], trivial, ?_⟩
  refine And.intro (fun h1 => ?_) (fun h1 => ?_)
  · refine And.intro (fun h2 => ?_) (fun h2 => by exfalso; omega)
    exact hK _ (by first | exact wI_rng _ | omega | (exact (hA _ _).2 rfl))
  · refine And.intro (fun h3 => ?_) (fun h3 => ?_)
    · refine And.intro (fun h4 => ?_) (fun h4 => ?_)
      · exact hK _ (by first | exact wI_rng _ | omega | (exact (hA _ _).2 rfl))
      · refine And.intro (fun h5 => ?_) (fun h5 => ?_)
        · refine fun v6 e7 => ?_
          refine And.intro (by omega) (And.intro (by omega) (fun v8 e9 => ?_))
          have h10 := qd_nn (a := v6) (b := 3) (by omega)
          refine fun v11 e12 => ?_
          refine And.intro (by omega) (And.intro (by omega) (fun v13 e14 => ?_))
          have h15 := qm_nn (a := v11) (b := 3) (by omega)
          refine And.intro (fun h16 => ?_) (fun h16 => ?_)
          · refine And.intro (fun h17 => ?_) (fun h17 => ?_)
            · refine And.intro (by omega) (fun v18 gv18 e19 => ?_)
              have b20 := iva_at i0 10 rfl (i := v8) (by omega) (by omega)
              exact hK _ (by first | exact wI_rng _ | omega | (exact (hA _ _).2 rfl))
            · refine And.intro (by omega) (fun v21 gv21 e22 => ?_)
              have b23 := iva_at i0 9 rfl (i := v8) (by omega) (by omega)
              exact hK _ (by first | exact wI_rng _ | omega | (exact (hA _ _).2 rfl))
          · refine And.intro (by omega) (fun v24 gv24 e25 => ?_)
            have b26 := iva_at i0 8 rfl (i := v8) (by omega) (by omega)
            exact hK _ (by first | exact wI_rng _ | omega | (exact (hA _ _).2 rfl))
        · exact hK _ (by first | exact wI_rng _ | omega | (exact (hA _ _).2 rfl))
    · refine fun v27 e28 => ?_
      refine And.intro (by omega) (fun v29 gv29 e30 => ?_)
      have b31 := iva_at i0 12 rfl (i := v27) (by omega) (by omega)
      exact hK _ (by first | exact wI_rng _ | omega | (exact (hA _ _).2 rfl))
