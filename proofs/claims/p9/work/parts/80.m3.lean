def sM_catcher : qS := fun as A K => ∃ c : Int, as = [rf 0, ni c] ∧ (iva IM A ∧ ivf JM A ∧ 0 ≤ c ∧ c ≤ 47 ∧ (0 ≤ A 7 c ∧ A 7 c ≤ 5) ∧ (WF A)) ∧ (∀ A' : qA, iva IM A' → ivf JM A' → frm [34, 35] [] A A' → ∀ r : Int, (-1) ≤ r → r ≤ 47 → K (some (ni r)) A')
theorem okM_catcher : okM LM 5 200 sM_catcher := by
  refine qmeth [] false [(187, sM_feelsCell), (189, sM_isRipe), (188, sM_feelsCrop), (186, sM_told)] 60 rfl ⟨okM_feelsCell.le (by decide), ⟨okM_isRipe.le (by decide), ⟨okM_feelsCrop.le (by decide), ⟨okM_told.le (by decide), trivial⟩⟩⟩⟩ ?_
  rintro _ A K hA has ⟨c, rfl, ⟨i0, j0, p1, p2, p3, p4⟩, hK⟩
  have rg_c : rng c := has (ni c) (by simp)
  have f0 := frm_0 [34, 35] [] A
  obtain ⟨v5, e6⟩ : ∃ v, v = A 7 c := ⟨_, rfl⟩
  rw [← e6] at p3
  refine ⟨Nat.le_of_ble_eq_true rfl, [(4, [(0, 2, 0), (1, 0, 0), (2, 0, 0)], fun zs B nn => match zs with | [l1, k] => iva IM B ∧ ivf JM B ∧ frm [34, 35] [] A B ∧ nn = (48 - k : Int).toNat ∧ (l1 = c) ∧ (0 ≤ l1) ∧ (l1 ≤ 47) ∧ (0 ≤ k) ∧ (k ≤ 48) | _ => False)], ?_, ?_⟩
  · refine ⟨⟨rfl, ?_⟩, trivial⟩
    · refine fun l1 k B mm hB hz hI => ?_
      obtain ⟨i1, j1, f1, hm, c0, c1, c2, c3, c4⟩ := hI
      obtain ⟨hz_l1, hz_k, _⟩ := hz
      refine And.intro (by omega) (fun v9 e10 => ?_)
      have h11 := qd_nn (a := l1) (b := 6) (by omega)
      refine fun v12 e13 => ?_
      refine fun v14 e15 => ?_
      refine And.intro (by omega) (And.intro (fun h16 => ?_) (fun h16 => ?_))
      · exact hK _ i1 j1 f1 _ (by omega) (by omega)
      · refine And.intro (by omega) (fun v17 gv17 e18 => ?_)
        have b19 := iva_at i1 0 rfl (i := k) (by omega) (by omega)
        refine And.intro (fun h20 => ?_) (fun h20 => ?_)
        · refine fun v21 e22 => ?_
          refine And.intro (by omega) (Exists.intro k (Exists.intro v21 (Exists.intro 0 (And.intro rfl (And.intro (And.intro i1 (And.intro j1 (And.intro (by omega) (by omega)))) (fun A23 i24 j25 f26 => ?_))))))
          have f27 := frm_c f1 f26 rfl
          refine And.intro (by omega) (fun v28 gv28 e29 => ?_)
          have b30 := iva_at i24 2 rfl (i := l1) (by omega) (by omega)
          refine And.intro (by omega) (fun v31 gv31 e32 => ?_)
          refine Exists.intro l1 (And.intro rfl (And.intro (And.intro i24 (And.intro j25 (And.intro (by omega) (by omega)))) (fun r33 g34 g35 => ?_)))
          refine And.intro (by omega) (fun v36 gv36 e37 => ?_)
          have b38 := iva_at i24 1 rfl (i := l1) (by omega) (by omega)
          refine Exists.intro v28 (Exists.intro v31 (Exists.intro r33 (Exists.intro v36 (And.intro rfl (And.intro (And.intro i24 (And.intro j25 (And.intro (by omega) (And.intro (by omega) (And.intro (by omega) (by omega)))))) (fun A39 i40 j41 f42 => ?_))))))
          have f43 := frm_c f27 f42 rfl
          refine Exists.intro 99 (Exists.intro 1 (And.intro rfl (And.intro (And.intro i40 (And.intro j41 (And.intro (by omega) (And.intro (by omega) (WF_fr p4 f43 rfl))))) (fun A44 i45 j46 f47 r48 g50 g51 g49 => ?_))))
          have f52 := frm_c f43 f47 rfl
          refine And.intro (fun h53 => ?_) (fun h53 => ?_)
          · refine fun v54 e55 => ?_
            exact And.intro (by omega) (Exists.intro (48 - v54 : Int).toNat (And.intro (by omega) (And.intro i45 (And.intro j46 (And.intro f52 (And.intro rfl (And.intro (by omega) (And.intro (by omega) (And.intro (by omega) (And.intro (by omega) (by omega)))))))))))
          · exact hK _ i45 j46 f52 _ (by omega) (by omega)
        · refine fun v56 e57 => ?_
          exact And.intro (by omega) (Exists.intro (48 - v56 : Int).toNat (And.intro (by omega) (And.intro i1 (And.intro j1 (And.intro f1 (And.intro rfl (And.intro (by omega) (And.intro (by omega) (And.intro (by omega) (And.intro (by omega) (by omega)))))))))))
  · refine fun v7 e8 => ?_
    exact And.intro (by omega) (Exists.intro (48 - v7 : Int).toNat (And.intro i0 (And.intro j0 (And.intro f0 (And.intro rfl (And.intro (by omega) (And.intro (by omega) (And.intro (by omega) (And.intro (by omega) (by omega))))))))))
def sM_writes : qS := fun as A K => ∃ c l w f : Int, as = [rf 0, ni c, ni l, ni w, ni f] ∧ (iva IM A ∧ ivf JM A ∧ 0 ≤ c ∧ c ≤ 47 ∧ 0 ≤ l ∧ l ≤ 6 ∧ (-1) ≤ w ∧ w ≤ 7) ∧ (∀ A' : qA, iva IM A' → ivf JM A' → frm [38, 39, 40, 41, 42, 43, 44, 45, 46] [(0, 2)] A A' → K none A')
theorem okM_writes : okM LM 2 201 sM_writes := by
  refine qmeth [] false [(189, sM_isRipe)] 84 rfl ⟨okM_isRipe.le (by decide), trivial⟩ ?_
  rintro _ A K hA has ⟨c, l, w, f, rfl, ⟨i0, j0, p1, p2, p3, p4, p5, p6⟩, hK⟩
  have rg_c : rng c := has (ni c) (by simp)
  have rg_l : rng l := has (ni l) (by simp)
  have rg_w : rng w := has (ni w) (by simp)
  have rg_f : rng f := has (ni f) (by simp)
  have f0 := frm_0 [38, 39, 40, 41, 42, 43, 44, 45, 46] [(0, 2)] A
  refine ⟨Nat.le_of_ble_eq_true rfl, [], trivial, ?_⟩
  refine fun v7 gv7 e8 => ?_
  have b9 := ivf_at j0 0 rfl
  refine And.intro (fun h10 => ?_) (fun h10 => ?_)
  · refine fun v11 gv11 e12 => ?_
    have b13 := ivf_at j0 0 rfl
    have q14 : v7 = v11 := (e12.trans e8.symm).symm
    subst q14
    refine And.intro (by omega) (fun A15 e16 => ?_)
    have i17 := iva_st i0 e16 (And.intro (by omega) trivial)
    have j18 := ivf_sa j0 e16 rfl
    have f19 := frm_s f0 e16 rfl
    refine fun v20 gv20 e21 => ?_
    have b22 := ivf_at j18 0 rfl
    have q23 : v7 = v20 := (e21.trans ((congrFun (st_a e16 rfl) _).trans e12.symm)).symm
    subst q23
    refine And.intro (by omega) (fun v24 gv24 e25 => ?_)
    have b26 := iva_at i17 2 rfl (i := c) (by omega) (by omega)
    refine And.intro (by omega) (fun A27 e28 => ?_)
    have i29 := iva_st i17 e28 (And.intro (by omega) trivial)
    have j30 := ivf_sa j18 e28 rfl
    have f31 := frm_s f19 e28 rfl
    refine fun v32 gv32 e33 => ?_
    have b34 := ivf_at j30 0 rfl
    have q35 : v7 = v32 := (e33.trans ((congrFun (st_a e28 rfl) _).trans e21.symm)).symm
    subst q35
    refine And.intro (by omega) (fun v36 gv36 e37 => ?_)
    refine And.intro (by omega) (fun A38 e39 => ?_)
    have i40 := iva_st i29 e39 trivial
    have j41 := ivf_sa j30 e39 rfl
    have f42 := frm_s f31 e39 rfl
    refine fun v43 gv43 e44 => ?_
    have b45 := ivf_at j41 0 rfl
    have q46 : v7 = v43 := (e44.trans ((congrFun (st_a e39 rfl) _).trans e33.symm)).symm
    subst q46
    refine And.intro (by omega) (fun A47 e48 => ?_)
    have i49 := iva_st i40 e48 (And.intro (by omega) trivial)
    have j50 := ivf_sa j41 e48 rfl
    have f51 := frm_s f42 e48 rfl
    refine fun v52 gv52 e53 => ?_
    have b54 := ivf_at j50 0 rfl
    have q55 : v7 = v52 := (e53.trans ((congrFun (st_a e48 rfl) _).trans e44.symm)).symm
    subst q55
    refine And.intro (by omega) (fun A56 e57 => ?_)
    have i58 := iva_st i49 e57 (And.intro (by omega) trivial)
    have j59 := ivf_sa j50 e57 rfl
    have f60 := frm_s f51 e57 rfl
    refine fun v61 gv61 e62 => ?_
    have b63 := ivf_at j59 0 rfl
    have q64 : v7 = v61 := (e62.trans ((congrFun (st_a e57 rfl) _).trans e53.symm)).symm
    subst q64
    refine fun v65 gv65 e66 => ?_
    refine And.intro (by omega) (fun A67 e68 => ?_)
    have i69 := iva_st i58 e68 trivial
    have j70 := ivf_sa j59 e68 rfl
    have f71 := frm_s f60 e68 rfl
    refine fun v72 gv72 e73 => ?_
    have b74 := ivf_at j70 0 rfl
    have q75 : v7 = v72 := (e73.trans ((congrFun (st_a e68 rfl) _).trans e62.symm)).symm
    subst q75
    refine And.intro (by omega) (fun A76 e77 => ?_)
    have i78 := iva_st i69 e77 trivial
    have j79 := ivf_sa j70 e77 rfl
    have f80 := frm_s f71 e77 rfl
    refine fun v81 gv81 e82 => ?_
    have b83 := ivf_at j79 0 rfl
    have q84 : v7 = v81 := (e82.trans ((congrFun (st_a e77 rfl) _).trans e73.symm)).symm
    subst q84
    refine Exists.intro c (And.intro rfl (And.intro (And.intro i78 (And.intro j79 (And.intro (by omega) (by omega)))) (fun r85 g86 g87 => ?_)))
    refine And.intro (by omega) (And.intro (by omega) (fun A88 e89 => ?_))
    have i90 := iva_st i78 e89 (And.intro (by omega) trivial)
    have j91 := ivf_sa j79 e89 rfl
    have f92 := frm_s f80 e89 rfl
    refine fun v93 gv93 e94 => ?_
    have b95 := ivf_at j91 0 rfl
    have q96 : v7 = v93 := (e94.trans ((congrFun (st_a e89 rfl) _).trans e82.symm)).symm
    subst q96
    refine And.intro (by omega) (fun v97 gv97 e98 => ?_)
    have b99 := iva_at i90 1 rfl (i := c) (by omega) (by omega)
    refine And.intro (by omega) (And.intro (by omega) (fun A100 e101 => ?_))
    have i102 := iva_st i90 e101 (And.intro (by omega) trivial)
    have j103 := ivf_sa j91 e101 rfl
    have f104 := frm_s f92 e101 rfl
    refine fun v105 gv105 e106 => ?_
    have b107 := ivf_at j103 0 rfl
    have q108 : v7 = v105 := (e106.trans ((congrFun (st_a e101 rfl) _).trans e94.symm)).symm
    subst q108
    refine fun v109 e110 => ?_
    refine And.intro (by omega) (fun A111 e112 => ?_)
    have i113 := iva_sf i102 e112 rfl
    have j114 := ivf_st j103 e112 (And.intro (by omega) trivial)
    have f115 := frm_sf f104 e112 rfl
    exact hK _ i113 j114 f115
  · exact hK _ i0 j0 f0
def sM_falls : qS := fun as A K => ∃ c b : Int, as = [rf 0, ni c, ni b] ∧ (iva IM A ∧ ivf JM A ∧ 0 ≤ c ∧ c ≤ 47 ∧ 0 ≤ b ∧ b ≤ 1 ∧ (0 ≤ A 7 c ∧ A 7 c ≤ 5) ∧ (WF A)) ∧ (∀ A' : qA, iva IM A' → ivf JM A' → frm [34, 35, 9, 19, 18, 7, 8, 2, 38, 39, 40, 41, 42, 43, 44, 45, 46] [(0, 2), (0, 3)] A A' → ∀ r : Int, 0 ≤ r → r ≤ 6 → K (some (ni r)) A')
theorem okM_falls : okM LM 6 202 sM_falls := by
  refine qmeth [] true [(190, sM_feels), (186, sM_told), (201, sM_writes), (152, sM_empties), (200, sM_catcher)] 131 rfl ⟨okM_feels.le (by decide), ⟨okM_told.le (by decide), ⟨okM_writes.le (by decide), ⟨okM_empties.le (by decide), ⟨okM_catcher.le (by decide), trivial⟩⟩⟩⟩⟩ ?_
  rintro _ A K hA has ⟨c, b, rfl, ⟨i0, j0, p1, p2, p3, p4, p5, p6⟩, hK⟩
  have rg_c : rng c := has (ni c) (by simp)
  have rg_b : rng b := has (ni b) (by simp)
  have f0 := frm_0 [34, 35, 9, 19, 18, 7, 8, 2, 38, 39, 40, 41, 42, 43, 44, 45, 46] [(0, 2), (0, 3)] A
  obtain ⟨v7, e8⟩ : ∃ v, v = A 7 c := ⟨_, rfl⟩
  rw [← e8] at p5
  refine ⟨Nat.le_of_ble_eq_true rfl, [], trivial, ?_⟩
  refine fun v9 gv9 e10 => ?_
  refine fun v11 e12 => ?_
  have w15 := wI_rng v11
  refine fun A13 e14 => ?_
  have i16 := iva_sf i0 e14 rfl
  have j17 := ivf_st j0 e14 trivial
  have f18 := frm_sf f0 e14 rfl
  refine And.intro (fun h19 => ?_) (fun h19 => ?_)
  · refine And.intro (fun h20 => ?_) (fun h20 => by exfalso; omega)
    refine And.intro (by omega) (fun v21 e22 => ?_)
    have h23 := qm_nn (a := c) (b := 6) (by omega)
    refine fun v24 e25 => ?_
    refine Exists.intro c (And.intro rfl (And.intro (And.intro i16 (And.intro j17 (And.intro (by omega) (by omega)))) (fun A26 i27 j28 f29 => ?_)))
    have f30 := frm_c f18 f29 rfl
    have w33 := wI_rng v24
    have w34 : wI v24 = v24 := wI_id (by omega)
    refine And.intro (by omega) (fun A31 e32 => ?_)
    have i35 := iva_st i27 e32 trivial
    have j36 := ivf_sa j28 e32 rfl
    have f37 := frm_s f30 e32 rfl
    refine Exists.intro 111 (Exists.intro 7 (And.intro rfl (And.intro (And.intro i35 (And.intro j36 (And.intro (by omega) (And.intro (by omega) (WF_fr p6 f37 rfl))))) (fun A38 i39 j40 f41 r42 g44 g45 g43 => ?_))))
    have f46 := frm_c f37 f41 rfl
    refine And.intro (by omega) (fun v47 gv47 e48 => ?_)
    refine And.intro (by omega) (fun v49 gv49 e50 => ?_)
    have b51 := iva_at i39 2 rfl (i := c) (by omega) (by omega)
    have q52 : v7 = v49 := (e50.trans ((congrFun (Eq.trans (Eq.trans (Eq.trans (frm_a f41 rfl) (st_a e32 rfl)) (frm_a f29 rfl)) (st_a e14 rfl)) _).trans e8.symm)).symm
    subst q52
    refine And.intro (by omega) (fun v53 gv53 e54 => ?_)
    have b55 := iva_at i39 5 rfl (i := v7) (by omega) (by omega)
    refine fun v56 e57 => ?_
    refine And.intro (by omega) (fun v58 gv58 e59 => ?_)
    refine fun v60 e61 => ?_
    have w64 := wI_rng v60
    refine And.intro (by omega) (fun A62 e63 => ?_)
    have i65 := iva_st i39 e63 trivial
    have j66 := ivf_sa j40 e63 rfl
    have f67 := frm_s f46 e63 rfl
    refine And.intro (by omega) (fun v68 gv68 e69 => ?_)
    have q70 : v47 = v68 := (e69.trans ((congrFun (st_a e63 rfl) _).trans e48.symm)).symm
    subst q70
    refine fun v71 e72 => ?_
    refine And.intro (by omega) (fun v73 e74 => ?_)
    have h75 := qd_nn (a := c) (b := 6) (by omega)
    refine And.intro (by omega) (fun v76 gv76 e77 => ?_)
    have b78 := iva_at i65 7 rfl (i := v73) (by omega) (by omega)
    have w80 := wI_rng v71
    refine And.intro (fun h79 => ?_) (fun h79 => ?_)
    · have w81 := wI_rng v56
      refine Exists.intro c (Exists.intro 6 (Exists.intro r42 (Exists.intro (wI v56) (And.intro rfl (And.intro (And.intro i65 (And.intro j66 (And.intro (by omega) (And.intro (by omega) (And.intro (by omega) (And.intro (by omega) (And.intro (by omega) (by omega)))))))) (fun A82 i83 j84 f85 => ?_))))))
      have f86 := frm_c f67 f85 rfl
      refine Exists.intro c (And.intro rfl (And.intro (And.intro i83 (And.intro j84 (And.intro (by omega) (by omega)))) (fun A87 i88 j89 f90 => ?_)))
      have f91 := frm_c f86 f90 rfl
      exact hK _ i88 j89 f91 _ (by omega) (by omega)
    · refine And.intro (by omega) (fun v92 e93 => ?_)
      have h94 := qd_nn (a := c) (b := 6) (by omega)
      refine And.intro (by omega) (fun v95 e96 => ?_)
      have h97 := qd_nn (a := c) (b := 6) (by omega)
      refine And.intro (by omega) (fun v98 gv98 e99 => ?_)
      refine fun v100 e101 => ?_
      have w104 := wI_rng v100
      refine And.intro (by omega) (fun A102 e103 => ?_)
      have i105 := iva_st i65 e103 trivial
      have j106 := ivf_sa j66 e103 rfl
      have f107 := frm_s f67 e103 rfl
      have w108 := wI_rng v56
      refine Exists.intro c (Exists.intro 6 (Exists.intro r42 (Exists.intro (wI v56) (And.intro rfl (And.intro (And.intro i105 (And.intro j106 (And.intro (by omega) (And.intro (by omega) (And.intro (by omega) (And.intro (by omega) (And.intro (by omega) (by omega)))))))) (fun A109 i110 j111 f112 => ?_))))))
      have f113 := frm_c f107 f112 rfl
      refine Exists.intro c (And.intro rfl (And.intro (And.intro i110 (And.intro j111 (And.intro (by omega) (by omega)))) (fun A114 i115 j116 f117 => ?_)))
      have f118 := frm_c f113 f117 rfl
      exact hK _ i115 j116 f118 _ (by omega) (by omega)
  · obtain ⟨v119, e120⟩ : ∃ v, v = A13 7 c := ⟨_, rfl⟩
    have b121 := iva_at i16 2 rfl (i := c) (by omega) (by omega)
    have q122 : v7 = v119 := (e120.trans ((congrFun (st_a e14 rfl) _).trans e8.symm)).symm
    subst q122
    refine Exists.intro c (And.intro rfl (And.intro (And.intro i16 (And.intro j17 (And.intro (by omega) (And.intro (by omega) (And.intro (by rw [← e120]; omega) (WF_fr p6 f18 rfl)))))) (fun A123 i124 j125 f126 r127 g128 g129 => ?_)))
    have f130 := frm_c f18 f126 rfl
    refine And.intro (fun h131 => ?_) (fun h131 => ?_)
    · refine And.intro (by omega) (fun v132 e133 => ?_)
      have h134 := qm_nn (a := c) (b := 6) (by omega)
      refine fun v135 e136 => ?_
      refine Exists.intro c (And.intro rfl (And.intro (And.intro i124 (And.intro j125 (And.intro (by omega) (by omega)))) (fun A137 i138 j139 f140 => ?_)))
      have f141 := frm_c f130 f140 rfl
      have w144 := wI_rng v135
      have w145 : wI v135 = v135 := wI_id (by omega)
      refine And.intro (by omega) (fun A142 e143 => ?_)
      have i146 := iva_st i138 e143 trivial
      have j147 := ivf_sa j139 e143 rfl
      have f148 := frm_s f141 e143 rfl
      refine Exists.intro 111 (Exists.intro 7 (And.intro rfl (And.intro (And.intro i146 (And.intro j147 (And.intro (by omega) (And.intro (by omega) (WF_fr p6 f148 rfl))))) (fun A149 i150 j151 f152 r153 g155 g156 g154 => ?_))))
      have f157 := frm_c f148 f152 rfl
      refine And.intro (by omega) (fun v158 gv158 e159 => ?_)
      refine And.intro (by omega) (fun v160 gv160 e161 => ?_)
      have b162 := iva_at i150 2 rfl (i := c) (by omega) (by omega)
      have q163 : v7 = v160 := (e161.trans ((congrFun (Eq.trans (Eq.trans (Eq.trans (frm_a f152 rfl) (st_a e143 rfl)) (frm_a f140 rfl)) (frm_a f126 rfl)) _).trans e120.symm)).symm
      subst q163
      refine And.intro (by omega) (fun v164 gv164 e165 => ?_)
      have b166 := iva_at i150 5 rfl (i := v7) (by omega) (by omega)
      refine fun v167 e168 => ?_
      refine And.intro (by omega) (fun v169 gv169 e170 => ?_)
      refine fun v171 e172 => ?_
      have w175 := wI_rng v171
      refine And.intro (by omega) (fun A173 e174 => ?_)
      have i176 := iva_st i150 e174 trivial
      have j177 := ivf_sa j151 e174 rfl
      have f178 := frm_s f157 e174 rfl
      refine And.intro (by omega) (fun v179 gv179 e180 => ?_)
      have q181 : v158 = v179 := (e180.trans ((congrFun (st_a e174 rfl) _).trans e159.symm)).symm
      subst q181
      refine fun v182 e183 => ?_
      refine And.intro (by omega) (fun v184 e185 => ?_)
      have h186 := qd_nn (a := c) (b := 6) (by omega)
      refine And.intro (by omega) (fun v187 gv187 e188 => ?_)
      have b189 := iva_at i176 7 rfl (i := v184) (by omega) (by omega)
      have w191 := wI_rng v182
      refine And.intro (fun h190 => ?_) (fun h190 => ?_)
      · have w192 := wI_rng v167
        refine Exists.intro c (Exists.intro 6 (Exists.intro r153 (Exists.intro (wI v167) (And.intro rfl (And.intro (And.intro i176 (And.intro j177 (And.intro (by omega) (And.intro (by omega) (And.intro (by omega) (And.intro (by omega) (And.intro (by omega) (by omega)))))))) (fun A193 i194 j195 f196 => ?_))))))
        have f197 := frm_c f178 f196 rfl
        refine Exists.intro c (And.intro rfl (And.intro (And.intro i194 (And.intro j195 (And.intro (by omega) (by omega)))) (fun A198 i199 j200 f201 => ?_)))
        have f202 := frm_c f197 f201 rfl
        exact hK _ i199 j200 f202 _ (by omega) (by omega)
      · refine And.intro (by omega) (fun v203 e204 => ?_)
        have h205 := qd_nn (a := c) (b := 6) (by omega)
        refine And.intro (by omega) (fun v206 e207 => ?_)
        have h208 := qd_nn (a := c) (b := 6) (by omega)
        refine And.intro (by omega) (fun v209 gv209 e210 => ?_)
        refine fun v211 e212 => ?_
        have w215 := wI_rng v211
        refine And.intro (by omega) (fun A213 e214 => ?_)
        have i216 := iva_st i176 e214 trivial
        have j217 := ivf_sa j177 e214 rfl
        have f218 := frm_s f178 e214 rfl
        have w219 := wI_rng v167
        refine Exists.intro c (Exists.intro 6 (Exists.intro r153 (Exists.intro (wI v167) (And.intro rfl (And.intro (And.intro i216 (And.intro j217 (And.intro (by omega) (And.intro (by omega) (And.intro (by omega) (And.intro (by omega) (And.intro (by omega) (by omega)))))))) (fun A220 i221 j222 f223 => ?_))))))
        have f224 := frm_c f218 f223 rfl
        refine Exists.intro c (And.intro rfl (And.intro (And.intro i221 (And.intro j222 (And.intro (by omega) (by omega)))) (fun A225 i226 j227 f228 => ?_)))
        have f229 := frm_c f224 f228 rfl
        exact hK _ i226 j227 f229 _ (by omega) (by omega)
    · refine And.intro (by omega) (fun v230 e231 => ?_)
      have h232 := qm_nn (a := r127) (b := 6) (by omega)
      refine Exists.intro c (Exists.intro v230 (Exists.intro (-1) (Exists.intro 0 (And.intro rfl (And.intro (And.intro i124 (And.intro j125 (And.intro (by omega) (And.intro (by omega) (And.intro (by omega) (And.intro (by omega) (And.intro (by omega) (by omega)))))))) (fun A233 i234 j235 f236 => ?_))))))
      have f237 := frm_c f130 f236 rfl
      refine And.intro (by omega) (fun v238 gv238 e239 => ?_)
      refine And.intro (by omega) (fun v240 gv240 e241 => ?_)
      refine fun v242 e243 => ?_
      have w246 := wI_rng v242
      refine And.intro (by omega) (fun A244 e245 => ?_)
      have i247 := iva_st i234 e245 trivial
      have j248 := ivf_sa j235 e245 rfl
      have f249 := frm_s f237 e245 rfl
      refine Exists.intro c (And.intro rfl (And.intro (And.intro i247 (And.intro j248 (And.intro (by omega) (by omega)))) (fun A250 i251 j252 f253 => ?_)))
      have f254 := frm_c f249 f253 rfl
      refine And.intro (by omega) (fun v255 e256 => ?_)
      have h257 := qm_nn (a := r127) (b := 6) (by omega)
      exact hK _ i251 j252 f254 _ (by omega) (by omega)
def sM_fall : qS := fun as A K => ∃ c l : Int, as = [rf 0, ni c, ni l] ∧ (iva IM A ∧ ivf JM A ∧ (WF A)) ∧ (∀ A' : qA, iva IM A' → ivf JM A' → frm [34, 35, 9, 19, 18, 7, 8, 2, 38, 39, 40, 41, 42, 43, 44, 45, 46] [(0, 2), (0, 3)] A A' → ∀ r : Int, (-1) ≤ r → r ≤ 6 → K (some (ni r)) A')
theorem okM_fall : okM LM 7 203 sM_fall := by
  refine qmeth [] false [(150, sM_isHung), (149, sM_at), (202, sM_falls)] 28 rfl ⟨okM_isHung.le (by decide), ⟨okM_at.le (by decide), ⟨okM_falls.le (by decide), trivial⟩⟩⟩ ?_
  rintro _ A K hA has ⟨c, l, rfl, ⟨i0, j0, p1⟩, hK⟩
  have rg_c : rng c := has (ni c) (by simp)
  have rg_l : rng l := has (ni l) (by simp)
  have f0 := frm_0 [34, 35, 9, 19, 18, 7, 8, 2, 38, 39, 40, 41, 42, 43, 44, 45, 46] [(0, 2), (0, 3)] A
  refine ⟨Nat.le_of_ble_eq_true rfl, [], trivial, ?_⟩
  refine Exists.intro c (Exists.intro l (And.intro rfl (And.intro (And.intro i0 j0) (And.intro (fun h2 => ?_) (fun h2 => ?_)))))
  · refine And.intro (fun h3 => by exfalso; omega) (fun h3 => ?_)
    refine Exists.intro c (Exists.intro l (And.intro rfl (And.intro (And.intro (by omega) (And.intro (by omega) (And.intro (by omega) (by omega)))) ?_)))
    refine And.intro (by omega) (fun v4 gv4 e5 => ?_)
    have b6 := iva_at i0 2 rfl (i := (6 * c + l)) (by omega) (by omega)
    refine And.intro (fun h7 => ?_) (fun h7 => ?_)
    · refine Exists.intro c (Exists.intro l (And.intro rfl (And.intro (And.intro (by omega) (And.intro (by omega) (And.intro (by omega) (by omega)))) ?_)))
      obtain ⟨v8, e9⟩ : ∃ v, v = A 7 (6 * c + l) := ⟨_, rfl⟩
      have b10 := iva_at i0 2 rfl (i := (6 * c + l)) (by omega) (by omega)
      have q11 : v4 = v8 := (e9.trans e5.symm).symm
      subst q11
      refine Exists.intro (6 * c + l) (Exists.intro 1 (And.intro rfl (And.intro (And.intro i0 (And.intro j0 (And.intro (by omega) (And.intro (by omega) (And.intro (by omega) (And.intro (by omega) (And.intro (by rw [← e9]; omega) (WF_fr p1 f0 rfl)))))))) (fun A12 i13 j14 f15 r16 g17 g18 => ?_))))
      have f19 := frm_c f0 f15 rfl
      exact hK _ i13 j14 f19 _ (by omega) (by omega)
    · exact hK _ i0 j0 f0 _ (by omega) (by omega)
  · refine And.intro (fun h20 => ?_) (fun h20 => by exfalso; omega)
    exact hK _ i0 j0 f0 _ (by omega) (by omega)
def sM_firstGoing : qS := fun as A K => as = [rf 0] ∧ (iva IM A ∧ ivf JM A) ∧ (∀ r : Int, (-1) ≤ r → r ≤ 47 → (r < 0 ∨ A 1 r ≠ 0) → K (some (ni r)) A)
theorem okM_firstGoing : okM LM 3 204 sM_firstGoing := by
  refine qmeth [] true [(198, sM_loadOf)] 30 rfl ⟨okM_loadOf.le (by decide), trivial⟩ ?_
  rintro _ A K hA has ⟨rfl, ⟨i0, j0⟩, hK⟩
  have f0 := frm_0 [] [] A
  refine ⟨Nat.le_of_ble_eq_true rfl, [(2, [(0, 2, 0), (1, 0, 0)], fun zs B nn => match zs with | [k] => A = B ∧ nn = (48 - k : Int).toNat ∧ (0 ≤ k) ∧ (k ≤ 48) | _ => False)], ?_, ?_⟩
  · refine ⟨⟨rfl, ?_⟩, trivial⟩
    · refine fun k B mm hB hz hI => ?_
      obtain ⟨rfl, hm, c0, c1⟩ := hI
      obtain ⟨hz_k, _⟩ := hz
      refine And.intro (fun h1 => ?_) (fun h1 => ?_)
      · exact hK _ (by omega) (by omega) (by first | omega | (subst_vars; omega))
      · refine And.intro (by omega) (fun v2 gv2 e3 => ?_)
        have b4 := iva_at i0 0 rfl (i := k) (by omega) (by omega)
        refine And.intro (fun h5 => ?_) (fun h5 => ?_)
        · refine fun v6 e7 => ?_
          have w8 := wI_rng v6
          have w9 : wI v6 = v6 := wI_id (by omega)
          exact Exists.intro (48 - ((wI v6)) : Int).toNat (And.intro (by omega) (And.intro rfl (And.intro rfl (And.intro (by omega) (by omega)))))
        · refine Exists.intro k (And.intro rfl (And.intro (And.intro i0 (And.intro j0 (And.intro (by omega) (by omega)))) (fun r10 g11 => ?_)))
          refine And.intro (by omega) (fun v12 gv12 e13 => ?_)
          refine And.intro (fun h14 => ?_) (fun h14 => ?_)
          · refine fun v15 e16 => ?_
            have w17 := wI_rng v15
            have w18 : wI v15 = v15 := wI_id (by omega)
            exact Exists.intro (48 - ((wI v15)) : Int).toNat (And.intro (by omega) (And.intro rfl (And.intro rfl (And.intro (by omega) (by omega)))))
          · exact hK _ (by omega) (by omega) (by first | omega | (subst_vars; omega))
  · exact Exists.intro (48 - 0 : Int).toNat (And.intro rfl (And.intro rfl (And.intro (by omega) (by omega))))
def sM_tears : qS := fun as A K => ∃ c l t : Int, as = [rf 0, ni c, ni l, ni t] ∧ (iva IM A ∧ ivf JM A ∧ (-6) ≤ c ∧ c ≤ 53) ∧ (∀ A' : qA, iva IM A' → ivf JM A' → frm [3] [] A A' → K none A')
theorem okM_tears : okM LM 2 205 sM_tears := by
  refine qmeth [] true [(145, sM_in), (147, sM_more)] 34 rfl ⟨okM_in.le (by decide), ⟨okM_more.le (by decide), trivial⟩⟩ ?_
  rintro _ A K hA has ⟨c, l, t, rfl, ⟨i0, j0, p1, p2⟩, hK⟩
  have rg_c : rng c := has (ni c) (by simp)
  have rg_l : rng l := has (ni l) (by simp)
  have rg_t : rng t := has (ni t) (by simp)
  have f0 := frm_0 [3] [] A
  refine ⟨Nat.le_of_ble_eq_true rfl, [], trivial, ?_⟩
  refine Exists.intro c (Exists.intro 0 (Exists.intro 47 (And.intro rfl (And.intro (fun h3 => ?_) (fun h3 => ?_)))))
  · refine And.intro (fun h4 => by exfalso; omega) (fun h4 => ?_)
    refine And.intro (by omega) (fun v5 e6 => ?_)
    have h7 := qm_nn (a := c) (b := 6) (by omega)
    refine And.intro (fun h8 => ?_) (fun h8 => ?_)
    · exact hK _ i0 j0 f0
    · refine And.intro (by omega) (fun v9 gv9 e10 => ?_)
      have b11 := iva_at i0 0 rfl (i := c) (by omega) (by omega)
      refine And.intro (fun h12 => ?_) (fun h12 => ?_)
      · exact hK _ i0 j0 f0
      · refine And.intro (by omega) (fun v13 gv13 e14 => ?_)
        refine fun v15 e16 => ?_
        have w17 := wI_rng v15
        refine Exists.intro 0 (Exists.intro (wI v15) (And.intro rfl (fun r18 g20 g19 => ?_)))
        refine And.intro (by omega) (fun A21 e22 => ?_)
        have i23 := iva_st i0 e22 trivial
        have j24 := ivf_sa j0 e22 rfl
        have f25 := frm_s f0 e22 rfl
        exact hK _ i23 j24 f25
  · refine And.intro (fun h26 => ?_) (fun h26 => by exfalso; omega)
    exact hK _ i0 j0 f0
def sM_isFall : qS := fun as A K => ∃ i : Int, as = [rf 0, ni i] ∧ (iva IM A ∧ ivf JM A) ∧ ((0 ≤ i ∧ i ≤ 59 → K (some (ni 1)) A) ∧ (True → K (some (ni 0)) A))
theorem okM_isFall : okM LM 1 210 sM_isFall := by
  refine qmeth [] false [] 16 rfl trivial ?_
  rintro _ A K hA has ⟨i, rfl, ⟨i0, j0⟩, hK⟩
  have rg_i : rng i := has (ni i) (by simp)
  have f0 := frm_0 [] [] A
  refine ⟨Nat.le_of_ble_eq_true rfl, [], trivial, ?_⟩
  refine And.intro (fun h1 => ?_) (fun h1 => ?_)
  · exact And.intro (by omega) (hK.2 (by first | omega | (subst_vars; omega) | (simp_all; done) | (simp_all; omega)))
  · refine fun v2 gv2 e3 => ?_
    have b4 := ivf_at j0 0 rfl
    refine And.intro (fun h5 => ?_) (fun h5 => ?_)
    · exact And.intro (by omega) (hK.2 (by first | omega | (subst_vars; omega) | (simp_all; done) | (simp_all; omega)))
    · exact And.intro (by omega) (hK.1 (by first | omega | (subst_vars; omega) | (simp_all; done) | (simp_all; omega)))
def sM_fallIs : qS := fun as A K => ∃ i w : Int, as = [rf 0, ni i, ni w] ∧ (iva IM A ∧ ivf JM A) ∧ (∀ r : Int, rng r → K (some (ni r)) A)
theorem okM_fallIs : okM LM 2 211 sM_fallIs := by
  refine qmeth [] false [(210, sM_isFall)] 55 rfl ⟨okM_isFall.le (by decide), trivial⟩ ?_
  rintro _ A K hA has ⟨i, w, rfl, ⟨i0, j0⟩, hK⟩
  have rg_i : rng i := has (ni i) (by simp)
  have rg_w : rng w := has (ni w) (by simp)
  have f0 := frm_0 [] [] A
  refine ⟨Nat.le_of_ble_eq_true rfl, [], trivial, ?_⟩
  refine Exists.intro i (And.intro rfl (And.intro (And.intro i0 j0) (And.intro (fun h1 => ?_) (fun h1 => ?_))))
  · refine And.intro (fun h2 => ?_) (fun h2 => by exfalso; omega)
    refine (And.intro (fun h3 => ?_) (And.intro (fun h3 => ?_) (And.intro (fun h3 => ?_) (And.intro (fun h3 => ?_) (And.intro (fun h3 => ?_) (And.intro (fun h3 => ?_) (And.intro (fun h3 => ?_) (And.intro (fun h3 => ?_) trivial))))))))
    · exact hK _ (by first | exact wI_rng _ | omega | (exact (hA _ _).2 rfl))
    · refine And.intro (by omega) (fun v4 gv4 e5 => ?_)
      have b6 := iva_at i0 11 rfl (i := i) (by omega) (by omega)
      refine And.intro (by omega) (fun v7 e8 => ?_)
      have h9 := qd_nn (a := v4) (b := 6) (by omega)
      exact And.intro (by omega) (hK _ (by first | exact wI_rng _ | omega | (exact (hA _ _).2 rfl)))
    · refine And.intro (by omega) (fun v10 gv10 e11 => ?_)
      have b12 := iva_at i0 11 rfl (i := i) (by omega) (by omega)
      refine And.intro (by omega) (fun v13 e14 => ?_)
      have h15 := qm_nn (a := v10) (b := 6) (by omega)
      exact hK _ (by first | exact wI_rng _ | omega | (exact (hA _ _).2 rfl))
    · refine And.intro (by omega) (fun v16 gv16 e17 => ?_)
      have b18 := iva_at i0 12 rfl (i := i) (by omega) (by omega)
      exact hK _ (by first | exact wI_rng _ | omega | (exact (hA _ _).2 rfl))
    · refine And.intro (by omega) (fun v19 gv19 e20 => ?_)
      exact hK _ (by first | exact wI_rng _ | omega | (exact (hA _ _).2 rfl))
    · refine And.intro (by omega) (fun v21 gv21 e22 => ?_)
      have b23 := iva_at i0 13 rfl (i := i) (by omega) (by omega)
      exact hK _ (by first | exact wI_rng _ | omega | (exact (hA _ _).2 rfl))
    · refine And.intro (by omega) (fun v24 gv24 e25 => ?_)
      have b26 := iva_at i0 14 rfl (i := i) (by omega) (by omega)
      exact hK _ (by first | exact wI_rng _ | omega | (exact (hA _ _).2 rfl))
    · refine And.intro (by omega) (fun v27 gv27 e28 => ?_)
      exact hK _ (by first | exact wI_rng _ | omega | (exact (hA _ _).2 rfl))
  · refine And.intro (fun h29 => by exfalso; omega) (fun h29 => ?_)
    exact hK _ (by first | exact wI_rng _ | omega | (exact (hA _ _).2 rfl))
def sM_claimer : qS := fun as A K => ∃ i p : Int, as = [rf 0, ni i, ni p] ∧ (iva IM A ∧ ivf JM A ∧ 0 ≤ i ∧ i ≤ 59 ∧ (WF A)) ∧ (∀ A' : qA, iva IM A' → ivf JM A' → frm [34, 35] [] A A' → ∀ r : Int, (-2) ≤ r → r ≤ 7 → K (some (ni r)) A')
theorem okM_claimer : okM LM 5 212 sM_claimer := by
  refine qmeth [] false [(187, sM_feelsCell), (188, sM_feelsCrop), (186, sM_told)] 75 rfl ⟨okM_feelsCell.le (by decide), ⟨okM_feelsCrop.le (by decide), ⟨okM_told.le (by decide), trivial⟩⟩⟩ ?_
  rintro _ A K hA has ⟨i, p, rfl, ⟨i0, j0, p1, p2, p3⟩, hK⟩
  have rg_i : rng i := has (ni i) (by simp)
  have rg_p : rng p := has (ni p) (by simp)
  have f0 := frm_0 [34, 35] [] A
  refine ⟨Nat.le_of_ble_eq_true rfl, [(6, [(0, 2, 0), (1, 0, 0), (2, 0, 0), (3, 0, 0), (4, 0, 0), (5, 0, 0)], fun zs B nn => match zs with | [l1, l2, w, y, k] => iva IM B ∧ ivf JM B ∧ frm [34, 35] [] A B ∧ nn = (8 - k : Int).toNat ∧ (l1 = i) ∧ (l2 = p) ∧ (0 ≤ k) ∧ (k ≤ 8) ∧ (0 ≤ y) ∧ (y ≤ 1000) ∧ ((-2) ≤ w) ∧ (w ≤ 7) | _ => False)], ?_, ?_⟩
  · refine ⟨⟨rfl, ?_⟩, trivial⟩
    · refine fun l1 l2 w y k B mm hB hz hI => ?_
      obtain ⟨i1, j1, f1, hm, c0, c1, c2, c3, c4, c5, c6, c7⟩ := hI
      obtain ⟨hz_l1, hz_l2, hz_w, hz_y, hz_k, _⟩ := hz
      refine And.intro (fun h4 => ?_) (fun h4 => ?_)
      · exact hK _ i1 j1 f1 _ (by omega) (by omega)
      · refine fun v5 e6 => ?_
        refine fun v7 e8 => ?_
        have h9 := ia_bd (a := v5) (b := 1) (by omega) (by omega)
        refine And.intro (fun h10 => ?_) (fun h10 => ?_)
        · refine And.intro (by omega) (fun v11 gv11 e12 => ?_)
          have b13 := iva_at i1 11 rfl (i := l1) (by omega) (by omega)
          refine And.intro (by omega) (fun v14 gv14 e15 => ?_)
          have b16 := iva_at i1 13 rfl (i := l1) (by omega) (by omega)
          refine And.intro (by omega) (fun v17 gv17 e18 => ?_)
          have b19 := iva_at i1 11 rfl (i := l1) (by omega) (by omega)
          have q20 : v11 = v17 := (e18.trans e12.symm).symm
          subst q20
          refine And.intro (by omega) (fun v21 e22 => ?_)
          have h23 := qm_nn (a := v11) (b := 6) (by omega)
          refine fun v24 e25 => ?_
          refine And.intro (by omega) (Exists.intro v11 (Exists.intro v24 (Exists.intro k (And.intro rfl (And.intro (And.intro i1 (And.intro j1 (And.intro (by omega) (by omega)))) (fun A26 i27 j28 f29 => ?_))))))
          have f30 := frm_c f1 f29 rfl
          refine And.intro (by omega) (fun v31 gv31 e32 => ?_)
          have b33 := iva_at i27 12 rfl (i := l1) (by omega) (by omega)
          refine And.intro (by omega) (fun v34 gv34 e35 => ?_)
          refine And.intro (by omega) (fun v36 gv36 e37 => ?_)
          have b38 := iva_at i27 15 rfl (i := l1) (by omega) (by omega)
          refine And.intro (by omega) (fun v39 gv39 e40 => ?_)
          have b41 := iva_at i27 16 rfl (i := l1) (by omega) (by omega)
          refine Exists.intro v31 (Exists.intro v34 (Exists.intro v36 (Exists.intro v39 (And.intro rfl (And.intro (And.intro i27 (And.intro j28 (And.intro (by omega) (And.intro (by omega) (And.intro (by omega) (by omega)))))) (fun A42 i43 j44 f45 => ?_))))))
          have f46 := frm_c f30 f45 rfl
          refine Exists.intro 113 (Exists.intro 1000 (And.intro rfl (And.intro (And.intro i43 (And.intro j44 (And.intro (by omega) (And.intro (by omega) (WF_fr p3 f46 rfl))))) (fun A47 i48 j49 f50 r51 g53 g54 g52 => ?_))))
          have f55 := frm_c f46 f50 rfl
          refine And.intro (fun h56 => ?_) (fun h56 => ?_)
          · refine fun v57 e58 => ?_
            exact And.intro (by omega) (Exists.intro (8 - v57 : Int).toNat (And.intro (by omega) (And.intro i48 (And.intro j49 (And.intro f55 (And.intro rfl (And.intro (by omega) (And.intro (by omega) (And.intro (by omega) (And.intro (by omega) (And.intro (by omega) (And.intro (by omega) (And.intro (by omega) (by omega))))))))))))))
          · refine fun v59 e60 => ?_
            exact And.intro (by omega) (Exists.intro (8 - v59 : Int).toNat (And.intro (by omega) (And.intro i48 (And.intro j49 (And.intro f55 (And.intro rfl (And.intro (by omega) (And.intro (by omega) (And.intro (by omega) (And.intro (by omega) (And.intro (by omega) (And.intro (by omega) (And.intro (by omega) (by omega))))))))))))))
        · refine fun v61 e62 => ?_
          exact And.intro (by omega) (Exists.intro (8 - v61 : Int).toNat (And.intro (by omega) (And.intro i1 (And.intro j1 (And.intro f1 (And.intro rfl (And.intro (by omega) (And.intro (by omega) (And.intro (by omega) (And.intro (by omega) (And.intro (by omega) (And.intro (by omega) (And.intro (by omega) (by omega))))))))))))))
  · exact Exists.intro (8 - 0 : Int).toNat (And.intro i0 (And.intro j0 (And.intro f0 (And.intro rfl (And.intro (by omega) (And.intro (by omega) (And.intro (by omega) (And.intro (by omega) (And.intro (by omega) (And.intro (by omega) (And.intro (by omega) (by omega))))))))))))
def sM_claimed : qS := fun as A K => ∃ i p : Int, as = [rf 0, ni i, ni p] ∧ (iva IM A ∧ ivf JM A ∧ (WF A)) ∧ (∀ A' : qA, iva IM A' → ivf JM A' → frm [34, 35] [] A A' → ∀ r : Int, (-2) ≤ r → r ≤ 7 → K (some (ni r)) A')
theorem okM_claimed : okM LM 6 213 sM_claimed := by
  refine qmeth [] false [(210, sM_isFall), (145, sM_in), (212, sM_claimer)] 22 rfl ⟨okM_isFall.le (by decide), ⟨okM_in.le (by decide), ⟨okM_claimer.le (by decide), trivial⟩⟩⟩ ?_
  rintro _ A K hA has ⟨i, p, rfl, ⟨i0, j0, p1⟩, hK⟩
  have rg_i : rng i := has (ni i) (by simp)
  have rg_p : rng p := has (ni p) (by simp)
  have f0 := frm_0 [34, 35] [] A
  refine ⟨Nat.le_of_ble_eq_true rfl, [], trivial, ?_⟩
  refine Exists.intro i (And.intro rfl (And.intro (And.intro i0 j0) (And.intro (fun h2 => ?_) (fun h2 => ?_))))
  · refine And.intro (fun h3 => by exfalso; omega) (fun h3 => ?_)
    refine Exists.intro p (Exists.intro 1 (Exists.intro 255 (And.intro rfl (And.intro (fun h4 => ?_) (fun h4 => ?_)))))
    · refine And.intro (fun h5 => by exfalso; omega) (fun h5 => ?_)
      refine Exists.intro i (Exists.intro p (And.intro rfl (And.intro (And.intro i0 (And.intro j0 (And.intro (by omega) (And.intro (by omega) (WF_fr p1 f0 rfl))))) (fun A6 i7 j8 f9 r10 g11 g12 => ?_))))
      have f13 := frm_c f0 f9 rfl
      exact hK _ i7 j8 f13 _ (by omega) (by omega)
    · refine And.intro (fun h14 => ?_) (fun h14 => by exfalso; omega)
      exact hK _ i0 j0 f0 _ (by omega) (by omega)
  · refine And.intro (fun h15 => ?_) (fun h15 => by exfalso; omega)
    exact hK _ i0 j0 f0 _ (by omega) (by omega)
def sM_right : qS := fun as A K => ∃ i p : Int, as = [rf 0, ni i, ni p] ∧ (iva IM A ∧ ivf JM A ∧ (WF A)) ∧ (∀ A' : qA, iva IM A' → ivf JM A' → frm [34, 35, 19, 42] [] A A' → ∀ r : Int, rng r → K (some (ni r)) A')
theorem okM_right : okM LM 6 214 sM_right := by
  refine qmeth [] true [(210, sM_isFall), (145, sM_in), (212, sM_claimer)] 81 rfl ⟨okM_isFall.le (by decide), ⟨okM_in.le (by decide), ⟨okM_claimer.le (by decide), trivial⟩⟩⟩ ?_
  rintro _ A K hA has ⟨i, p, rfl, ⟨i0, j0, p1⟩, hK⟩
  have rg_i : rng i := has (ni i) (by simp)
  have rg_p : rng p := has (ni p) (by simp)
  have f0 := frm_0 [34, 35, 19, 42] [] A
  refine ⟨Nat.le_of_ble_eq_true rfl, [], trivial, ?_⟩
  refine Exists.intro i (And.intro rfl (And.intro (And.intro i0 j0) (And.intro (fun h2 => ?_) (fun h2 => ?_))))
  · refine And.intro (fun h3 => by exfalso; omega) (fun h3 => ?_)
    refine Exists.intro p (Exists.intro 1 (Exists.intro 255 (And.intro rfl (And.intro (fun h4 => ?_) (fun h4 => ?_)))))
    · refine And.intro (fun h5 => by exfalso; omega) (fun h5 => ?_)
      refine And.intro (by omega) (fun v6 gv6 e7 => ?_)
      have b8 := iva_at i0 13 rfl (i := i) (by omega) (by omega)
      refine And.intro (fun h9 => ?_) (fun h9 => ?_)
      · refine Exists.intro i (Exists.intro p (And.intro rfl (And.intro (And.intro i0 (And.intro j0 (And.intro (by omega) (And.intro (by omega) (WF_fr p1 f0 rfl))))) (fun A10 i11 j12 f13 r14 g15 g16 => ?_))))
        have f17 := frm_c f0 f13 rfl
        refine And.intro (fun h18 => ?_) (fun h18 => ?_)
        · exact hK _ i11 j12 f17 _ (by first | exact wI_rng _ | omega | (exact (hA _ _).2 rfl))
        · refine And.intro (by omega) (fun v19 gv19 e20 => ?_)
          have b21 := iva_at i11 14 rfl (i := i) (by omega) (by omega)
          refine And.intro (fun h22 => ?_) (fun h22 => ?_)
          · refine And.intro (by omega) (fun v23 gv23 e24 => ?_)
            have b25 := iva_at i11 14 rfl (i := i) (by omega) (by omega)
            have q26 : v19 = v23 := (e24.trans e20.symm).symm
            subst q26
            refine And.intro (by omega) (fun v27 gv27 e28 => ?_)
            have b29 := iva_at i11 14 rfl (i := i) (by omega) (by omega)
            have q30 : v19 = v27 := (e28.trans e24.symm).symm
            subst q30
            refine And.intro (by omega) (fun v31 gv31 e32 => ?_)
            refine And.intro (by omega) (fun v33 gv33 e34 => ?_)
            refine fun v35 e36 => ?_
            have w39 := wI_rng v35
            refine And.intro (by omega) (fun A37 e38 => ?_)
            have i40 := iva_st i11 e38 trivial
            have j41 := ivf_sa j12 e38 rfl
            have f42 := frm_s f17 e38 rfl
            refine And.intro (by omega) (fun v43 gv43 e44 => ?_)
            refine And.intro (by omega) (fun v45 gv45 e46 => ?_)
            have q47 : v33 = v45 := (e46.trans ((congrFun (st_a e38 rfl) _).trans e34.symm)).symm
            subst q47
            refine fun v48 e49 => ?_
            have w52 := wI_rng v48
            refine And.intro (by omega) (fun A50 e51 => ?_)
            have i53 := iva_st i40 e51 trivial
            have j54 := ivf_sa j41 e51 rfl
            have f55 := frm_s f42 e51 rfl
            refine And.intro (by omega) (fun A56 e57 => ?_)
            have i58 := iva_st i53 e57 (And.intro (by omega) trivial)
            have j59 := ivf_sa j54 e57 rfl
            have f60 := frm_s f55 e57 rfl
            refine And.intro (by omega) (fun v61 gv61 e62 => ?_)
            have q63 : v33 = v61 := (e62.trans ((congrFun (Eq.trans (st_a e57 rfl) (st_a e51 rfl)) _).trans e46.symm)).symm
            subst q63
            exact hK _ i58 j59 f60 _ (by first | exact wI_rng _ | omega | (exact (hA _ _).2 rfl))
          · exact hK _ i11 j12 f17 _ (by first | exact wI_rng _ | omega | (exact (hA _ _).2 rfl))
      · exact hK _ i0 j0 f0 _ (by first | exact wI_rng _ | omega | (exact (hA _ _).2 rfl))
    · refine And.intro (fun h64 => ?_) (fun h64 => by exfalso; omega)
      exact hK _ i0 j0 f0 _ (by first | exact wI_rng _ | omega | (exact (hA _ _).2 rfl))
  · refine And.intro (fun h65 => ?_) (fun h65 => by exfalso; omega)
    exact hK _ i0 j0 f0 _ (by first | exact wI_rng _ | omega | (exact (hA _ _).2 rfl))
def sM_food : qS := fun as A K => ∃ p : Int, as = [rf 0, ni p] ∧ (iva IM A ∧ ivf JM A) ∧ (∀ r : Int, rng r → K (some (ni r)) A)
theorem okM_food : okM LM 2 215 sM_food := by
  refine qmeth [] false [(145, sM_in)] 18 rfl ⟨okM_in.le (by decide), trivial⟩ ?_
  rintro _ A K hA has ⟨p, rfl, ⟨i0, j0⟩, hK⟩
  have rg_p : rng p := has (ni p) (by simp)
  have f0 := frm_0 [] [] A
  refine ⟨Nat.le_of_ble_eq_true rfl, [], trivial, ?_⟩
  refine Exists.intro p (Exists.intro 0 (Exists.intro 7 (And.intro rfl (And.intro (fun h1 => ?_) (fun h1 => ?_)))))
  · refine And.intro (fun h2 => by exfalso; omega) (fun h2 => ?_)
    refine And.intro (by omega) (fun v3 gv3 e4 => ?_)
    exact hK _ (by first | exact wI_rng _ | omega | (exact (hA _ _).2 rfl))
  · refine And.intro (fun h5 => ?_) (fun h5 => by exfalso; omega)
    exact hK _ (by first | exact wI_rng _ | omega | (exact (hA _ _).2 rfl))
def sM_kitchenIs : qS := fun as A K => ∃ c w : Int, as = [rf 0, ni c, ni w] ∧ (iva IM A ∧ ivf JM A) ∧ (∀ r : Int, rng r → K (some (ni r)) A)
theorem okM_kitchenIs : okM LM 2 216 sM_kitchenIs := by
  refine qmeth [] false [(145, sM_in)] 37 rfl ⟨okM_in.le (by decide), trivial⟩ ?_
  rintro _ A K hA has ⟨c, w, rfl, ⟨i0, j0⟩, hK⟩
  have rg_c : rng c := has (ni c) (by simp)
  have rg_w : rng w := has (ni w) (by simp)
  have f0 := frm_0 [] [] A
  refine ⟨Nat.le_of_ble_eq_true rfl, [], trivial, ?_⟩
  refine Exists.intro c (Exists.intro 0 (Exists.intro 7 (And.intro rfl (And.intro (fun h1 => ?_) (fun h1 => ?_)))))
  · refine And.intro (fun h2 => ?_) (fun h2 => by exfalso; omega)
    refine (And.intro (fun h3 => ?_) (And.intro (fun h3 => ?_) (And.intro (fun h3 => ?_) (And.intro (fun h3 => ?_) (And.intro (fun h3 => ?_) trivial)))))
    · exact hK _ (by first | exact wI_rng _ | omega | (exact (hA _ _).2 rfl))
    · refine And.intro (by omega) (fun v4 gv4 e5 => ?_)
      have b6 := iva_at i0 6 rfl (i := c) (by omega) (by omega)
      exact hK _ (by first | exact wI_rng _ | omega | (exact (hA _ _).2 rfl))
    · refine And.intro (by omega) (fun v7 gv7 e8 => ?_)
      have b9 := iva_at i0 7 rfl (i := c) (by omega) (by omega)
      exact hK _ (by first | exact wI_rng _ | omega | (exact (hA _ _).2 rfl))
    · refine And.intro (by omega) (fun v10 gv10 e11 => ?_)
      exact hK _ (by first | exact wI_rng _ | omega | (exact (hA _ _).2 rfl))
    · refine And.intro (by omega) (fun v12 gv12 e13 => ?_)
      exact hK _ (by first | exact wI_rng _ | omega | (exact (hA _ _).2 rfl))
  · refine And.intro (fun h14 => by exfalso; omega) (fun h14 => ?_)
    exact hK _ (by first | exact wI_rng _ | omega | (exact (hA _ _).2 rfl))
def sM_lays : qS := fun as A K => ∃ x t : Int, as = [rf 0, nl x, ni t] ∧ (iva IM A ∧ ivf JM A ∧ 0 ≤ t ∧ t ≤ 8) ∧ (∀ A' : qA, iva IM A' → ivf JM A' → frm [50] [(0, 63)] A A' → ∀ r : Int, 0 ≤ r → r ≤ 1 → (r = 0 ∨ A' 0 (fd 63) ≤ t) → K (some (ni r)) A')
theorem okM_lays : okM LM 1 217 sM_lays := by
  refine qmeth [] false [] 55 rfl trivial ?_
  rintro _ A K hA has ⟨x, t, rfl, ⟨i0, j0, p1, p2⟩, hK⟩
  have rg_x : rngL x := has (nl x) (by simp)
  have rg_t : rng t := has (ni t) (by simp)
  have f0 := frm_0 [50] [(0, 63)] A
  refine ⟨Nat.le_of_ble_eq_true rfl, [(15, [(0, 2, 0), (1, 1, 0), (3, 0, 0), (4, 0, 0)], fun zs B nn => match zs with | [l1, l3, k] => iva IM B ∧ ivf JM B ∧ frm [50] [(0, 63)] A B ∧ nn = (48 - k : Int).toNat ∧ (l1 = x) ∧ (l3 = t) ∧ (0 ≤ k) ∧ (k ≤ 48) ∧ (B 0 (fd 63) ≤ t) | _ => False)], ?_, ?_⟩
  · refine ⟨⟨rfl, ?_⟩, trivial⟩
    · refine fun l1 l3 k B mm hB hz hI => ?_
      obtain ⟨i1, j1, f1, hm, c0, c1, c2, c3, c4⟩ := hI
      obtain ⟨hz_l1, hz_l3, hz_k, _⟩ := hz
      refine And.intro (fun h16 => ?_) (fun h16 => ?_)
      · exact And.intro (by omega) (hK _ i1 j1 f1 _ (by omega) (by omega) (by first | assumption | omega | simp_all))
      · refine fun v17 e18 => ?_
        refine fun (v19 : Int) (e20 : v19 = 1) => ?_
        refine fun v21 e22 => ?_
        refine fun (v23 : Int) (e24 : v23 = 0) => ?_
        refine fun v25 e26 => ?_
        refine And.intro (fun h27 => ?_) (fun h27 => ?_)
        · refine fun v28 gv28 e29 => ?_
          have b30 := ivf_at j1 2 rfl
          refine And.intro (fun h31 => ?_) (fun h31 => ?_)
          · refine fun v32 gv32 e33 => ?_
            have b34 := ivf_at j1 2 rfl
            have q35 : v28 = v32 := (e33.trans e29.symm).symm
            subst q35
            refine And.intro (by omega) (fun A36 e37 => ?_)
            have i38 := iva_st i1 e37 (And.intro (by omega) trivial)
            have j39 := ivf_sa j1 e37 rfl
            have f40 := frm_s f1 e37 rfl
            refine fun v41 gv41 e42 => ?_
            have b43 := ivf_at j39 2 rfl
            have q44 : v28 = v41 := (e42.trans ((congrFun (st_a e37 rfl) _).trans e33.symm)).symm
            subst q44
            refine fun v45 e46 => ?_
            refine And.intro (by omega) (fun A47 e48 => ?_)
            have i49 := iva_sf i38 e48 rfl
            have j50 := ivf_st j39 e48 (And.intro (by omega) trivial)
            have f51 := frm_sf f40 e48 rfl
            refine fun v52 e53 => ?_
            exact And.intro (by omega) (Exists.intro (48 - v52 : Int).toNat (And.intro (by omega) (And.intro i49 (And.intro j50 (And.intro f51 (And.intro rfl (And.intro (by omega) (And.intro (by omega) (And.intro (by omega) (And.intro (by omega) (by omega)))))))))))
          · exact And.intro (by omega) (hK _ i1 j1 f1 _ (by omega) (by omega) (by first | assumption | omega | simp_all))
        · refine fun v54 e55 => ?_
          exact And.intro (by omega) (Exists.intro (48 - v54 : Int).toNat (And.intro (by omega) (And.intro i1 (And.intro j1 (And.intro f1 (And.intro rfl (And.intro (by omega) (And.intro (by omega) (And.intro (by omega) (And.intro (by omega) (by omega)))))))))))
  · refine fun (v3 : Int) (e4 : v3 = 0) => ?_
    refine fun v5 e6 => ?_
    refine And.intro (fun h7 => ?_) (fun h7 => ?_)
    · exact And.intro (by omega) (hK _ i0 j0 f0 _ (by omega) (by omega) (by first | assumption | omega | simp_all))
    · refine fun v8 e9 => ?_
      refine And.intro (fun h10 => ?_) (fun h10 => ?_)
      · refine fun A11 e12 => ?_
        have i13 := iva_sf i0 e12 rfl
        have j14 := ivf_st j0 e12 (And.intro (by omega) trivial)
        have f15 := frm_sf f0 e12 rfl
        exact Exists.intro (48 - 0 : Int).toNat (And.intro i13 (And.intro j14 (And.intro f15 (And.intro rfl (And.intro (by omega) (And.intro (by omega) (And.intro (by omega) (And.intro (by omega) (by omega)))))))))
      · exact And.intro (by omega) (hK _ i0 j0 f0 _ (by omega) (by omega) (by first | assumption | omega | simp_all))
def sM_mayBe : qS := fun as A K => ∃ w c : Int, as = [rf 0, ni w, ni c] ∧ (iva IM A ∧ ivf JM A ∧ 1 ≤ w ∧ w ≤ 99 ∧ 0 ≤ c ∧ c ≤ 47) ∧ (∀ r : Int, 0 ≤ r → r ≤ 1 → K (some (ni r)) A)
theorem okM_mayBe : okM LM 1 218 sM_mayBe := by
  refine qmeth [] false [] 24 rfl trivial ?_
  rintro _ A K hA has ⟨w, c, rfl, ⟨i0, j0, p1, p2, p3, p4⟩, hK⟩
  have rg_w : rng w := has (ni w) (by simp)
  have rg_c : rng c := has (ni c) (by simp)
  have f0 := frm_0 [] [] A
  refine ⟨Nat.le_of_ble_eq_true rfl, [], trivial, ?_⟩
  refine And.intro (by omega) (fun v5 e6 => ?_)
  have h7 := qm_nn (a := c) (b := 6) (by omega)
  refine fun v8 e9 => ?_
  refine fun v10 e11 => ?_
  refine And.intro (by omega) (fun v12 e13 => ?_)
  have h14 := qd_nn (a := c) (b := 6) (by omega)
  refine And.intro (by omega) (fun v15 gv15 e16 => ?_)
  have b17 := iva_at i0 8 rfl (i := v12) (by omega) (by omega)
  refine And.intro (by omega) (And.intro (fun h18 => ?_) (fun h18 => ?_))
  · exact And.intro (by omega) (hK _ (by omega) (by omega))
  · exact And.intro (by omega) (hK _ (by omega) (by omega))
def sM_mayWork : qS := fun as A K => ∃ w c l : Int, as = [rf 0, ni w, ni c, ni l] ∧ (iva IM A ∧ ivf JM A) ∧ (∀ r : Int, (-1) ≤ r → r ≤ 1 → K (some (ni r)) A)
theorem okM_mayWork : okM LM 3 219 sM_mayWork := by
  refine qmeth [] false [(145, sM_in), (148, sM_isCell), (149, sM_at), (218, sM_mayBe)] 28 rfl ⟨okM_in.le (by decide), ⟨okM_isCell.le (by decide), ⟨okM_at.le (by decide), ⟨okM_mayBe.le (by decide), trivial⟩⟩⟩⟩ ?_
  rintro _ A K hA has ⟨w, c, l, rfl, ⟨i0, j0⟩, hK⟩
  have rg_w : rng w := has (ni w) (by simp)
  have rg_c : rng c := has (ni c) (by simp)
  have rg_l : rng l := has (ni l) (by simp)
  have f0 := frm_0 [] [] A
  refine ⟨Nat.le_of_ble_eq_true rfl, [], trivial, ?_⟩
  refine Exists.intro w (Exists.intro 1 (Exists.intro 99 (And.intro rfl (And.intro (fun h1 => ?_) (fun h1 => ?_)))))
  · refine And.intro (fun h2 => by exfalso; omega) (fun h2 => ?_)
    refine Exists.intro c (Exists.intro l (And.intro rfl (And.intro (fun h3 => ?_) (fun h3 => ?_))))
    · refine And.intro (fun h4 => ?_) (fun h4 => by exfalso; omega)
      refine Exists.intro c (Exists.intro l (And.intro rfl (And.intro (And.intro (by omega) (And.intro (by omega) (And.intro (by omega) (by omega)))) ?_)))
      refine Exists.intro w (Exists.intro (6 * c + l) (And.intro rfl (And.intro (And.intro i0 (And.intro j0 (And.intro (by omega) (And.intro (by omega) (And.intro (by omega) (by omega)))))) (fun r5 g6 g7 => ?_))))
      refine And.intro (fun h8 => ?_) (fun h8 => ?_)
      · exact hK _ (by omega) (by omega)
      · exact hK _ (by omega) (by omega)
    · refine And.intro (fun h9 => by exfalso; omega) (fun h9 => ?_)
      exact hK _ (by omega) (by omega)
  · refine And.intro (fun h10 => ?_) (fun h10 => by exfalso; omega)
    exact hK _ (by omega) (by omega)
def sM_apart : qS := fun as A K => ∃ a b : Int, as = [ni a, ni b] ∧ (0 ≤ a ∧ a ≤ 47 ∧ 0 ≤ b ∧ b ≤ 47) ∧ (∀ r : Int, 0 ≤ r → r ≤ 47 → K (some (ni r)) A)
theorem okM_apart : okM LM 1 220 sM_apart := by
  refine qmeth [] false [] 17 rfl trivial ?_
  rintro _ A K hA has ⟨a, b, rfl, ⟨p1, p2, p3, p4⟩, hK⟩
  have rg_a : rng a := has (ni a) (by simp)
  have rg_b : rng b := has (ni b) (by simp)
  refine ⟨Nat.le_of_ble_eq_true rfl, [], trivial, ?_⟩
  refine And.intro (fun h5 => ?_) (fun h5 => ?_)
  · refine fun v6 e7 => ?_
    exact And.intro (by omega) (hK _ (by omega) (by omega))
  · refine fun v8 e9 => ?_
    exact And.intro (by omega) (hK _ (by omega) (by omega))
def sM_way : qS := fun as A K => ∃ a b : Int, as = [ni a, ni b] ∧ (0 ≤ a ∧ a ≤ 47 ∧ 0 ≤ b ∧ b ≤ 47) ∧ (∀ r : Int, 0 ≤ r → r ≤ 300 → K (some (ni r)) A)
theorem okM_way : okM LM 2 221 sM_way := by
  refine qmeth [] false [(220, sM_apart)] 26 rfl ⟨okM_apart.le (by decide), trivial⟩ ?_
  rintro _ A K hA has ⟨a, b, rfl, ⟨p1, p2, p3, p4⟩, hK⟩
  have rg_a : rng a := has (ni a) (by simp)
  have rg_b : rng b := has (ni b) (by simp)
  refine ⟨Nat.le_of_ble_eq_true rfl, [], trivial, ?_⟩
  refine And.intro (by omega) (fun v5 e6 => ?_)
  have h7 := qd_nn (a := a) (b := 6) (by omega)
  refine And.intro (by omega) (fun v8 e9 => ?_)
  have h10 := qd_nn (a := b) (b := 6) (by omega)
  refine And.intro (by omega) (And.intro (by omega) (Exists.intro v5 (Exists.intro v8 (And.intro rfl (And.intro (And.intro (by omega) (And.intro (by omega) (And.intro (by omega) (by omega)))) (fun r11 g12 g13 => ?_))))))
  refine fun v14 e15 => ?_
  refine And.intro (by omega) (fun v16 e17 => ?_)
  have h18 := qm_nn (a := a) (b := 6) (by omega)
  refine And.intro (by omega) (fun v19 e20 => ?_)
  have h21 := qm_nn (a := b) (b := 6) (by omega)
  refine Exists.intro v16 (Exists.intro v19 (And.intro rfl (And.intro (And.intro (by omega) (And.intro (by omega) (And.intro (by omega) (by omega)))) (fun r22 g23 g24 => ?_))))
  refine fun v25 e26 => ?_
  refine fun v27 e28 => ?_
  exact And.intro (by omega) (hK _ (by omega) (by omega))
