/-- what lies in the kitchen is somebody's -/
def LZ (A : qA) : Prop := ∀ i, 0 ≤ i → i < 60 → A 41 i = 6 → 0 ≤ A 42 i
theorem LZ_k {A A' : qA} (h : LZ A) (e1 : A' 41 = A 41) (e2 : A' 42 = A 42) : LZ A' := by
  unfold LZ
  rw [e1, e2]
  exact h
theorem LZ_fr {W : List Nat} {V : List (Nat × Nat)} {A A' : qA} (h : LZ A) (f : frm W V A A') (c : ((noW 41 W && noV 41 V) && (noW 42 W && noV 42 V)) = true) : LZ A' := by
  simp only [Bool.and_eq_true] at c
  obtain ⟨⟨a1, a2⟩, ⟨b1, b2⟩⟩ := c
  exact LZ_k h (frm_a f (by rw [a1, a2]; rfl)) (frm_a f (by rw [b1, b2]; rfl))
theorem LZ_w42 {A A' : qA} {j v : Int} (h : LZ A) (e : A' = qu A 42 j v) (hv : 0 ≤ v) : LZ A' := by
  subst e
  intro i h0 h1 h2
  rw [qu_is] at h2 ⊢
  rw [if_neg (by omega)] at h2
  split
  · exact hv
  · exact h i h0 h1 h2
def sM_catcher : qS := fun as A K => ∃ c : Int, as = [rf 0, ni c] ∧ (iva IM A ∧ ivf JM A ∧ 0 ≤ c ∧ c ≤ 47 ∧ (0 ≤ A 7 c ∧ A 7 c ≤ 5) ∧ (WF A)) ∧ (∀ A' : qA, iva IM A' → ivf JM A' → frm [34, 35] [] A A' → ∀ r : Int, (-1) ≤ r → r ≤ 47 → K (some (ni r)) A')
theorem okM_catcher : okM LM 4 200 sM_catcher := by
  refine qmeth [] false [(187, sM_feelsCell), (189, sM_isRipe), (188, sM_feelsCrop), (186, sM_told)] 60 rfl ⟨okM_feelsCell.le (by decide), ⟨okM_isRipe.le (by decide), ⟨okM_feelsCrop.le (by decide), ⟨okM_told.le (by decide), trivial⟩⟩⟩⟩ ?_
  rintro _ A K hA has ⟨c, rfl, ⟨i0, j0, p1, p2, p3, p4⟩, hK⟩
  have rg_c : rng c := has (ni c) (by simp)
  have f0 := frm_0 [34, 35] [] A
  obtain ⟨v5, e6⟩ : ∃ v, v = A 7 c := ⟨_, rfl⟩
  rw [← e6] at p3
  refine ⟨Nat.le_of_ble_eq_true rfl, [(4, [(0, 2, 0), (1, 0, 0), (2, 0, 0)], fun zs B nn => match zs with | [l1, k] => iva IM B ∧ ivf JM B ∧ frm [34, 35] [] A B ∧ nn = (48 - k : Int).toNat ∧ (l1 = c) ∧ (0 ≤ l1) ∧ (l1 ≤ 47) ∧ (0 ≤ k) ∧ (k ≤ 48) | _ => False)], ?_, ?_⟩
  · refine ⟨⟨rfl, ?_⟩, trivial⟩
    · refine fun l1 k B mm hB hz hI => ?_
      obtain ⟨i1, j1, f1, hm, c0, c1, c2, c3, c4⟩ := hI
      obtain ⟨hz_l1, hz_k, _⟩ := hz
      refine And.intro (by omega) (fun v9 e10 => ?_)
      have h11 := qd_nn (a := l1) (b := 6) (by omega)
      refine fun v12 e13 => ?_
      refine fun v14 e15 => ?_
      refine And.intro (by omega) (And.intro (fun h16 => ?_) (fun h16 => ?_))
      · exact hK _ i1 j1 f1 _ (by omega) (by omega)
      · refine And.intro (by omega) (fun v17 gv17 e18 => ?_)
        have b19 := iva_at i1 0 rfl (i := k) (by omega) (by omega)
        refine And.intro (fun h20 => ?_) (fun h20 => ?_)
        · refine fun v21 e22 => ?_
          refine And.intro (by omega) (Exists.intro k (Exists.intro v21 (Exists.intro 0 (And.intro rfl (And.intro (And.intro i1 (And.intro j1 (And.intro (by omega) (by omega)))) (fun A23 i24 j25 f26 => ?_))))))
          have f27 := frm_c f1 f26 rfl
          refine And.intro (by omega) (fun v28 gv28 e29 => ?_)
          have b30 := iva_at i24 2 rfl (i := l1) (by omega) (by omega)
          refine And.intro (by omega) (fun v31 gv31 e32 => ?_)
          refine Exists.intro l1 (And.intro rfl (And.intro (And.intro i24 (And.intro j25 (And.intro (by omega) (by omega)))) (fun r33 g34 g35 => ?_)))
          refine And.intro (by omega) (fun v36 gv36 e37 => ?_)
          have b38 := iva_at i24 1 rfl (i := l1) (by omega) (by omega)
          refine Exists.intro v28 (Exists.intro v31 (Exists.intro r33 (Exists.intro v36 (And.intro rfl (And.intro (And.intro i24 (And.intro j25 (And.intro (by omega) (And.intro (by omega) (And.intro (by omega) (by omega)))))) (fun A39 i40 j41 f42 => ?_))))))
          have f43 := frm_c f27 f42 rfl
          refine Exists.intro 99 (Exists.intro 1 (And.intro rfl (And.intro (And.intro i40 (And.intro j41 (And.intro (by omega) (And.intro (by omega) (WF_fr p4 f43 rfl))))) (fun A44 i45 j46 f47 r48 g50 g51 g49 => ?_))))
          have f52 := frm_c f43 f47 rfl
          refine And.intro (fun h53 => ?_) (fun h53 => ?_)
          · refine fun v54 e55 => ?_
            exact And.intro (by omega) (Exists.intro (48 - v54 : Int).toNat (And.intro (by omega) (And.intro i45 (And.intro j46 (And.intro f52 (And.intro rfl (And.intro (by omega) (And.intro (by omega) (And.intro (by omega) (And.intro (by omega) (by omega)))))))))))
          · exact hK _ i45 j46 f52 _ (by omega) (by omega)
        · refine fun v56 e57 => ?_
          exact And.intro (by omega) (Exists.intro (48 - v56 : Int).toNat (And.intro (by omega) (And.intro i1 (And.intro j1 (And.intro f1 (And.intro rfl (And.intro (by omega) (And.intro (by omega) (And.intro (by omega) (And.intro (by omega) (by omega)))))))))))
  · refine fun v7 e8 => ?_
    exact And.intro (by omega) (Exists.intro (48 - v7 : Int).toNat (And.intro i0 (And.intro j0 (And.intro f0 (And.intro rfl (And.intro (by omega) (And.intro (by omega) (And.intro (by omega) (And.intro (by omega) (by omega))))))))))
def sM_writes : qS := fun as A K => ∃ c l w f : Int, as = [rf 0, ni c, ni l, ni w, ni f] ∧ (iva IM A ∧ ivf JM A ∧ 0 ≤ c ∧ c ≤ 47 ∧ 0 ≤ l ∧ l ≤ 6 ∧ (-1) ≤ w ∧ w ≤ 7 ∧ (LZ A) ∧ (l = 6 → 0 ≤ w)) ∧ (∀ A' : qA, iva IM A' → ivf JM A' → frm [38, 39, 40, 41, 42, 43, 44, 45, 46] [(0, 2)] A A' → (LZ A') → K none A')
theorem okM_writes : okM LM 2 201 sM_writes := by
  refine qmeth [] false [(189, sM_isRipe)] 84 rfl ⟨okM_isRipe.le (by decide), trivial⟩ ?_
  rintro _ A K hA has ⟨c, l, w, f, rfl, ⟨i0, j0, p1, p2, p3, p4, p5, p6, p7, p8⟩, hK⟩
  have rg_c : rng c := has (ni c) (by simp)
  have rg_l : rng l := has (ni l) (by simp)
  have rg_w : rng w := has (ni w) (by simp)
  have rg_f : rng f := has (ni f) (by simp)
  have f0 := frm_0 [38, 39, 40, 41, 42, 43, 44, 45, 46] [(0, 2)] A
  refine ⟨Nat.le_of_ble_eq_true rfl, [], trivial, ?_⟩
  refine fun v9 gv9 e10 => ?_
  have b11 := ivf_at j0 0 rfl
  refine And.intro (fun h12 => ?_) (fun h12 => ?_)
  · refine fun v13 gv13 e14 => ?_
    have b15 := ivf_at j0 0 rfl
    have q16 : v9 = v13 := (e14.trans e10.symm).symm
    subst q16
    refine And.intro (by omega) (fun A17 e18 => ?_)
    have i19 := iva_st i0 e18 (And.intro (by omega) trivial)
    have j20 := ivf_sa j0 e18 rfl
    have f21 := frm_s f0 e18 rfl
    refine fun v22 gv22 e23 => ?_
    have b24 := ivf_at j20 0 rfl
    have q25 : v9 = v22 := (e23.trans ((congrFun (st_a e18 rfl) _).trans e14.symm)).symm
    subst q25
    refine And.intro (by omega) (fun v26 gv26 e27 => ?_)
    have b28 := iva_at i19 2 rfl (i := c) (by omega) (by omega)
    refine And.intro (by omega) (fun A29 e30 => ?_)
    have i31 := iva_st i19 e30 (And.intro (by omega) trivial)
    have j32 := ivf_sa j20 e30 rfl
    have f33 := frm_s f21 e30 rfl
    refine fun v34 gv34 e35 => ?_
    have b36 := ivf_at j32 0 rfl
    have q37 : v9 = v34 := (e35.trans ((congrFun (st_a e30 rfl) _).trans e23.symm)).symm
    subst q37
    refine And.intro (by omega) (fun v38 gv38 e39 => ?_)
    refine And.intro (by omega) (fun A40 e41 => ?_)
    have i42 := iva_st i31 e41 trivial
    have j43 := ivf_sa j32 e41 rfl
    have f44 := frm_s f33 e41 rfl
    refine fun v45 gv45 e46 => ?_
    have b47 := ivf_at j43 0 rfl
    have q48 : v9 = v45 := (e46.trans ((congrFun (st_a e41 rfl) _).trans e35.symm)).symm
    subst q48
    refine And.intro (by omega) (fun A49 e50 => ?_)
    have i51 := iva_st i42 e50 (And.intro (by omega) trivial)
    have j52 := ivf_sa j43 e50 rfl
    have f53 := frm_s f44 e50 rfl
    refine fun v54 gv54 e55 => ?_
    have b56 := ivf_at j52 0 rfl
    have q57 : v9 = v54 := (e55.trans ((congrFun (st_a e50 rfl) _).trans e46.symm)).symm
    subst q57
    refine And.intro (by omega) (fun A58 e59 => ?_)
    have i60 := iva_st i51 e59 (And.intro (by omega) trivial)
    have j61 := ivf_sa j52 e59 rfl
    have f62 := frm_s f53 e59 rfl
    refine fun v63 gv63 e64 => ?_
    have b65 := ivf_at j61 0 rfl
    have q66 : v9 = v63 := (e64.trans ((congrFun (st_a e59 rfl) _).trans e55.symm)).symm
    subst q66
    refine fun v67 gv67 e68 => ?_
    refine And.intro (by omega) (fun A69 e70 => ?_)
    have i71 := iva_st i60 e70 trivial
    have j72 := ivf_sa j61 e70 rfl
    have f73 := frm_s f62 e70 rfl
    refine fun v74 gv74 e75 => ?_
    have b76 := ivf_at j72 0 rfl
    have q77 : v9 = v74 := (e75.trans ((congrFun (st_a e70 rfl) _).trans e64.symm)).symm
    subst q77
    refine And.intro (by omega) (fun A78 e79 => ?_)
    have i80 := iva_st i71 e79 trivial
    have j81 := ivf_sa j72 e79 rfl
    have f82 := frm_s f73 e79 rfl
    refine fun v83 gv83 e84 => ?_
    have b85 := ivf_at j81 0 rfl
    have q86 : v9 = v83 := (e84.trans ((congrFun (st_a e79 rfl) _).trans e75.symm)).symm
    subst q86
    refine Exists.intro c (And.intro rfl (And.intro (And.intro i80 (And.intro j81 (And.intro (by omega) (by omega)))) (fun r87 g88 g89 => ?_)))
    refine And.intro (by omega) (And.intro (by omega) (fun A90 e91 => ?_))
    have i92 := iva_st i80 e91 (And.intro (by omega) trivial)
    have j93 := ivf_sa j81 e91 rfl
    have f94 := frm_s f82 e91 rfl
    refine fun v95 gv95 e96 => ?_
    have b97 := ivf_at j93 0 rfl
    have q98 : v9 = v95 := (e96.trans ((congrFun (st_a e91 rfl) _).trans e84.symm)).symm
    subst q98
    refine And.intro (by omega) (fun v99 gv99 e100 => ?_)
    have b101 := iva_at i92 1 rfl (i := c) (by omega) (by omega)
    refine And.intro (by omega) (And.intro (by omega) (fun A102 e103 => ?_))
    have i104 := iva_st i92 e103 (And.intro (by omega) trivial)
    have j105 := ivf_sa j93 e103 rfl
    have f106 := frm_s f94 e103 rfl
    refine fun v107 gv107 e108 => ?_
    have b109 := ivf_at j105 0 rfl
    have q110 : v9 = v107 := (e108.trans ((congrFun (st_a e103 rfl) _).trans e96.symm)).symm
    subst q110
    refine fun v111 e112 => ?_
    refine And.intro (by omega) (fun A113 e114 => ?_)
    have i115 := iva_sf i104 e114 rfl
    have j116 := ivf_st j105 e114 (And.intro (by omega) trivial)
    have f117 := frm_sf f106 e114 rfl
    first
    | exact hK _ i0 j0 f0 (by assumption)
    | (refine hK _ i115 j116 f117 ?_
       have hLZ : LZ A := by assumption
       subst_vars
       intro i h0 h1 h2
       simp only [qu_is] at h2 ⊢
       simp at h2 ⊢
       by_cases hi : i = A 0 (fd 2)
       · simp [hi] at h2 ⊢; omega
       · simp [hi] at h2 ⊢; exact hLZ i h0 h1 h2)
  · exact hK _ i0 j0 f0 (by assumption)
def sM_falls : qS := fun as A K => ∃ c b : Int, as = [rf 0, ni c, ni b] ∧ (iva IM A ∧ ivf JM A ∧ 0 ≤ c ∧ c ≤ 47 ∧ 0 ≤ b ∧ b ≤ 1 ∧ (0 ≤ A 7 c ∧ A 7 c ≤ 5) ∧ (WF A) ∧ (LZ A)) ∧ (∀ A' : qA, iva IM A' → ivf JM A' → frm [34, 35, 9, 19, 18, 7, 8, 2, 38, 39, 40, 41, 42, 43, 44, 45, 46] [(0, 2), (0, 3)] A A' → ∀ r : Int, 0 ≤ r → r ≤ 6 → (LZ A') → K (some (ni r)) A')
theorem okM_falls : okM LM 5 202 sM_falls := by
  refine qmeth [] true [(190, sM_feels), (186, sM_told), (201, sM_writes), (152, sM_empties), (200, sM_catcher)] 131 rfl ⟨okM_feels.le (by decide), ⟨okM_told.le (by decide), ⟨okM_writes.le (by decide), ⟨okM_empties.le (by decide), ⟨okM_catcher.le (by decide), trivial⟩⟩⟩⟩⟩ ?_
  rintro _ A K hA has ⟨c, b, rfl, ⟨i0, j0, p1, p2, p3, p4, p5, p6, p7⟩, hK⟩
  have rg_c : rng c := has (ni c) (by simp)
  have rg_b : rng b := has (ni b) (by simp)
  have f0 := frm_0 [34, 35, 9, 19, 18, 7, 8, 2, 38, 39, 40, 41, 42, 43, 44, 45, 46] [(0, 2), (0, 3)] A
  obtain ⟨v8, e9⟩ : ∃ v, v = A 7 c := ⟨_, rfl⟩
  rw [← e9] at p5
  refine ⟨Nat.le_of_ble_eq_true rfl, [], trivial, ?_⟩
  refine fun v10 gv10 e11 => ?_
  refine fun v12 e13 => ?_
  have w16 := wI_rng v12
  refine fun A14 e15 => ?_
  have i17 := iva_sf i0 e15 rfl
  have j18 := ivf_st j0 e15 trivial
  have f19 := frm_sf f0 e15 rfl
  have cz20 := LZ_k p7 (st_a e15 rfl) (st_a e15 rfl)
  refine And.intro (fun h21 => ?_) (fun h21 => ?_)
  · refine And.intro (fun h22 => ?_) (fun h22 => by exfalso; omega)
    refine And.intro (by omega) (fun v23 e24 => ?_)
    have h25 := qm_nn (a := c) (b := 6) (by omega)
    refine fun v26 e27 => ?_
    refine Exists.intro c (And.intro rfl (And.intro (And.intro i17 (And.intro j18 (And.intro (by omega) (by omega)))) (fun A28 i29 j30 f31 => ?_)))
    have f32 := frm_c f19 f31 rfl
    have cz34 := LZ_fr cz20 f31 rfl
    have w37 := wI_rng v26
    have w38 : wI v26 = v26 := wI_id (by omega)
    refine And.intro (by omega) (fun A35 e36 => ?_)
    have i39 := iva_st i29 e36 trivial
    have j40 := ivf_sa j30 e36 rfl
    have f41 := frm_s f32 e36 rfl
    have cz42 := LZ_k cz34 (st_a e36 rfl) (st_a e36 rfl)
    refine Exists.intro 111 (Exists.intro 7 (And.intro rfl (And.intro (And.intro i39 (And.intro j40 (And.intro (by omega) (And.intro (by omega) (WF_fr p6 f41 rfl))))) (fun A43 i44 j45 f46 r47 g49 g50 g48 => ?_))))
    have f51 := frm_c f41 f46 rfl
    have cz53 := LZ_fr cz42 f46 rfl
    refine And.intro (by omega) (fun v54 gv54 e55 => ?_)
    refine And.intro (by omega) (fun v56 gv56 e57 => ?_)
    have b58 := iva_at i44 2 rfl (i := c) (by omega) (by omega)
    have q59 : v8 = v56 := (e57.trans ((congrFun (Eq.trans (Eq.trans (Eq.trans (frm_a f46 rfl) (st_a e36 rfl)) (frm_a f31 rfl)) (st_a e15 rfl)) _).trans e9.symm)).symm
    subst q59
    refine And.intro (by omega) (fun v60 gv60 e61 => ?_)
    have b62 := iva_at i44 5 rfl (i := v8) (by omega) (by omega)
    refine fun v63 e64 => ?_
    refine And.intro (by omega) (fun v65 gv65 e66 => ?_)
    refine fun v67 e68 => ?_
    have w71 := wI_rng v67
    refine And.intro (by omega) (fun A69 e70 => ?_)
    have i72 := iva_st i44 e70 trivial
    have j73 := ivf_sa j45 e70 rfl
    have f74 := frm_s f51 e70 rfl
    have cz75 := LZ_k cz53 (st_a e70 rfl) (st_a e70 rfl)
    refine And.intro (by omega) (fun v76 gv76 e77 => ?_)
    have q78 : v54 = v76 := (e77.trans ((congrFun (st_a e70 rfl) _).trans e55.symm)).symm
    subst q78
    refine fun v79 e80 => ?_
    refine And.intro (by omega) (fun v81 e82 => ?_)
    have h83 := qd_nn (a := c) (b := 6) (by omega)
    refine And.intro (by omega) (fun v84 gv84 e85 => ?_)
    have b86 := iva_at i72 7 rfl (i := v81) (by omega) (by omega)
    have w88 := wI_rng v79
    refine And.intro (fun h87 => ?_) (fun h87 => ?_)
    · have w89 := wI_rng v63
      refine Exists.intro c (Exists.intro 6 (Exists.intro r47 (Exists.intro (wI v63) (And.intro rfl (And.intro (And.intro i72 (And.intro j73 (And.intro (by omega) (And.intro (by omega) (And.intro (by omega) (And.intro (by omega) (And.intro (by omega) (And.intro (by omega) (And.intro cz75 (by first | assumption | omega | simp_all)))))))))) (fun A90 i91 j92 f93 g94 => ?_))))))
      have f95 := frm_c f74 f93 rfl
      refine Exists.intro c (And.intro rfl (And.intro (And.intro i91 (And.intro j92 (And.intro (by omega) (by omega)))) (fun A97 i98 j99 f100 => ?_)))
      have f101 := frm_c f95 f100 rfl
      have cz103 := LZ_fr g94 f100 rfl
      exact hK _ i98 j99 f101 _ (by omega) (by omega) cz103
    · refine And.intro (by omega) (fun v104 e105 => ?_)
      have h106 := qd_nn (a := c) (b := 6) (by omega)
      refine And.intro (by omega) (fun v107 e108 => ?_)
      have h109 := qd_nn (a := c) (b := 6) (by omega)
      refine And.intro (by omega) (fun v110 gv110 e111 => ?_)
      refine fun v112 e113 => ?_
      have w116 := wI_rng v112
      refine And.intro (by omega) (fun A114 e115 => ?_)
      have i117 := iva_st i72 e115 trivial
      have j118 := ivf_sa j73 e115 rfl
      have f119 := frm_s f74 e115 rfl
      have cz120 := LZ_k cz75 (st_a e115 rfl) (st_a e115 rfl)
      have w121 := wI_rng v63
      refine Exists.intro c (Exists.intro 6 (Exists.intro r47 (Exists.intro (wI v63) (And.intro rfl (And.intro (And.intro i117 (And.intro j118 (And.intro (by omega) (And.intro (by omega) (And.intro (by omega) (And.intro (by omega) (And.intro (by omega) (And.intro (by omega) (And.intro cz120 (by first | assumption | omega | simp_all)))))))))) (fun A122 i123 j124 f125 g126 => ?_))))))
      have f127 := frm_c f119 f125 rfl
      refine Exists.intro c (And.intro rfl (And.intro (And.intro i123 (And.intro j124 (And.intro (by omega) (by omega)))) (fun A129 i130 j131 f132 => ?_)))
      have f133 := frm_c f127 f132 rfl
      have cz135 := LZ_fr g126 f132 rfl
      exact hK _ i130 j131 f133 _ (by omega) (by omega) cz135
  · obtain ⟨v136, e137⟩ : ∃ v, v = A14 7 c := ⟨_, rfl⟩
    have b138 := iva_at i17 2 rfl (i := c) (by omega) (by omega)
    have q139 : v8 = v136 := (e137.trans ((congrFun (st_a e15 rfl) _).trans e9.symm)).symm
    subst q139
    refine Exists.intro c (And.intro rfl (And.intro (And.intro i17 (And.intro j18 (And.intro (by omega) (And.intro (by omega) (And.intro (by rw [← e137]; omega) (WF_fr p6 f19 rfl)))))) (fun A140 i141 j142 f143 r144 g145 g146 => ?_)))
    have f147 := frm_c f19 f143 rfl
    have cz149 := LZ_fr cz20 f143 rfl
    refine And.intro (fun h150 => ?_) (fun h150 => ?_)
    · refine And.intro (by omega) (fun v151 e152 => ?_)
      have h153 := qm_nn (a := c) (b := 6) (by omega)
      refine fun v154 e155 => ?_
      refine Exists.intro c (And.intro rfl (And.intro (And.intro i141 (And.intro j142 (And.intro (by omega) (by omega)))) (fun A156 i157 j158 f159 => ?_)))
      have f160 := frm_c f147 f159 rfl
      have cz162 := LZ_fr cz149 f159 rfl
      have w165 := wI_rng v154
      have w166 : wI v154 = v154 := wI_id (by omega)
      refine And.intro (by omega) (fun A163 e164 => ?_)
      have i167 := iva_st i157 e164 trivial
      have j168 := ivf_sa j158 e164 rfl
      have f169 := frm_s f160 e164 rfl
      have cz170 := LZ_k cz162 (st_a e164 rfl) (st_a e164 rfl)
      refine Exists.intro 111 (Exists.intro 7 (And.intro rfl (And.intro (And.intro i167 (And.intro j168 (And.intro (by omega) (And.intro (by omega) (WF_fr p6 f169 rfl))))) (fun A171 i172 j173 f174 r175 g177 g178 g176 => ?_))))
      have f179 := frm_c f169 f174 rfl
      have cz181 := LZ_fr cz170 f174 rfl
      refine And.intro (by omega) (fun v182 gv182 e183 => ?_)
      refine And.intro (by omega) (fun v184 gv184 e185 => ?_)
      have b186 := iva_at i172 2 rfl (i := c) (by omega) (by omega)
      have q187 : v8 = v184 := (e185.trans ((congrFun (Eq.trans (Eq.trans (Eq.trans (frm_a f174 rfl) (st_a e164 rfl)) (frm_a f159 rfl)) (frm_a f143 rfl)) _).trans e137.symm)).symm
      subst q187
      refine And.intro (by omega) (fun v188 gv188 e189 => ?_)
      have b190 := iva_at i172 5 rfl (i := v8) (by omega) (by omega)
      refine fun v191 e192 => ?_
      refine And.intro (by omega) (fun v193 gv193 e194 => ?_)
      refine fun v195 e196 => ?_
      have w199 := wI_rng v195
      refine And.intro (by omega) (fun A197 e198 => ?_)
      have i200 := iva_st i172 e198 trivial
      have j201 := ivf_sa j173 e198 rfl
      have f202 := frm_s f179 e198 rfl
      have cz203 := LZ_k cz181 (st_a e198 rfl) (st_a e198 rfl)
      refine And.intro (by omega) (fun v204 gv204 e205 => ?_)
      have q206 : v182 = v204 := (e205.trans ((congrFun (st_a e198 rfl) _).trans e183.symm)).symm
      subst q206
      refine fun v207 e208 => ?_
      refine And.intro (by omega) (fun v209 e210 => ?_)
      have h211 := qd_nn (a := c) (b := 6) (by omega)
      refine And.intro (by omega) (fun v212 gv212 e213 => ?_)
      have b214 := iva_at i200 7 rfl (i := v209) (by omega) (by omega)
      have w216 := wI_rng v207
      refine And.intro (fun h215 => ?_) (fun h215 => ?_)
      · have w217 := wI_rng v191
        refine Exists.intro c (Exists.intro 6 (Exists.intro r175 (Exists.intro (wI v191) (And.intro rfl (And.intro (And.intro i200 (And.intro j201 (And.intro (by omega) (And.intro (by omega) (And.intro (by omega) (And.intro (by omega) (And.intro (by omega) (And.intro (by omega) (And.intro cz203 (by first | assumption | omega | simp_all)))))))))) (fun A218 i219 j220 f221 g222 => ?_))))))
        have f223 := frm_c f202 f221 rfl
        refine Exists.intro c (And.intro rfl (And.intro (And.intro i219 (And.intro j220 (And.intro (by omega) (by omega)))) (fun A225 i226 j227 f228 => ?_)))
        have f229 := frm_c f223 f228 rfl
        have cz231 := LZ_fr g222 f228 rfl
        exact hK _ i226 j227 f229 _ (by omega) (by omega) cz231
      · refine And.intro (by omega) (fun v232 e233 => ?_)
        have h234 := qd_nn (a := c) (b := 6) (by omega)
        refine And.intro (by omega) (fun v235 e236 => ?_)
        have h237 := qd_nn (a := c) (b := 6) (by omega)
        refine And.intro (by omega) (fun v238 gv238 e239 => ?_)
        refine fun v240 e241 => ?_
        have w244 := wI_rng v240
        refine And.intro (by omega) (fun A242 e243 => ?_)
        have i245 := iva_st i200 e243 trivial
        have j246 := ivf_sa j201 e243 rfl
        have f247 := frm_s f202 e243 rfl
        have cz248 := LZ_k cz203 (st_a e243 rfl) (st_a e243 rfl)
        have w249 := wI_rng v191
        refine Exists.intro c (Exists.intro 6 (Exists.intro r175 (Exists.intro (wI v191) (And.intro rfl (And.intro (And.intro i245 (And.intro j246 (And.intro (by omega) (And.intro (by omega) (And.intro (by omega) (And.intro (by omega) (And.intro (by omega) (And.intro (by omega) (And.intro cz248 (by first | assumption | omega | simp_all)))))))))) (fun A250 i251 j252 f253 g254 => ?_))))))
        have f255 := frm_c f247 f253 rfl
        refine Exists.intro c (And.intro rfl (And.intro (And.intro i251 (And.intro j252 (And.intro (by omega) (by omega)))) (fun A257 i258 j259 f260 => ?_)))
        have f261 := frm_c f255 f260 rfl
        have cz263 := LZ_fr g254 f260 rfl
        exact hK _ i258 j259 f261 _ (by omega) (by omega) cz263
    · refine And.intro (by omega) (fun v264 e265 => ?_)
      have h266 := qm_nn (a := r144) (b := 6) (by omega)
      refine Exists.intro c (Exists.intro v264 (Exists.intro (-1) (Exists.intro 0 (And.intro rfl (And.intro (And.intro i141 (And.intro j142 (And.intro (by omega) (And.intro (by omega) (And.intro (by omega) (And.intro (by omega) (And.intro (by omega) (And.intro (by omega) (And.intro cz149 (by first | assumption | omega | simp_all)))))))))) (fun A267 i268 j269 f270 g271 => ?_))))))
      have f272 := frm_c f147 f270 rfl
      refine And.intro (by omega) (fun v274 gv274 e275 => ?_)
      refine And.intro (by omega) (fun v276 gv276 e277 => ?_)
      refine fun v278 e279 => ?_
      have w282 := wI_rng v278
      refine And.intro (by omega) (fun A280 e281 => ?_)
      have i283 := iva_st i268 e281 trivial
      have j284 := ivf_sa j269 e281 rfl
      have f285 := frm_s f272 e281 rfl
      have cz286 := LZ_k g271 (st_a e281 rfl) (st_a e281 rfl)
      refine Exists.intro c (And.intro rfl (And.intro (And.intro i283 (And.intro j284 (And.intro (by omega) (by omega)))) (fun A287 i288 j289 f290 => ?_)))
      have f291 := frm_c f285 f290 rfl
      have cz293 := LZ_fr cz286 f290 rfl
      refine And.intro (by omega) (fun v294 e295 => ?_)
      have h296 := qm_nn (a := r144) (b := 6) (by omega)
      exact hK _ i288 j289 f291 _ (by omega) (by omega) cz293
def sM_fall : qS := fun as A K => ∃ c l : Int, as = [rf 0, ni c, ni l] ∧ (iva IM A ∧ ivf JM A ∧ (WF A) ∧ (LZ A)) ∧ (∀ A' : qA, iva IM A' → ivf JM A' → frm [34, 35, 9, 19, 18, 7, 8, 2, 38, 39, 40, 41, 42, 43, 44, 45, 46] [(0, 2), (0, 3)] A A' → ∀ r : Int, (-1) ≤ r → r ≤ 6 → (LZ A') → K (some (ni r)) A')
theorem okM_fall : okM LM 6 203 sM_fall := by
  refine qmeth [] false [(150, sM_isHung), (149, sM_at), (202, sM_falls)] 28 rfl ⟨okM_isHung.le (by decide), ⟨okM_at.le (by decide), ⟨okM_falls.le (by decide), trivial⟩⟩⟩ ?_
  rintro _ A K hA has ⟨c, l, rfl, ⟨i0, j0, p1, p2⟩, hK⟩
  have rg_c : rng c := has (ni c) (by simp)
  have rg_l : rng l := has (ni l) (by simp)
  have f0 := frm_0 [34, 35, 9, 19, 18, 7, 8, 2, 38, 39, 40, 41, 42, 43, 44, 45, 46] [(0, 2), (0, 3)] A
  refine ⟨Nat.le_of_ble_eq_true rfl, [], trivial, ?_⟩
  refine Exists.intro c (Exists.intro l (And.intro rfl (And.intro (And.intro i0 j0) (And.intro (fun h3 => ?_) (fun h3 => ?_)))))
  · refine And.intro (fun h4 => by exfalso; omega) (fun h4 => ?_)
    refine Exists.intro c (Exists.intro l (And.intro rfl (And.intro (And.intro (by omega) (And.intro (by omega) (And.intro (by omega) (by omega)))) ?_)))
    refine And.intro (by omega) (fun v5 gv5 e6 => ?_)
    have b7 := iva_at i0 2 rfl (i := (6 * c + l)) (by omega) (by omega)
    refine And.intro (fun h8 => ?_) (fun h8 => ?_)
    · refine Exists.intro c (Exists.intro l (And.intro rfl (And.intro (And.intro (by omega) (And.intro (by omega) (And.intro (by omega) (by omega)))) ?_)))
      obtain ⟨v9, e10⟩ : ∃ v, v = A 7 (6 * c + l) := ⟨_, rfl⟩
      have b11 := iva_at i0 2 rfl (i := (6 * c + l)) (by omega) (by omega)
      have q12 : v5 = v9 := (e10.trans e6.symm).symm
      subst q12
      refine Exists.intro (6 * c + l) (Exists.intro 1 (And.intro rfl (And.intro (And.intro i0 (And.intro j0 (And.intro (by omega) (And.intro (by omega) (And.intro (by omega) (And.intro (by omega) (And.intro (by rw [← e10]; omega) (And.intro (WF_fr p1 f0 rfl) p2)))))))) (fun A13 i14 j15 f16 r17 g19 g20 g18 => ?_))))
      have f21 := frm_c f0 f16 rfl
      exact hK _ i14 j15 f21 _ (by omega) (by omega) g18
    · exact hK _ i0 j0 f0 _ (by omega) (by omega) p2
  · refine And.intro (fun h23 => ?_) (fun h23 => by exfalso; omega)
    exact hK _ i0 j0 f0 _ (by omega) (by omega) p2
def sM_firstGoing : qS := fun as A K => as = [rf 0] ∧ (iva IM A ∧ ivf JM A) ∧ (∀ r : Int, (-1) ≤ r → r ≤ 47 → (r < 0 ∨ A 1 r ≠ 0) → K (some (ni r)) A)
theorem okM_firstGoing : okM LM 3 204 sM_firstGoing := by
  refine qmeth [] true [(198, sM_loadOf)] 30 rfl ⟨okM_loadOf.le (by decide), trivial⟩ ?_
  rintro _ A K hA has ⟨rfl, ⟨i0, j0⟩, hK⟩
  have f0 := frm_0 [] [] A
  refine ⟨Nat.le_of_ble_eq_true rfl, [(2, [(0, 2, 0), (1, 0, 0)], fun zs B nn => match zs with | [k] => A = B ∧ nn = (48 - k : Int).toNat ∧ (0 ≤ k) ∧ (k ≤ 48) | _ => False)], ?_, ?_⟩
  · refine ⟨⟨rfl, ?_⟩, trivial⟩
    · refine fun k B mm hB hz hI => ?_
      obtain ⟨rfl, hm, c0, c1⟩ := hI
      obtain ⟨hz_k, _⟩ := hz
      refine And.intro (fun h1 => ?_) (fun h1 => ?_)
      · exact hK _ (by omega) (by omega) (by first | omega | (subst_vars; omega))
      · refine And.intro (by omega) (fun v2 gv2 e3 => ?_)
        have b4 := iva_at i0 0 rfl (i := k) (by omega) (by omega)
        refine And.intro (fun h5 => ?_) (fun h5 => ?_)
        · refine fun v6 e7 => ?_
          have w8 := wI_rng v6
          have w9 : wI v6 = v6 := wI_id (by omega)
          exact Exists.intro (48 - ((wI v6)) : Int).toNat (And.intro (by omega) (And.intro rfl (And.intro rfl (And.intro (by omega) (by omega)))))
        · refine Exists.intro k (And.intro rfl (And.intro (And.intro i0 (And.intro j0 (And.intro (by omega) (by omega)))) (fun r10 g11 => ?_)))
          refine And.intro (by omega) (fun v12 gv12 e13 => ?_)
          refine And.intro (fun h14 => ?_) (fun h14 => ?_)
          · refine fun v15 e16 => ?_
            have w17 := wI_rng v15
            have w18 : wI v15 = v15 := wI_id (by omega)
            exact Exists.intro (48 - ((wI v15)) : Int).toNat (And.intro (by omega) (And.intro rfl (And.intro rfl (And.intro (by omega) (by omega)))))
          · exact hK _ (by omega) (by omega) (by first | omega | (subst_vars; omega))
  · exact Exists.intro (48 - 0 : Int).toNat (And.intro rfl (And.intro rfl (And.intro (by omega) (by omega))))
def sM_tears : qS := fun as A K => ∃ c l t : Int, as = [rf 0, ni c, ni l, ni t] ∧ (iva IM A ∧ ivf JM A ∧ (-6) ≤ c ∧ c ≤ 53) ∧ (∀ A' : qA, iva IM A' → ivf JM A' → frm [3] [] A A' → K none A')
theorem okM_tears : okM LM 2 205 sM_tears := by
  refine qmeth [] true [(145, sM_in), (147, sM_more)] 34 rfl ⟨okM_in.le (by decide), ⟨okM_more.le (by decide), trivial⟩⟩ ?_
  rintro _ A K hA has ⟨c, l, t, rfl, ⟨i0, j0, p1, p2⟩, hK⟩
  have rg_c : rng c := has (ni c) (by simp)
  have rg_l : rng l := has (ni l) (by simp)
  have rg_t : rng t := has (ni t) (by simp)
  have f0 := frm_0 [3] [] A
  refine ⟨Nat.le_of_ble_eq_true rfl, [], trivial, ?_⟩
  refine Exists.intro c (Exists.intro 0 (Exists.intro 47 (And.intro rfl (And.intro (fun h3 => ?_) (fun h3 => ?_)))))
  · refine And.intro (fun h4 => by exfalso; omega) (fun h4 => ?_)
    refine And.intro (by omega) (fun v5 e6 => ?_)
    have h7 := qm_nn (a := c) (b := 6) (by omega)
    refine And.intro (fun h8 => ?_) (fun h8 => ?_)
    · exact hK _ i0 j0 f0
    · refine And.intro (by omega) (fun v9 gv9 e10 => ?_)
      have b11 := iva_at i0 0 rfl (i := c) (by omega) (by omega)
      refine And.intro (fun h12 => ?_) (fun h12 => ?_)
      · exact hK _ i0 j0 f0
      · refine And.intro (by omega) (fun v13 gv13 e14 => ?_)
        refine fun v15 e16 => ?_
        have w17 := wI_rng v15
        refine Exists.intro 0 (Exists.intro (wI v15) (And.intro rfl (fun r18 g20 g19 => ?_)))
        refine And.intro (by omega) (fun A21 e22 => ?_)
        have i23 := iva_st i0 e22 trivial
        have j24 := ivf_sa j0 e22 rfl
        have f25 := frm_s f0 e22 rfl
        exact hK _ i23 j24 f25
  · refine And.intro (fun h26 => ?_) (fun h26 => by exfalso; omega)
    exact hK _ i0 j0 f0
def sM_isFall : qS := fun as A K => ∃ i : Int, as = [rf 0, ni i] ∧ (iva IM A ∧ ivf JM A) ∧ ((0 ≤ i ∧ i ≤ 59 → K (some (ni 1)) A) ∧ (True → K (some (ni 0)) A))
theorem okM_isFall : okM LM 1 210 sM_isFall := by
  refine qmeth [] false [] 16 rfl trivial ?_
  rintro _ A K hA has ⟨i, rfl, ⟨i0, j0⟩, hK⟩
  have rg_i : rng i := has (ni i) (by simp)
  have f0 := frm_0 [] [] A
  refine ⟨Nat.le_of_ble_eq_true rfl, [], trivial, ?_⟩
  refine And.intro (fun h1 => ?_) (fun h1 => ?_)
  · exact And.intro (by omega) (hK.2 (by first | omega | (subst_vars; omega) | (simp_all; done) | (simp_all; omega)))
  · refine fun v2 gv2 e3 => ?_
    have b4 := ivf_at j0 0 rfl
    refine And.intro (fun h5 => ?_) (fun h5 => ?_)
    · exact And.intro (by omega) (hK.2 (by first | omega | (subst_vars; omega) | (simp_all; done) | (simp_all; omega)))
    · exact And.intro (by omega) (hK.1 (by first | omega | (subst_vars; omega) | (simp_all; done) | (simp_all; omega)))
def sM_fallIs : qS := fun as A K => ∃ i w : Int, as = [rf 0, ni i, ni w] ∧ (iva IM A ∧ ivf JM A) ∧ (∀ r : Int, rng r → K (some (ni r)) A)
theorem okM_fallIs : okM LM 2 211 sM_fallIs := by
  refine qmeth [] false [(210, sM_isFall)] 55 rfl ⟨okM_isFall.le (by decide), trivial⟩ ?_
  rintro _ A K hA has ⟨i, w, rfl, ⟨i0, j0⟩, hK⟩
  have rg_i : rng i := has (ni i) (by simp)
  have rg_w : rng w := has (ni w) (by simp)
  have f0 := frm_0 [] [] A
  refine ⟨Nat.le_of_ble_eq_true rfl, [], trivial, ?_⟩
  refine Exists.intro i (And.intro rfl (And.intro (And.intro i0 j0) (And.intro (fun h1 => ?_) (fun h1 => ?_))))
  · refine And.intro (fun h2 => ?_) (fun h2 => by exfalso; omega)
    refine (And.intro (fun h3 => ?_) (And.intro (fun h3 => ?_) (And.intro (fun h3 => ?_) (And.intro (fun h3 => ?_) (And.intro (fun h3 => ?_) (And.intro (fun h3 => ?_) (And.intro (fun h3 => ?_) (And.intro (fun h3 => ?_) trivial))))))))
    · exact hK _ (by first | exact wI_rng _ | omega | (exact (hA _ _).2 rfl))
    · refine And.intro (by omega) (fun v4 gv4 e5 => ?_)
      have b6 := iva_at i0 14 rfl (i := i) (by omega) (by omega)
      refine And.intro (by omega) (fun v7 e8 => ?_)
      have h9 := qd_nn (a := v4) (b := 6) (by omega)
      exact And.intro (by omega) (hK _ (by first | exact wI_rng _ | omega | (exact (hA _ _).2 rfl)))
    · refine And.intro (by omega) (fun v10 gv10 e11 => ?_)
      have b12 := iva_at i0 14 rfl (i := i) (by omega) (by omega)
      refine And.intro (by omega) (fun v13 e14 => ?_)
      have h15 := qm_nn (a := v10) (b := 6) (by omega)
      exact hK _ (by first | exact wI_rng _ | omega | (exact (hA _ _).2 rfl))
    · refine And.intro (by omega) (fun v16 gv16 e17 => ?_)
      have b18 := iva_at i0 15 rfl (i := i) (by omega) (by omega)
      exact hK _ (by first | exact wI_rng _ | omega | (exact (hA _ _).2 rfl))
    · refine And.intro (by omega) (fun v19 gv19 e20 => ?_)
      exact hK _ (by first | exact wI_rng _ | omega | (exact (hA _ _).2 rfl))
    · refine And.intro (by omega) (fun v21 gv21 e22 => ?_)
      have b23 := iva_at i0 16 rfl (i := i) (by omega) (by omega)
      exact hK _ (by first | exact wI_rng _ | omega | (exact (hA _ _).2 rfl))
    · refine And.intro (by omega) (fun v24 gv24 e25 => ?_)
      have b26 := iva_at i0 17 rfl (i := i) (by omega) (by omega)
      exact hK _ (by first | exact wI_rng _ | omega | (exact (hA _ _).2 rfl))
    · refine And.intro (by omega) (fun v27 gv27 e28 => ?_)
      exact hK _ (by first | exact wI_rng _ | omega | (exact (hA _ _).2 rfl))
  · refine And.intro (fun h29 => by exfalso; omega) (fun h29 => ?_)
    exact hK _ (by first | exact wI_rng _ | omega | (exact (hA _ _).2 rfl))
def sM_claimer : qS := fun as A K => ∃ i p : Int, as = [rf 0, ni i, ni p] ∧ (iva IM A ∧ ivf JM A ∧ 0 ≤ i ∧ i ≤ 59 ∧ (WF A)) ∧ (∀ A' : qA, iva IM A' → ivf JM A' → frm [34, 35] [] A A' → ∀ r : Int, (-2) ≤ r → r ≤ 7 → (r ≠ -1) → K (some (ni r)) A')
theorem okM_claimer : okM LM 4 212 sM_claimer := by
  refine qmeth [] false [(187, sM_feelsCell), (188, sM_feelsCrop), (186, sM_told)] 75 rfl ⟨okM_feelsCell.le (by decide), ⟨okM_feelsCrop.le (by decide), ⟨okM_told.le (by decide), trivial⟩⟩⟩ ?_
  rintro _ A K hA has ⟨i, p, rfl, ⟨i0, j0, p1, p2, p3⟩, hK⟩
  have rg_i : rng i := has (ni i) (by simp)
  have rg_p : rng p := has (ni p) (by simp)
  have f0 := frm_0 [34, 35] [] A
  refine ⟨Nat.le_of_ble_eq_true rfl, [(6, [(0, 2, 0), (1, 0, 0), (2, 0, 0), (3, 0, 0), (4, 0, 0), (5, 0, 0)], fun zs B nn => match zs with | [l1, l2, w, y, k] => iva IM B ∧ ivf JM B ∧ frm [34, 35] [] A B ∧ nn = (8 - k : Int).toNat ∧ (l1 = i) ∧ (l2 = p) ∧ (0 ≤ k) ∧ (k ≤ 8) ∧ (0 ≤ y) ∧ (y ≤ 1000) ∧ ((-2) ≤ w) ∧ (w ≤ 7) ∧ (w ≠ -1) | _ => False)], ?_, ?_⟩
  · refine ⟨⟨rfl, ?_⟩, trivial⟩
    · refine fun l1 l2 w y k B mm hB hz hI => ?_
      obtain ⟨i1, j1, f1, hm, c0, c1, c2, c3, c4, c5, c6, c7, c8⟩ := hI
      obtain ⟨hz_l1, hz_l2, hz_w, hz_y, hz_k, _⟩ := hz
      refine And.intro (fun h4 => ?_) (fun h4 => ?_)
      · exact hK _ i1 j1 f1 _ (by omega) (by omega) (by first | assumption | omega | simp_all)
      · refine fun v5 e6 => ?_
        refine fun v7 e8 => ?_
        have h9 := ia_bd (a := v5) (b := 1) (by omega) (by omega)
        refine And.intro (fun h10 => ?_) (fun h10 => ?_)
        · refine And.intro (by omega) (fun v11 gv11 e12 => ?_)
          have b13 := iva_at i1 14 rfl (i := l1) (by omega) (by omega)
          refine And.intro (by omega) (fun v14 gv14 e15 => ?_)
          have b16 := iva_at i1 16 rfl (i := l1) (by omega) (by omega)
          refine And.intro (by omega) (fun v17 gv17 e18 => ?_)
          have b19 := iva_at i1 14 rfl (i := l1) (by omega) (by omega)
          have q20 : v11 = v17 := (e18.trans e12.symm).symm
          subst q20
          refine And.intro (by omega) (fun v21 e22 => ?_)
          have h23 := qm_nn (a := v11) (b := 6) (by omega)
          refine fun v24 e25 => ?_
          refine And.intro (by omega) (Exists.intro v11 (Exists.intro v24 (Exists.intro k (And.intro rfl (And.intro (And.intro i1 (And.intro j1 (And.intro (by omega) (by omega)))) (fun A26 i27 j28 f29 => ?_))))))
          have f30 := frm_c f1 f29 rfl
          refine And.intro (by omega) (fun v31 gv31 e32 => ?_)
          have b33 := iva_at i27 15 rfl (i := l1) (by omega) (by omega)
          refine And.intro (by omega) (fun v34 gv34 e35 => ?_)
          refine And.intro (by omega) (fun v36 gv36 e37 => ?_)
          have b38 := iva_at i27 18 rfl (i := l1) (by omega) (by omega)
          refine And.intro (by omega) (fun v39 gv39 e40 => ?_)
          have b41 := iva_at i27 19 rfl (i := l1) (by omega) (by omega)
          refine Exists.intro v31 (Exists.intro v34 (Exists.intro v36 (Exists.intro v39 (And.intro rfl (And.intro (And.intro i27 (And.intro j28 (And.intro (by omega) (And.intro (by omega) (And.intro (by omega) (by omega)))))) (fun A42 i43 j44 f45 => ?_))))))
          have f46 := frm_c f30 f45 rfl
          refine Exists.intro 113 (Exists.intro 1000 (And.intro rfl (And.intro (And.intro i43 (And.intro j44 (And.intro (by omega) (And.intro (by omega) (WF_fr p3 f46 rfl))))) (fun A47 i48 j49 f50 r51 g53 g54 g52 => ?_))))
          have f55 := frm_c f46 f50 rfl
          refine And.intro (fun h56 => ?_) (fun h56 => ?_)
          · refine fun v57 e58 => ?_
            exact And.intro (by omega) (Exists.intro (8 - v57 : Int).toNat (And.intro (by omega) (And.intro i48 (And.intro j49 (And.intro f55 (And.intro rfl (And.intro (by omega) (And.intro (by omega) (And.intro (by omega) (And.intro (by omega) (And.intro (by omega) (And.intro (by omega) (And.intro (by omega) (And.intro (by omega) (by omega)))))))))))))))
          · refine fun v59 e60 => ?_
            exact And.intro (by omega) (Exists.intro (8 - v59 : Int).toNat (And.intro (by omega) (And.intro i48 (And.intro j49 (And.intro f55 (And.intro rfl (And.intro (by omega) (And.intro (by omega) (And.intro (by omega) (And.intro (by omega) (And.intro (by omega) (And.intro (by omega) (And.intro (by omega) (And.intro (by omega) (by omega)))))))))))))))
        · refine fun v61 e62 => ?_
          exact And.intro (by omega) (Exists.intro (8 - v61 : Int).toNat (And.intro (by omega) (And.intro i1 (And.intro j1 (And.intro f1 (And.intro rfl (And.intro (by omega) (And.intro (by omega) (And.intro (by omega) (And.intro (by omega) (And.intro (by omega) (And.intro (by omega) (And.intro (by omega) (And.intro (by omega) (by omega)))))))))))))))
  · exact Exists.intro (8 - 0 : Int).toNat (And.intro i0 (And.intro j0 (And.intro f0 (And.intro rfl (And.intro (by omega) (And.intro (by omega) (And.intro (by omega) (And.intro (by omega) (And.intro (by omega) (And.intro (by omega) (And.intro (by omega) (And.intro (by omega) (by omega)))))))))))))
def sM_claimed : qS := fun as A K => ∃ i p : Int, as = [rf 0, ni i, ni p] ∧ (iva IM A ∧ ivf JM A ∧ (WF A)) ∧ (∀ A' : qA, iva IM A' → ivf JM A' → frm [34, 35] [] A A' → ∀ r : Int, (-2) ≤ r → r ≤ 7 → K (some (ni r)) A')
theorem okM_claimed : okM LM 5 213 sM_claimed := by
  refine qmeth [] false [(210, sM_isFall), (145, sM_in), (212, sM_claimer)] 22 rfl ⟨okM_isFall.le (by decide), ⟨okM_in.le (by decide), ⟨okM_claimer.le (by decide), trivial⟩⟩⟩ ?_
  rintro _ A K hA has ⟨i, p, rfl, ⟨i0, j0, p1⟩, hK⟩
  have rg_i : rng i := has (ni i) (by simp)
  have rg_p : rng p := has (ni p) (by simp)
  have f0 := frm_0 [34, 35] [] A
  refine ⟨Nat.le_of_ble_eq_true rfl, [], trivial, ?_⟩
  refine Exists.intro i (And.intro rfl (And.intro (And.intro i0 j0) (And.intro (fun h2 => ?_) (fun h2 => ?_))))
  · refine And.intro (fun h3 => by exfalso; omega) (fun h3 => ?_)
    refine Exists.intro p (Exists.intro 1 (Exists.intro 255 (And.intro rfl (And.intro (fun h4 => ?_) (fun h4 => ?_)))))
    · refine And.intro (fun h5 => by exfalso; omega) (fun h5 => ?_)
      refine Exists.intro i (Exists.intro p (And.intro rfl (And.intro (And.intro i0 (And.intro j0 (And.intro (by omega) (And.intro (by omega) (WF_fr p1 f0 rfl))))) (fun A6 i7 j8 f9 r10 g12 g13 g11 => ?_))))
      have f14 := frm_c f0 f9 rfl
      exact hK _ i7 j8 f14 _ (by omega) (by omega)
    · refine And.intro (fun h15 => ?_) (fun h15 => by exfalso; omega)
      exact hK _ i0 j0 f0 _ (by omega) (by omega)
  · refine And.intro (fun h16 => ?_) (fun h16 => by exfalso; omega)
    exact hK _ i0 j0 f0 _ (by omega) (by omega)
def sM_right : qS := fun as A K => ∃ i p : Int, as = [rf 0, ni i, ni p] ∧ (iva IM A ∧ ivf JM A ∧ (WF A) ∧ (LZ A)) ∧ (∀ A' : qA, iva IM A' → ivf JM A' → frm [34, 35, 19, 42] [] A A' → ∀ r : Int, rng r → (LZ A') → K (some (ni r)) A')
theorem okM_right : okM LM 5 214 sM_right := by
  refine qmeth [] true [(210, sM_isFall), (145, sM_in), (212, sM_claimer)] 81 rfl ⟨okM_isFall.le (by decide), ⟨okM_in.le (by decide), ⟨okM_claimer.le (by decide), trivial⟩⟩⟩ ?_
  rintro _ A K hA has ⟨i, p, rfl, ⟨i0, j0, p1, p2⟩, hK⟩
  have rg_i : rng i := has (ni i) (by simp)
  have rg_p : rng p := has (ni p) (by simp)
  have f0 := frm_0 [34, 35, 19, 42] [] A
  refine ⟨Nat.le_of_ble_eq_true rfl, [], trivial, ?_⟩
  refine Exists.intro i (And.intro rfl (And.intro (And.intro i0 j0) (And.intro (fun h3 => ?_) (fun h3 => ?_))))
  · refine And.intro (fun h4 => by exfalso; omega) (fun h4 => ?_)
    refine Exists.intro p (Exists.intro 1 (Exists.intro 255 (And.intro rfl (And.intro (fun h5 => ?_) (fun h5 => ?_)))))
    · refine And.intro (fun h6 => by exfalso; omega) (fun h6 => ?_)
      refine And.intro (by omega) (fun v7 gv7 e8 => ?_)
      have b9 := iva_at i0 16 rfl (i := i) (by omega) (by omega)
      refine And.intro (fun h10 => ?_) (fun h10 => ?_)
      · refine Exists.intro i (Exists.intro p (And.intro rfl (And.intro (And.intro i0 (And.intro j0 (And.intro (by omega) (And.intro (by omega) (WF_fr p1 f0 rfl))))) (fun A11 i12 j13 f14 r15 g17 g18 g16 => ?_))))
        have f19 := frm_c f0 f14 rfl
        have cz21 := LZ_fr p2 f14 rfl
        refine And.intro (fun h22 => ?_) (fun h22 => ?_)
        · exact hK _ i12 j13 f19 _ (by first | exact wI_rng _ | omega | (exact (hA _ _).2 rfl)) cz21
        · refine And.intro (by omega) (fun v23 gv23 e24 => ?_)
          have b25 := iva_at i12 17 rfl (i := i) (by omega) (by omega)
          refine And.intro (fun h26 => ?_) (fun h26 => ?_)
          · have hz := cz21 i (by omega) (by omega) (by have q := congrFun (frm_a f14 (r := 41) rfl) i; omega)
            refine And.intro (by omega) (fun v27 gv27 e28 => ?_)
            have b29 := iva_at i12 17 rfl (i := i) (by omega) (by omega)
            have q30 : v23 = v27 := (e28.trans e24.symm).symm
            subst q30
            refine And.intro (by omega) (fun v31 gv31 e32 => ?_)
            have b33 := iva_at i12 17 rfl (i := i) (by omega) (by omega)
            have q34 : v23 = v31 := (e32.trans e28.symm).symm
            subst q34
            refine And.intro (by omega) (fun v35 gv35 e36 => ?_)
            refine And.intro (by omega) (fun v37 gv37 e38 => ?_)
            refine fun v39 e40 => ?_
            have w43 := wI_rng v39
            refine And.intro (by omega) (fun A41 e42 => ?_)
            have i44 := iva_st i12 e42 trivial
            have j45 := ivf_sa j13 e42 rfl
            have f46 := frm_s f19 e42 rfl
            have cz47 := LZ_k cz21 (st_a e42 rfl) (st_a e42 rfl)
            refine And.intro (by omega) (fun v48 gv48 e49 => ?_)
            refine And.intro (by omega) (fun v50 gv50 e51 => ?_)
            have q52 : v37 = v50 := (e51.trans ((congrFun (st_a e42 rfl) _).trans e38.symm)).symm
            subst q52
            refine fun v53 e54 => ?_
            have w57 := wI_rng v53
            refine And.intro (by omega) (fun A55 e56 => ?_)
            have i58 := iva_st i44 e56 trivial
            have j59 := ivf_sa j45 e56 rfl
            have f60 := frm_s f46 e56 rfl
            have cz61 := LZ_k cz47 (st_a e56 rfl) (st_a e56 rfl)
            refine And.intro (by omega) (fun A62 e63 => ?_)
            have i64 := iva_st i58 e63 (And.intro (by omega) trivial)
            have j65 := ivf_sa j59 e63 rfl
            have f66 := frm_s f60 e63 rfl
            have cz67 := LZ_w42 cz61 e63 (by omega)
            refine And.intro (by omega) (fun v68 gv68 e69 => ?_)
            have q70 : v37 = v68 := (e69.trans ((congrFun (Eq.trans (st_a e63 rfl) (st_a e56 rfl)) _).trans e51.symm)).symm
            subst q70
            exact hK _ i64 j65 f66 _ (by first | exact wI_rng _ | omega | (exact (hA _ _).2 rfl)) cz67
          · exact hK _ i12 j13 f19 _ (by first | exact wI_rng _ | omega | (exact (hA _ _).2 rfl)) cz21
      · exact hK _ i0 j0 f0 _ (by first | exact wI_rng _ | omega | (exact (hA _ _).2 rfl)) p2
    · refine And.intro (fun h71 => ?_) (fun h71 => by exfalso; omega)
      exact hK _ i0 j0 f0 _ (by first | exact wI_rng _ | omega | (exact (hA _ _).2 rfl)) p2
  · refine And.intro (fun h72 => ?_) (fun h72 => by exfalso; omega)
    exact hK _ i0 j0 f0 _ (by first | exact wI_rng _ | omega | (exact (hA _ _).2 rfl)) p2
def sM_food : qS := fun as A K => ∃ p : Int, as = [rf 0, ni p] ∧ (iva IM A ∧ ivf JM A) ∧ (∀ r : Int, rng r → K (some (ni r)) A)
theorem okM_food : okM LM 2 215 sM_food := by
  refine qmeth [] false [(145, sM_in)] 18 rfl ⟨okM_in.le (by decide), trivial⟩ ?_
  rintro _ A K hA has ⟨p, rfl, ⟨i0, j0⟩, hK⟩
  have rg_p : rng p := has (ni p) (by simp)
  have f0 := frm_0 [] [] A
  refine ⟨Nat.le_of_ble_eq_true rfl, [], trivial, ?_⟩
  refine Exists.intro p (Exists.intro 0 (Exists.intro 7 (And.intro rfl (And.intro (fun h1 => ?_) (fun h1 => ?_)))))
  · refine And.intro (fun h2 => by exfalso; omega) (fun h2 => ?_)
    refine And.intro (by omega) (fun v3 gv3 e4 => ?_)
    exact hK _ (by first | exact wI_rng _ | omega | (exact (hA _ _).2 rfl))
  · refine And.intro (fun h5 => ?_) (fun h5 => by exfalso; omega)
    exact hK _ (by first | exact wI_rng _ | omega | (exact (hA _ _).2 rfl))
def sM_kitchenIs : qS := fun as A K => ∃ c w : Int, as = [rf 0, ni c, ni w] ∧ (iva IM A ∧ ivf JM A) ∧ (∀ r : Int, rng r → K (some (ni r)) A)
theorem okM_kitchenIs : okM LM 2 216 sM_kitchenIs := by
  refine qmeth [] false [(145, sM_in)] 37 rfl ⟨okM_in.le (by decide), trivial⟩ ?_
  rintro _ A K hA has ⟨c, w, rfl, ⟨i0, j0⟩, hK⟩
  have rg_c : rng c := has (ni c) (by simp)
  have rg_w : rng w := has (ni w) (by simp)
  have f0 := frm_0 [] [] A
  refine ⟨Nat.le_of_ble_eq_true rfl, [], trivial, ?_⟩
  refine Exists.intro c (Exists.intro 0 (Exists.intro 7 (And.intro rfl (And.intro (fun h1 => ?_) (fun h1 => ?_)))))
  · refine And.intro (fun h2 => ?_) (fun h2 => by exfalso; omega)
    refine (And.intro (fun h3 => ?_) (And.intro (fun h3 => ?_) (And.intro (fun h3 => ?_) (And.intro (fun h3 => ?_) (And.intro (fun h3 => ?_) trivial)))))
    · exact hK _ (by first | exact wI_rng _ | omega | (exact (hA _ _).2 rfl))
    · refine And.intro (by omega) (fun v4 gv4 e5 => ?_)
      have b6 := iva_at i0 6 rfl (i := c) (by omega) (by omega)
      exact hK _ (by first | exact wI_rng _ | omega | (exact (hA _ _).2 rfl))
    · refine And.intro (by omega) (fun v7 gv7 e8 => ?_)
      have b9 := iva_at i0 7 rfl (i := c) (by omega) (by omega)
      exact hK _ (by first | exact wI_rng _ | omega | (exact (hA _ _).2 rfl))
    · refine And.intro (by omega) (fun v10 gv10 e11 => ?_)
      exact hK _ (by first | exact wI_rng _ | omega | (exact (hA _ _).2 rfl))
    · refine And.intro (by omega) (fun v12 gv12 e13 => ?_)
      exact hK _ (by first | exact wI_rng _ | omega | (exact (hA _ _).2 rfl))
  · refine And.intro (fun h14 => by exfalso; omega) (fun h14 => ?_)
    exact hK _ (by first | exact wI_rng _ | omega | (exact (hA _ _).2 rfl))
def sM_lays : qS := fun as A K => ∃ x t : Int, as = [rf 0, nl x, ni t] ∧ (iva IM A ∧ ivf JM A ∧ 0 ≤ t ∧ t ≤ 8) ∧ (∀ A' : qA, iva IM A' → ivf JM A' → frm [50] [(0, 63)] A A' → ∀ r : Int, 0 ≤ r → r ≤ 1 → (r = 0 ∨ A' 0 (fd 63) ≤ t) → K (some (ni r)) A')
theorem okM_lays : okM LM 1 217 sM_lays := by
  refine qmeth [] false [] 55 rfl trivial ?_
  rintro _ A K hA has ⟨x, t, rfl, ⟨i0, j0, p1, p2⟩, hK⟩
  have rg_x : rngL x := has (nl x) (by simp)
  have rg_t : rng t := has (ni t) (by simp)
  have f0 := frm_0 [50] [(0, 63)] A
  have hb_0_63 := ivf_at j0 2 rfl
  refine ⟨Nat.le_of_ble_eq_true rfl, [(15, [(0, 2, 0), (1, 1, 0), (3, 0, 0), (4, 0, 0)], fun zs B nn => match zs with | [l1, l3, k] => iva IM B ∧ ivf JM B ∧ frm [50] [(0, 63)] A B ∧ nn = (48 - k : Int).toNat ∧ (l1 = x) ∧ (l3 = t) ∧ (0 ≤ k) ∧ (k ≤ 48) ∧ (B 0 (fd 63) ≤ t) | _ => False)], ?_, ?_⟩
  · refine ⟨⟨rfl, ?_⟩, trivial⟩
    · refine fun l1 l3 k B mm hB hz hI => ?_
      obtain ⟨i1, j1, f1, hm, c0, c1, c2, c3, c4⟩ := hI
      obtain ⟨hz_l1, hz_l3, hz_k, _⟩ := hz
      have hc_0_63 := ivf_at j1 2 rfl
      refine And.intro (fun h17 => ?_) (fun h17 => ?_)
      · exact And.intro (by omega) (hK _ i1 j1 f1 _ (by omega) (by omega) (by first | assumption | omega | simp_all))
      · refine fun v18 e19 => ?_
        refine fun (v20 : Int) (e21 : v20 = 1) => ?_
        refine fun v22 e23 => ?_
        refine fun (v24 : Int) (e25 : v24 = 0) => ?_
        refine fun v26 e27 => ?_
        refine And.intro (fun h28 => ?_) (fun h28 => ?_)
        · refine fun v29 gv29 e30 => ?_
          have b31 := ivf_at j1 2 rfl
          refine And.intro (fun h32 => ?_) (fun h32 => ?_)
          · refine fun v33 gv33 e34 => ?_
            have b35 := ivf_at j1 2 rfl
            have q36 : v29 = v33 := (e34.trans e30.symm).symm
            subst q36
            refine And.intro (by omega) (fun A37 e38 => ?_)
            have i39 := iva_st i1 e38 (And.intro (by omega) trivial)
            have j40 := ivf_sa j1 e38 rfl
            have f41 := frm_s f1 e38 rfl
            have t42 : A37 0 (fd 63) = B 0 (fd 63) := (congrFun (st_a e38 rfl) _)
            refine fun v43 gv43 e44 => ?_
            have b45 := ivf_at j40 2 rfl
            have q46 : v29 = v43 := (e44.trans ((congrFun (st_a e38 rfl) _).trans e34.symm)).symm
            subst q46
            refine fun v47 e48 => ?_
            refine And.intro (by omega) (fun A49 e50 => ?_)
            have i51 := iva_sf i39 e50 rfl
            have j52 := ivf_st j40 e50 (And.intro (by omega) trivial)
            have f53 := frm_sf f41 e50 rfl
            have t54 := st_v e50
            refine fun v55 e56 => ?_
            exact And.intro (by omega) (Exists.intro (48 - v55 : Int).toNat (And.intro (by omega) (And.intro i51 (And.intro j52 (And.intro f53 (And.intro rfl (And.intro (by omega) (And.intro (by omega) (And.intro (by omega) (And.intro (by omega) (by omega)))))))))))
          · exact And.intro (by omega) (hK _ i1 j1 f1 _ (by omega) (by omega) (by first | assumption | omega | simp_all))
        · refine fun v57 e58 => ?_
          exact And.intro (by omega) (Exists.intro (48 - v57 : Int).toNat (And.intro (by omega) (And.intro i1 (And.intro j1 (And.intro f1 (And.intro rfl (And.intro (by omega) (And.intro (by omega) (And.intro (by omega) (And.intro (by omega) (by omega)))))))))))
  · refine fun (v3 : Int) (e4 : v3 = 0) => ?_
    refine fun v5 e6 => ?_
    refine And.intro (fun h7 => ?_) (fun h7 => ?_)
    · exact And.intro (by omega) (hK _ i0 j0 f0 _ (by omega) (by omega) (by first | assumption | omega | simp_all))
    · refine fun v8 e9 => ?_
      refine And.intro (fun h10 => ?_) (fun h10 => ?_)
      · refine fun A11 e12 => ?_
        have i13 := iva_sf i0 e12 rfl
        have j14 := ivf_st j0 e12 (And.intro (by omega) trivial)
        have f15 := frm_sf f0 e12 rfl
        have t16 := st_v e12
        exact Exists.intro (48 - 0 : Int).toNat (And.intro i13 (And.intro j14 (And.intro f15 (And.intro rfl (And.intro (by omega) (And.intro (by omega) (And.intro (by omega) (And.intro (by omega) (by omega)))))))))
      · exact And.intro (by omega) (hK _ i0 j0 f0 _ (by omega) (by omega) (by first | assumption | omega | simp_all))
def sM_mayBe : qS := fun as A K => ∃ w c : Int, as = [rf 0, ni w, ni c] ∧ (iva IM A ∧ ivf JM A ∧ 1 ≤ w ∧ w ≤ 99 ∧ 0 ≤ c ∧ c ≤ 47) ∧ (∀ r : Int, 0 ≤ r → r ≤ 1 → K (some (ni r)) A)
theorem okM_mayBe : okM LM 1 218 sM_mayBe := by
  refine qmeth [] false [] 24 rfl trivial ?_
  rintro _ A K hA has ⟨w, c, rfl, ⟨i0, j0, p1, p2, p3, p4⟩, hK⟩
  have rg_w : rng w := has (ni w) (by simp)
  have rg_c : rng c := has (ni c) (by simp)
  have f0 := frm_0 [] [] A
  refine ⟨Nat.le_of_ble_eq_true rfl, [], trivial, ?_⟩
  refine And.intro (by omega) (fun v5 e6 => ?_)
  have h7 := qm_nn (a := c) (b := 6) (by omega)
  refine fun v8 e9 => ?_
  refine fun v10 e11 => ?_
  refine And.intro (by omega) (fun v12 e13 => ?_)
  have h14 := qd_nn (a := c) (b := 6) (by omega)
  refine And.intro (by omega) (fun v15 gv15 e16 => ?_)
  have b17 := iva_at i0 8 rfl (i := v12) (by omega) (by omega)
  refine And.intro (by omega) (And.intro (fun h18 => ?_) (fun h18 => ?_))
  · exact And.intro (by omega) (hK _ (by omega) (by omega))
  · exact And.intro (by omega) (hK _ (by omega) (by omega))
def sM_mayWork : qS := fun as A K => ∃ w c l : Int, as = [rf 0, ni w, ni c, ni l] ∧ (iva IM A ∧ ivf JM A) ∧ (∀ r : Int, (-1) ≤ r → r ≤ 1 → K (some (ni r)) A)
theorem okM_mayWork : okM LM 3 219 sM_mayWork := by
  refine qmeth [] false [(145, sM_in), (148, sM_isCell), (149, sM_at), (218, sM_mayBe)] 28 rfl ⟨okM_in.le (by decide), ⟨okM_isCell.le (by decide), ⟨okM_at.le (by decide), ⟨okM_mayBe.le (by decide), trivial⟩⟩⟩⟩ ?_
  rintro _ A K hA has ⟨w, c, l, rfl, ⟨i0, j0⟩, hK⟩
  have rg_w : rng w := has (ni w) (by simp)
  have rg_c : rng c := has (ni c) (by simp)
  have rg_l : rng l := has (ni l) (by simp)
  have f0 := frm_0 [] [] A
  refine ⟨Nat.le_of_ble_eq_true rfl, [], trivial, ?_⟩
  refine Exists.intro w (Exists.intro 1 (Exists.intro 99 (And.intro rfl (And.intro (fun h1 => ?_) (fun h1 => ?_)))))
  · refine And.intro (fun h2 => by exfalso; omega) (fun h2 => ?_)
    refine Exists.intro c (Exists.intro l (And.intro rfl (And.intro (fun h3 => ?_) (fun h3 => ?_))))
    · refine And.intro (fun h4 => ?_) (fun h4 => by exfalso; omega)
      refine Exists.intro c (Exists.intro l (And.intro rfl (And.intro (And.intro (by omega) (And.intro (by omega) (And.intro (by omega) (by omega)))) ?_)))
      refine Exists.intro w (Exists.intro (6 * c + l) (And.intro rfl (And.intro (And.intro i0 (And.intro j0 (And.intro (by omega) (And.intro (by omega) (And.intro (by omega) (by omega)))))) (fun r5 g6 g7 => ?_))))
      refine And.intro (fun h8 => ?_) (fun h8 => ?_)
      · exact hK _ (by omega) (by omega)
      · exact hK _ (by omega) (by omega)
    · refine And.intro (fun h9 => by exfalso; omega) (fun h9 => ?_)
      exact hK _ (by omega) (by omega)
  · refine And.intro (fun h10 => ?_) (fun h10 => by exfalso; omega)
    exact hK _ (by omega) (by omega)
def sM_apart : qS := fun as A K => ∃ a b : Int, as = [ni a, ni b] ∧ (0 ≤ a ∧ a ≤ 47 ∧ 0 ≤ b ∧ b ≤ 47) ∧ (∀ r : Int, 0 ≤ r → r ≤ 47 → K (some (ni r)) A)
theorem okM_apart : okM LM 1 220 sM_apart := by
  refine qmeth [] false [] 17 rfl trivial ?_
  rintro _ A K hA has ⟨a, b, rfl, ⟨p1, p2, p3, p4⟩, hK⟩
  have rg_a : rng a := has (ni a) (by simp)
  have rg_b : rng b := has (ni b) (by simp)
  refine ⟨Nat.le_of_ble_eq_true rfl, [], trivial, ?_⟩
  refine And.intro (fun h5 => ?_) (fun h5 => ?_)
  · refine fun v6 e7 => ?_
    exact And.intro (by omega) (hK _ (by omega) (by omega))
  · refine fun v8 e9 => ?_
    exact And.intro (by omega) (hK _ (by omega) (by omega))
def sM_way : qS := fun as A K => ∃ a b : Int, as = [ni a, ni b] ∧ (0 ≤ a ∧ a ≤ 47 ∧ 0 ≤ b ∧ b ≤ 47) ∧ (∀ r : Int, 0 ≤ r → r ≤ 300 → K (some (ni r)) A)
theorem okM_way : okM LM 2 221 sM_way := by
  refine qmeth [] false [(220, sM_apart)] 26 rfl ⟨okM_apart.le (by decide), trivial⟩ ?_
  rintro _ A K hA has ⟨a, b, rfl, ⟨p1, p2, p3, p4⟩, hK⟩
  have rg_a : rng a := has (ni a) (by simp)
  have rg_b : rng b := has (ni b) (by simp)
  refine ⟨Nat.le_of_ble_eq_true rfl, [], trivial, ?_⟩
  refine And.intro (by omega) (fun v5 e6 => ?_)
  have h7 := qd_nn (a := a) (b := 6) (by omega)
  refine And.intro (by omega) (fun v8 e9 => ?_)
  have h10 := qd_nn (a := b) (b := 6) (by omega)
  refine And.intro (by omega) (And.intro (by omega) (Exists.intro v5 (Exists.intro v8 (And.intro rfl (And.intro (And.intro (by omega) (And.intro (by omega) (And.intro (by omega) (by omega)))) (fun r11 g12 g13 => ?_))))))
  refine fun v14 e15 => ?_
  refine And.intro (by omega) (fun v16 e17 => ?_)
  have h18 := qm_nn (a := a) (b := 6) (by omega)
  refine And.intro (by omega) (fun v19 e20 => ?_)
  have h21 := qm_nn (a := b) (b := 6) (by omega)
  refine Exists.intro v16 (Exists.intro v19 (And.intro rfl (And.intro (And.intro (by omega) (And.intro (by omega) (And.intro (by omega) (by omega)))) (fun r22 g23 g24 => ?_))))
  refine fun v25 e26 => ?_
  refine fun v27 e28 => ?_
  exact And.intro (by omega) (hK _ (by omega) (by omega))
