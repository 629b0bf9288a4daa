def sC_isTold : qS := fun as A K => ∃ x c : Int, as = [nl x, ni c] ∧ (∀ r : Int, 0 ≤ r → r ≤ 1 → K (some (ni r)) A)
theorem okC_isTold : okM LC 1 142 sC_isTold := by
  refine qmeth [] false [] 18 rfl trivial ?_
  rintro _ A K hA has ⟨x, c, rfl, hK⟩
  have rg_x : rngL x := has (nl x) (by simp)
  have rg_c : rng c := has (ni c) (by simp)
  refine ⟨Nat.le_of_ble_eq_true rfl, [], trivial, ?_⟩
  refine fun v1 e2 => ?_
  refine fun (v3 : Int) (e4 : v3 = 1) => ?_
  refine fun v5 e6 => ?_
  refine fun (v7 : Int) (e8 : v7 = 0) => ?_
  refine fun v9 e10 => ?_
  refine And.intro (fun h11 => ?_) (fun h11 => ?_)
  · exact And.intro (by omega) (hK _ (by omega) (by omega))
  · exact And.intro (by omega) (hK _ (by omega) (by omega))
def sC_toldCells : qS := fun as A K => ∃ x t : Int, as = [nl x, ni t] ∧ (∀ r : Int, rng r → K (some (ni r)) A)
theorem okC_toldCells : okM LC 2 143 sC_toldCells := by
  refine qmeth [] true [(249, sC_bitsL)] 22 rfl ⟨okC_bitsL.le (by decide), trivial⟩ ?_
  rintro _ A K hA has ⟨x, t, rfl, hK⟩
  have rg_x : rngL x := has (nl x) (by simp)
  have rg_t : rng t := has (ni t) (by simp)
  refine ⟨Nat.le_of_ble_eq_true rfl, [], trivial, ?_⟩
  refine Exists.intro x (And.intro rfl (fun r1 g2 => ?_))
  refine fun v3 e4 => ?_
  refine fun (v5 : Int) (e6 : v5 = 0) => ?_
  refine fun v7 e8 => ?_
  refine And.intro (fun h9 => ?_) (fun h9 => ?_)
  · exact hK _ (by first | exact wI_rng _ | omega | (exact (hA _ _).2 rfl))
  · refine And.intro (fun h10 => ?_) (fun h10 => ?_)
    · exact hK _ (by first | exact wI_rng _ | omega | (exact (hA _ _).2 rfl))
    · exact hK _ (by first | exact wI_rng _ | omega | (exact (hA _ _).2 rfl))
def sC_hoursBetween : qS := fun as A K => ∃ a b : Int, as = [ni a, ni b] ∧ (0 ≤ a ∧ a ≤ 47 ∧ 0 ≤ b ∧ b ≤ 47) ∧ (∀ r : Int, 0 ≤ r → r ≤ 19 → K (some (ni r)) A)
theorem okC_hoursBetween : okM LC 1 65 sC_hoursBetween := by
  refine qmeth [] false [] 26 rfl trivial ?_
  rintro _ A K hA has ⟨a, b, rfl, ⟨p1, p2, p3, p4⟩, hK⟩
  have rg_a : rng a := has (ni a) (by simp)
  have rg_b : rng b := has (ni b) (by simp)
  refine ⟨Nat.le_of_ble_eq_true rfl, [], trivial, ?_⟩
  refine And.intro (by omega) (fun v5 e6 => ?_)
  have h7 := qd_nn (a := a) (b := 6) (by omega)
  refine And.intro (by omega) (fun v8 e9 => ?_)
  have h10 := qd_nn (a := b) (b := 6) (by omega)
  refine fun v11 e12 => ?_
  refine And.intro (by omega) ((And.intro (by omega) (fun v13 e14 => ?_)))
  have h15 := abs_bd v11
  rw [← e14] at h15
  refine fun v16 e17 => ?_
  refine And.intro (by omega) (fun v18 e19 => ?_)
  have h20 := qm_nn (a := a) (b := 6) (by omega)
  refine And.intro (by omega) (fun v21 e22 => ?_)
  have h23 := qm_nn (a := b) (b := 6) (by omega)
  refine fun v24 e25 => ?_
  refine And.intro (by omega) ((And.intro (by omega) (fun v26 e27 => ?_)))
  have h28 := abs_bd v24
  rw [← e27] at h28
  refine fun v29 e30 => ?_
  exact And.intro (by omega) (hK _ (by omega) (by omega))
def sC_tell : qS := fun as A K => ∃ x : Int, as = [rf 55, nl x] ∧ (iva IC A ∧ ivf JC A) ∧ (∀ A' : qA, iva IC A' → ivf JC A' → frm [56] [(55, 7)] A A' → K none A')
theorem okC_tell : okM LC 2 63 sC_tell := by
  refine qmeth [] false [(142, sC_isTold)] 37 rfl ⟨okC_isTold.le (by decide), trivial⟩ ?_
  rintro _ A K hA has ⟨x, rfl, ⟨i0, j0⟩, hK⟩
  have rg_x : rngL x := has (nl x) (by simp)
  have f0 := frm_0 [56] [(55, 7)] A
  refine ⟨Nat.le_of_ble_eq_true rfl, [(5, [(0, 2, 55), (1, 1, 0), (3, 0, 0)], fun zs B nn => match zs with | [l1, k] => iva IC B ∧ ivf JC B ∧ frm [56] [(55, 7)] A B ∧ nn = (48 - k : Int).toNat ∧ (l1 = x) ∧ (0 ≤ k) ∧ (k ≤ 48) | _ => False)], ?_, ?_⟩
  · refine ⟨⟨rfl, ?_⟩, trivial⟩
    · refine fun l1 k B mm hB hz hI => ?_
      obtain ⟨i1, j1, f1, hm, c0, c1, c2⟩ := hI
      obtain ⟨hz_l1, hz_k, _⟩ := hz
      refine And.intro (fun h6 => ?_) (fun h6 => ?_)
      · exact hK _ i1 j1 f1
      · refine Exists.intro l1 (Exists.intro k (And.intro rfl (fun r7 g8 g9 => ?_)))
        refine And.intro (fun h10 => ?_) (fun h10 => ?_)
        · refine fun v11 e12 => ?_
          exact And.intro (by omega) (Exists.intro (48 - v11 : Int).toNat (And.intro (by omega) (And.intro i1 (And.intro j1 (And.intro f1 (And.intro rfl (And.intro (by omega) (And.intro (by omega) (by omega)))))))))
        · refine fun v13 gv13 e14 => ?_
          have b15 := ivf_at j1 5 rfl
          refine And.intro (fun h16 => ?_) (fun h16 => ?_)
          · refine fun v17 e18 => ?_
            exact And.intro (by omega) (Exists.intro (48 - v17 : Int).toNat (And.intro (by omega) (And.intro i1 (And.intro j1 (And.intro f1 (And.intro rfl (And.intro (by omega) (And.intro (by omega) (by omega)))))))))
          · refine fun v19 gv19 e20 => ?_
            have b21 := ivf_at j1 5 rfl
            have q22 : v13 = v19 := (e20.trans e14.symm).symm
            subst q22
            refine And.intro (by omega) (fun A23 e24 => ?_)
            have i25 := iva_st i1 e24 (And.intro (by omega) trivial)
            have j26 := ivf_sa j1 e24 rfl
            have f27 := frm_s f1 e24 rfl
            refine fun v28 gv28 e29 => ?_
            have b30 := ivf_at j26 5 rfl
            have q31 : v13 = v28 := (e29.trans ((congrFun (st_a e24 rfl) _).trans e20.symm)).symm
            subst q31
            refine fun v32 e33 => ?_
            refine And.intro (by omega) (fun A34 e35 => ?_)
            have i36 := iva_sf i25 e35 rfl
            have j37 := ivf_st j26 e35 (And.intro (by omega) trivial)
            have f38 := frm_sf f27 e35 rfl
            refine fun v39 e40 => ?_
            exact And.intro (by omega) (Exists.intro (48 - v39 : Int).toNat (And.intro (by omega) (And.intro i36 (And.intro j37 (And.intro f38 (And.intro rfl (And.intro (by omega) (And.intro (by omega) (by omega)))))))))
  · refine fun A1 e2 => ?_
    have i3 := iva_sf i0 e2 rfl
    have j4 := ivf_st j0 e2 (And.intro (by omega) trivial)
    have f5 := frm_sf f0 e2 rfl
    exact Exists.intro (48 - 0 : Int).toNat (And.intro i3 (And.intro j4 (And.intro f5 (And.intro rfl (And.intro (by omega) (And.intro (by omega) (by omega)))))))
def sC_asWork : qS := fun as A K => ∃ c : Int, as = [rf 55, ni c] ∧ (iva IC A ∧ ivf JC A ∧ 0 ≤ c ∧ c ≤ 7) ∧ (∀ A' : qA, iva IC A' → ivf JC A' → frm [57, 58, 59, 60] [] A A' → K none A')
theorem okC_asWork : okM LC 2 64 sC_asWork := by
  refine qmeth [] false [(65, sC_hoursBetween)] 73 rfl ⟨okC_hoursBetween.le (by decide), trivial⟩ ?_
  rintro _ A K hA has ⟨c, rfl, ⟨i0, j0, p1, p2⟩, hK⟩
  have rg_c : rng c := has (ni c) (by simp)
  have f0 := frm_0 [57, 58, 59, 60] [] A
  refine ⟨Nat.le_of_ble_eq_true rfl, [(2, [(0, 2, 55), (1, 0, 0), (2, 0, 0)], fun zs B nn => match zs with | [l1, x] => iva IC B ∧ ivf JC B ∧ frm [57, 58, 59, 60] [] A B ∧ nn = ((8 - x) * 100 + 50 : Int).toNat ∧ (l1 = c) ∧ (0 ≤ x) ∧ (x ≤ 8) | _ => False), (8, [(0, 2, 55), (1, 0, 0), (2, 0, 0), (3, 0, 0)], fun zs B nn => match zs with | [l1, x, y] => iva IC B ∧ ivf JC B ∧ frm [57, 58, 59, 60] [] A B ∧ nn = ((8 - x) * 100 + 8 - y : Int).toNat ∧ (l1 = c) ∧ (0 ≤ x) ∧ (x ≤ 7) ∧ (0 ≤ y) ∧ (y ≤ 8) | _ => False)], ?_, ?_⟩
  · refine ⟨⟨rfl, ?_⟩, ⟨rfl, ?_⟩, trivial⟩
    · refine fun l1 x B mm hB hz hI => ?_
      obtain ⟨i1, j1, f1, hm, c0, c1, c2⟩ := hI
      obtain ⟨hz_l1, hz_x, _⟩ := hz
      refine fun v3 gv3 e4 => ?_
      have b5 := ivf_at j1 5 rfl
      refine And.intro (fun h6 => ?_) (fun h6 => ?_)
      · exact hK _ i1 j1 f1
      · exact Exists.intro ((8 - x) * 100 + 8 - 0 : Int).toNat (And.intro (by omega) (And.intro i1 (And.intro j1 (And.intro f1 (And.intro rfl (And.intro (by omega) (And.intro (by omega) (And.intro (by omega) (And.intro (by omega) (by omega))))))))))
    · refine fun l1 x y B mm hB hz hI => ?_
      obtain ⟨i1, j1, f1, hm, c0, c1, c2, c3, c4⟩ := hI
      obtain ⟨hz_l1, hz_x, hz_y, _⟩ := hz
      refine fun v7 gv7 e8 => ?_
      have b9 := ivf_at j1 5 rfl
      refine And.intro (fun h10 => ?_) (fun h10 => ?_)
      · refine fun v11 e12 => ?_
        refine fun v13 e14 => ?_
        refine And.intro (by omega) (fun v15 gv15 e16 => ?_)
        have b17 := iva_at i1 27 rfl (i := x) (by omega) (by omega)
        refine And.intro (by omega) (Exists.intro v13 (Exists.intro v15 (And.intro rfl (And.intro (And.intro (by omega) (And.intro (by omega) (And.intro (by omega) (by omega)))) (fun r18 g19 g20 => ?_)))))
        refine fun v21 e22 => ?_
        refine And.intro (by omega) (And.intro (by omega) (fun A23 e24 => ?_))
        have i25 := iva_st i1 e24 trivial
        have j26 := ivf_sa j1 e24 rfl
        have f27 := frm_s f1 e24 rfl
        refine And.intro (by omega) (fun A28 e29 => ?_)
        have i30 := iva_st i25 e29 (And.intro (by omega) trivial)
        have j31 := ivf_sa j26 e29 rfl
        have f32 := frm_s f27 e29 rfl
        refine And.intro (by omega) (fun A33 e34 => ?_)
        have i35 := iva_st i30 e34 (And.intro (by omega) trivial)
        have j36 := ivf_sa j31 e34 rfl
        have f37 := frm_s f32 e34 rfl
        refine And.intro (by omega) (fun A38 e39 => ?_)
        have i40 := iva_st i35 e39 trivial
        have j41 := ivf_sa j36 e39 rfl
        have f42 := frm_s f37 e39 rfl
        refine fun v43 e44 => ?_
        exact And.intro (by omega) (Exists.intro ((8 - v43) * 100 + 50 : Int).toNat (And.intro (by omega) (And.intro i40 (And.intro j41 (And.intro f42 (And.intro rfl (And.intro (by omega) (And.intro (by omega) (by omega)))))))))
      · refine fun v45 e46 => ?_
        refine fun v47 e48 => ?_
        refine And.intro (by omega) (fun v49 gv49 e50 => ?_)
        have b51 := iva_at i1 27 rfl (i := y) (by omega) (by omega)
        refine And.intro (by omega) (fun v52 gv52 e53 => ?_)
        have b54 := iva_at i1 27 rfl (i := x) (by omega) (by omega)
        refine Exists.intro v49 (Exists.intro v52 (And.intro rfl (And.intro (And.intro (by omega) (And.intro (by omega) (And.intro (by omega) (by omega)))) (fun r55 g56 g57 => ?_))))
        refine fun v58 e59 => ?_
        refine And.intro (by omega) (And.intro (by omega) (fun A60 e61 => ?_))
        have i62 := iva_st i1 e61 trivial
        have j63 := ivf_sa j1 e61 rfl
        have f64 := frm_s f1 e61 rfl
        refine fun v65 e66 => ?_
        exact And.intro (by omega) (Exists.intro ((8 - x) * 100 + 8 - v65 : Int).toNat (And.intro (by omega) (And.intro i62 (And.intro j63 (And.intro f64 (And.intro rfl (And.intro (by omega) (And.intro (by omega) (And.intro (by omega) (And.intro (by omega) (by omega)))))))))))
  · exact Exists.intro ((8 - 0) * 100 + 50 : Int).toNat (And.intro i0 (And.intro j0 (And.intro f0 (And.intro rfl (And.intro (by omega) (And.intro (by omega) (by omega)))))))
def sC_asMending : qS := fun as A K => as = [rf 55, rf 22] ∧ (iva IC A ∧ ivf JC A) ∧ (∀ A' : qA, iva IC A' → ivf JC A' → frm [57, 58, 59, 60] [] A A' → K none A')
theorem okC_asMending : okM LC 2 66 sC_asMending := by
  refine qmeth [] false [(250, sC_fill57)] 79 rfl ⟨okC_fill57.le (by decide), trivial⟩ ?_
  rintro _ A K hA has ⟨rfl, ⟨i0, j0⟩, hK⟩
  have f0 := frm_0 [57, 58, 59, 60] [] A
  refine ⟨Nat.le_of_ble_eq_true rfl, [(6, [(0, 2, 55), (1, 2, 22), (2, 0, 0)], fun zs B nn => match zs with | [x] => iva IC B ∧ ivf JC B ∧ frm [57, 58, 59, 60] [] A B ∧ nn = (8 - x : Int).toNat ∧ (0 ≤ x) ∧ (x ≤ 8) | _ => False)], ?_, ?_⟩
  · refine ⟨⟨rfl, ?_⟩, trivial⟩
    · refine fun x B mm hB hz hI => ?_
      obtain ⟨i1, j1, f1, hm, c0, c1⟩ := hI
      obtain ⟨hz_x, _⟩ := hz
      refine fun v6 gv6 e7 => ?_
      have b8 := ivf_at j1 5 rfl
      refine And.intro (fun h9 => ?_) (fun h9 => ?_)
      · exact hK _ i1 j1 f1
      · refine And.intro (by omega) (fun v10 gv10 e11 => ?_)
        have b12 := iva_at i1 27 rfl (i := x) (by omega) (by omega)
        refine And.intro (by omega) (fun v13 e14 => ?_)
        have h15 := qm_nn (a := v10) (b := 6) (by omega)
        refine And.intro (by omega) (fun v16 gv16 e17 => ?_)
        have b18 := iva_at i1 27 rfl (i := x) (by omega) (by omega)
        have q19 : v10 = v16 := (e17.trans e11.symm).symm
        subst q19
        refine And.intro (by omega) (fun v20 e21 => ?_)
        have h22 := qd_nn (a := v10) (b := 6) (by omega)
        refine And.intro (by omega) (fun v23 gv23 e24 => ?_)
        have b25 := iva_at i1 16 rfl (i := v20) (by omega) (by omega)
        refine And.intro (by omega) (fun A26 e27 => ?_)
        have i28 := iva_st i1 e27 (And.intro (by omega) trivial)
        have j29 := ivf_sa j1 e27 rfl
        have f30 := frm_s f1 e27 rfl
        refine fun v31 e32 => ?_
        refine And.intro (by omega) (And.intro (by omega) (fun A33 e34 => ?_))
        have i35 := iva_st i28 e34 (And.intro (by omega) trivial)
        have j36 := ivf_sa j29 e34 rfl
        have f37 := frm_s f30 e34 rfl
        refine And.intro (fun h38 => ?_) (fun h38 => ?_)
        · refine And.intro (fun h39 => ?_) (fun h39 => by exfalso; omega)
          refine And.intro (by omega) (fun A40 e41 => ?_)
          have i42 := iva_st i35 e41 trivial
          have j43 := ivf_sa j36 e41 rfl
          have f44 := frm_s f37 e41 rfl
          refine fun v45 e46 => ?_
          exact And.intro (by omega) (Exists.intro (8 - v45 : Int).toNat (And.intro (by omega) (And.intro i42 (And.intro j43 (And.intro f44 (And.intro rfl (And.intro (by omega) (by omega))))))))
        · refine And.intro (fun h47 => ?_) (fun h47 => ?_)
          · refine And.intro (fun h48 => ?_) (fun h48 => by exfalso; omega)
            refine And.intro (by omega) (fun A49 e50 => ?_)
            have i51 := iva_st i35 e50 trivial
            have j52 := ivf_sa j36 e50 rfl
            have f53 := frm_s f37 e50 rfl
            refine fun v54 e55 => ?_
            exact And.intro (by omega) (Exists.intro (8 - v54 : Int).toNat (And.intro (by omega) (And.intro i51 (And.intro j52 (And.intro f53 (And.intro rfl (And.intro (by omega) (by omega))))))))
          · refine fun v56 e57 => ?_
            refine And.intro (by omega) (fun v58 gv58 e59 => ?_)
            have b60 := iva_at i35 27 rfl (i := v56) (by omega) (by omega)
            refine And.intro (by omega) (fun v61 gv61 e62 => ?_)
            have b63 := iva_at i35 27 rfl (i := x) (by omega) (by omega)
            have q64 : v10 = v61 := (e62.trans ((congrFun (Eq.trans (st_a e34 rfl) (st_a e27 rfl)) _).trans e17.symm)).symm
            subst q64
            refine fun v65 e66 => ?_
            refine And.intro (by omega) (And.intro (fun h67 => ?_) (fun h67 => ?_))
            · refine And.intro (fun h68 => ?_) (fun h68 => by exfalso; omega)
              refine And.intro (by omega) (fun A69 e70 => ?_)
              have i71 := iva_st i35 e70 trivial
              have j72 := ivf_sa j36 e70 rfl
              have f73 := frm_s f37 e70 rfl
              refine fun v74 e75 => ?_
              exact And.intro (by omega) (Exists.intro (8 - v74 : Int).toNat (And.intro (by omega) (And.intro i71 (And.intro j72 (And.intro f73 (And.intro rfl (And.intro (by omega) (by omega))))))))
            · refine And.intro (fun h76 => by exfalso; omega) (fun h76 => ?_)
              refine fun v77 e78 => ?_
              refine fun v79 e80 => ?_
              have h81 := sl_bd (b := v77) 6 (by decide) (by omega) (by omega)
              refine And.intro (by omega) (fun A82 e83 => ?_)
              have i84 := iva_st i35 e83 trivial
              have j85 := ivf_sa j36 e83 rfl
              have f86 := frm_s f37 e83 rfl
              refine fun v87 e88 => ?_
              exact And.intro (by omega) (Exists.intro (8 - v87 : Int).toNat (And.intro (by omega) (And.intro i84 (And.intro j85 (And.intro f86 (And.intro rfl (And.intro (by omega) (by omega))))))))
  · refine Exists.intro 0 (And.intro rfl (And.intro (And.intro i0 j0) (fun A1 i2 j3 f4 => ?_)))
    have f5 := frm_c f0 f4 rfl
    exact Exists.intro (8 - 0 : Int).toNat (And.intro i2 (And.intro j3 (And.intro f5 (And.intro rfl (And.intro (by omega) (by omega))))))
def sC_spentOn : qS := fun as A K => ∃ d : Int, as = [rf 55, ni d] ∧ (iva IC A ∧ ivf JC A ∧ 0 ≤ d ∧ d ≤ 255) ∧ (∀ r : Int, rng r → K (some (ni r)) A)
theorem okC_spentOn : okM LC 1 68 sC_spentOn := by
  refine qmeth [] true [] 31 rfl trivial ?_
  rintro _ A K hA has ⟨d, rfl, ⟨i0, j0, p1, p2⟩, hK⟩
  have rg_d : rng d := has (ni d) (by simp)
  have f0 := frm_0 [] [] A
  refine ⟨Nat.le_of_ble_eq_true rfl, [(4, [(0, 2, 55), (1, 0, 0), (2, 0, 0), (3, 0, 0)], fun zs B nn => match zs with | [l1, s, k] => A = B ∧ nn = (8 - k : Int).toNat ∧ (l1 = d) ∧ (0 ≤ k) ∧ (k ≤ 8) | _ => False)], ?_, ?_⟩
  · refine ⟨⟨rfl, ?_⟩, trivial⟩
    · refine fun l1 s k B mm hB hz hI => ?_
      obtain ⟨rfl, hm, c0, c1, c2⟩ := hI
      obtain ⟨hz_l1, hz_s, hz_k, _⟩ := hz
      refine fun v3 gv3 e4 => ?_
      have b5 := ivf_at j0 5 rfl
      refine And.intro (fun h6 => ?_) (fun h6 => ?_)
      · exact hK _ (by first | exact wI_rng _ | omega | (exact (hA _ _).2 rfl))
      · refine fun v7 e8 => ?_
        have h9 := sr_bd (a := l1) (b := k) (by omega) (by omega)
        refine fun v10 e11 => ?_
        have h12 := ia_bd (a := v7) (b := 1) (by omega) (by omega)
        refine And.intro (fun h13 => ?_) (fun h13 => ?_)
        · refine fun v14 e15 => ?_
          have w16 := wI_rng v14
          have w17 : wI v14 = v14 := wI_id (by omega)
          exact Exists.intro (8 - ((wI v14)) : Int).toNat (And.intro (by omega) (And.intro rfl (And.intro rfl (And.intro (by omega) (And.intro (by omega) (by omega))))))
        · refine And.intro (by omega) (fun v18 gv18 e19 => ?_)
          have b20 := iva_at i0 29 rfl (i := k) (by omega) (by omega)
          refine fun v21 e22 => ?_
          refine fun v23 e24 => ?_
          have w25 := wI_rng v21
          have w26 := wI_rng v23
          have w27 : wI v23 = v23 := wI_id (by omega)
          exact Exists.intro (8 - ((wI v23)) : Int).toNat (And.intro (by omega) (And.intro rfl (And.intro rfl (And.intro (by omega) (And.intro (by omega) (by omega))))))
  · exact Exists.intro (8 - 0 : Int).toNat (And.intro rfl (And.intro rfl (And.intro (by omega) (And.intro (by omega) (by omega)))))
def sC_costVia : qS := fun as A K => ∃ d l k s : Int, as = [rf 55, ni d, ni l, ni k, ni s] ∧ (iva IC A ∧ ivf JC A ∧ 0 ≤ d ∧ d ≤ 255 ∧ 0 ≤ l ∧ l ≤ 8 ∧ 0 ≤ k ∧ k ≤ 7) ∧ (∀ r : Int, rng r → K (some (ni r)) A)
theorem okC_costVia : okM LC 1 70 sC_costVia := by
  refine qmeth [] true [] 59 rfl trivial ?_
  rintro _ A K hA has ⟨d, l, k, s, rfl, ⟨i0, j0, p1, p2, p3, p4, p5, p6⟩, hK⟩
  have rg_d : rng d := has (ni d) (by simp)
  have rg_l : rng l := has (ni l) (by simp)
  have rg_k : rng k := has (ni k) (by simp)
  have rg_s : rng s := has (ni s) (by simp)
  have f0 := frm_0 [] [] A
  refine ⟨Nat.le_of_ble_eq_true rfl, [], trivial, ?_⟩
  refine fun v7 e8 => ?_
  have h9 := sr_bd (a := d) (b := k) (by omega) (by omega)
  refine fun v10 e11 => ?_
  have h12 := ia_bd (a := v7) (b := 1) (by omega) (by omega)
  refine And.intro (fun h13 => ?_) (fun h13 => ?_)
  · have k14 : qn 1000000000 = 1000000000 := by decide
    exact hK _ (by first | exact wI_rng _ | omega | (exact (hA _ _).2 rfl))
  · refine And.intro (by omega) (fun v15 gv15 e16 => ?_)
    refine fun v17 e18 => ?_
    refine fun v19 e20 => ?_
    refine And.intro (fun h22 => ?_) (fun h22 => ?_)
    · refine fun v23 e24 => ?_
      refine fun v25 e26 => ?_
      refine And.intro (by omega) (fun v27 gv27 e28 => ?_)
      refine And.intro (by omega) (fun v29 gv29 e30 => ?_)
      have b31 := iva_at i0 28 rfl (i := k) (by omega) (by omega)
      refine And.intro (by omega) (fun v32 gv32 e33 => ?_)
      have b34 := iva_at i0 29 rfl (i := k) (by omega) (by omega)
      refine fun v35 e36 => ?_
      refine fun v37 e38 => ?_
      refine fun v39 e40 => ?_
      refine fun v41 e42 => ?_
      have h43 := sl_bd (b := k) 7 (by decide) (by omega) (by omega)
      refine fun v44 e45 => ?_
      have h46 := io_bd (a := d) (b := v41) 8 (by decide) (by omega) (by omega) (by omega) (by omega)
      refine fun v47 e48 => ?_
      refine fun v49 e50 => ?_
      refine And.intro (by omega) (fun v51 gv51 e52 => ?_)
      refine fun v53 e54 => ?_
      have w55 := wI_rng v53
      exact hK _ (by first | exact wI_rng _ | omega | (exact (hA _ _).2 rfl))
    · have k56 : qn 1000000000 = 1000000000 := by decide
      exact hK _ (by first | exact wI_rng _ | omega | (exact (hA _ _).2 rfl))
def sC_leastOnward : qS := fun as A K => ∃ d l s : Int, as = [rf 55, ni d, ni l, ni s] ∧ (iva IC A ∧ ivf JC A ∧ 0 ≤ d ∧ d ≤ 255 ∧ 0 ≤ l ∧ l ≤ 8) ∧ (∀ r : Int, rng r → K (some (ni r)) A)
theorem okC_leastOnward : okM LC 2 69 sC_leastOnward := by
  refine qmeth [] true [(70, sC_costVia)] 27 rfl ⟨okC_costVia.le (by decide), trivial⟩ ?_
  rintro _ A K hA has ⟨d, l, s, rfl, ⟨i0, j0, p1, p2, p3, p4⟩, hK⟩
  have rg_d : rng d := has (ni d) (by simp)
  have rg_l : rng l := has (ni l) (by simp)
  have rg_s : rng s := has (ni s) (by simp)
  have f0 := frm_0 [] [] A
  refine ⟨Nat.le_of_ble_eq_true rfl, [(4, [(0, 2, 55), (1, 0, 0), (2, 0, 0), (3, 0, 0), (4, 0, 0), (5, 0, 0)], fun zs B nn => match zs with | [l1, l2, l3, b, k] => A = B ∧ nn = (8 - k : Int).toNat ∧ (l1 = d) ∧ (l2 = l) ∧ (l3 = s) ∧ (0 ≤ k) ∧ (k ≤ 8) | _ => False)], ?_, ?_⟩
  · refine ⟨⟨rfl, ?_⟩, trivial⟩
    · refine fun l1 l2 l3 b k B mm hB hz hI => ?_
      obtain ⟨rfl, hm, c0, c1, c2, c3, c4⟩ := hI
      obtain ⟨hz_l1, hz_l2, hz_l3, hz_b, hz_k, _⟩ := hz
      refine fun v6 gv6 e7 => ?_
      have b8 := ivf_at j0 5 rfl
      refine And.intro (fun h9 => ?_) (fun h9 => ?_)
      · exact hK _ (by first | exact wI_rng _ | omega | (exact (hA _ _).2 rfl))
      · refine Exists.intro l1 (Exists.intro l2 (Exists.intro k (Exists.intro l3 (And.intro rfl (And.intro (And.intro i0 (And.intro j0 (And.intro (by omega) (And.intro (by omega) (And.intro (by omega) (And.intro (by omega) (And.intro (by omega) (by omega)))))))) (fun r10 g11 => ?_))))))
        refine (fun v12 e13 => ?_)
        refine fun v14 e15 => ?_
        have w16 := wI_rng v14
        have w17 : wI v14 = v14 := wI_id (by omega)
        exact Exists.intro (8 - ((wI v14)) : Int).toNat (And.intro (by omega) (And.intro rfl (And.intro rfl (And.intro (by omega) (And.intro (by omega) (And.intro (by omega) (And.intro (by omega) (by omega))))))))
  · have k5 : qn 1000000000 = 1000000000 := by decide
    exact Exists.intro (8 - 0 : Int).toNat (And.intro rfl (And.intro rfl (And.intro (by omega) (And.intro (by omega) (And.intro (by omega) (And.intro (by omega) (by omega)))))))
def sC_findRow : qS := fun as A K => ∃ a : Int, as = [rf 55, ni a] ∧ (iva IC A ∧ ivf JC A) ∧ (∀ A' : qA, iva IC A' → ivf JC A' → frm [62] [] A A' → K none A')
theorem okC_findRow : okM LC 2 71 sC_findRow := by
  refine qmeth [] true [(68, sC_spentOn), (70, sC_costVia)] 67 rfl ⟨okC_spentOn.le (by decide), ⟨okC_costVia.le (by decide), trivial⟩⟩ ?_
  rintro _ A K hA has ⟨a, rfl, ⟨i0, j0⟩, hK⟩
  have rg_a : rng a := has (ni a) (by simp)
  have f0 := frm_0 [62] [] A
  refine ⟨Nat.le_of_ble_eq_true rfl, [(6, [(0, 2, 55), (1, 0, 0), (2, 0, 0), (3, 0, 0), (4, 0, 0)], fun zs B nn => match zs with | [l1, d, l, p] => iva IC B ∧ ivf JC B ∧ frm [62] [] A B ∧ nn = ((8 - p) * 100 + 50 : Int).toNat ∧ (l1 = a) ∧ (0 ≤ p) ∧ (p ≤ 8) ∧ (0 ≤ d) ∧ (d ≤ 255) ∧ (0 ≤ l) ∧ (l ≤ 8) | _ => False), (19, [(0, 2, 55), (1, 0, 0), (2, 0, 0), (3, 0, 0), (4, 0, 0), (5, 0, 0), (6, 0, 0)], fun zs B nn => match zs with | [l1, d, l, p, s, k] => iva IC B ∧ ivf JC B ∧ frm [62] [] A B ∧ nn = ((8 - p) * 100 + 20 - k : Int).toNat ∧ (l1 = a) ∧ (0 ≤ p) ∧ (p ≤ 7) ∧ (0 ≤ d) ∧ (d ≤ 255) ∧ (0 ≤ l) ∧ (l ≤ 8) ∧ (0 ≤ k) ∧ (k ≤ 7) | _ => False)], ?_, ?_⟩
  · refine ⟨⟨rfl, ?_⟩, ⟨rfl, ?_⟩, trivial⟩
    · refine fun l1 d l p B mm hB hz hI => ?_
      obtain ⟨i1, j1, f1, hm, c0, c1, c2, c3, c4, c5, c6⟩ := hI
      obtain ⟨hz_l1, hz_d, hz_l, hz_p, _⟩ := hz
      refine fun v1 gv1 e2 => ?_
      have b3 := ivf_at j1 5 rfl
      refine And.intro (fun h4 => ?_) (fun h4 => ?_)
      · exact hK _ i1 j1 f1
      · refine And.intro (fun h5 => ?_) (fun h5 => ?_)
        · exact hK _ i1 j1 f1
        · refine Exists.intro d (And.intro rfl (And.intro (And.intro i1 (And.intro j1 (And.intro (by omega) (by omega)))) (fun r6 g7 => ?_)))
          exact Exists.intro ((8 - p) * 100 + 20 - 0 : Int).toNat (And.intro (by omega) (And.intro i1 (And.intro j1 (And.intro f1 (And.intro rfl (And.intro (by omega) (And.intro (by omega) (And.intro (by omega) (And.intro (by omega) (And.intro (by omega) (And.intro (by omega) (And.intro (by omega) (And.intro (by omega) (by omega))))))))))))))
    · refine fun l1 d l p s k B mm hB hz hI => ?_
      obtain ⟨i1, j1, f1, hm, c0, c1, c2, c3, c4, c5, c6, c7, c8⟩ := hI
      obtain ⟨hz_l1, hz_d, hz_l, hz_p, hz_s, hz_k, _⟩ := hz
      refine fun v8 gv8 e9 => ?_
      have b10 := ivf_at j1 5 rfl
      refine fun v11 e12 => ?_
      have w14 := wI_rng v11
      have w15 : wI v11 = v11 := wI_id (by omega)
      refine And.intro (fun h13 => ?_) (fun h13 => ?_)
      · refine And.intro (by omega) (fun v16 gv16 e17 => ?_)
        have b18 := iva_at i1 27 rfl (i := k) (by omega) (by omega)
        refine And.intro (by omega) (fun A19 e20 => ?_)
        have i21 := iva_st i1 e20 (And.intro (by omega) trivial)
        have j22 := ivf_sa j1 e20 rfl
        have f23 := frm_s f1 e20 rfl
        refine fun v24 e25 => ?_
        have h26 := sl_bd (b := k) 7 (by decide) (by omega) (by omega)
        refine fun v27 e28 => ?_
        have h29 := io_bd (a := d) (b := v24) 8 (by decide) (by omega) (by omega) (by omega) (by omega)
        refine fun v30 e31 => ?_
        have w32 := wI_rng v30
        have w33 : wI v30 = v30 := wI_id (by omega)
        exact Exists.intro ((8 - ((wI v30))) * 100 + 50 : Int).toNat (And.intro (by omega) (And.intro i21 (And.intro j22 (And.intro f23 (And.intro rfl (And.intro (by omega) (And.intro (by omega) (And.intro (by omega) (And.intro (by omega) (And.intro (by omega) (And.intro (by omega) (by omega))))))))))))
      · refine Exists.intro d (Exists.intro l (Exists.intro k (Exists.intro s (And.intro rfl (And.intro (And.intro i1 (And.intro j1 (And.intro (by omega) (And.intro (by omega) (And.intro (by omega) (And.intro (by omega) (And.intro (by omega) (by omega)))))))) (fun r34 g35 => ?_))))))
        refine fun v36 e37 => ?_
        refine fun v38 e39 => ?_
        refine And.intro (by omega) (fun v40 gv40 e41 => ?_)
        refine And.intro (fun h42 => ?_) (fun h42 => ?_)
        · refine And.intro (by omega) (fun v43 gv43 e44 => ?_)
          have b45 := iva_at i1 27 rfl (i := k) (by omega) (by omega)
          refine And.intro (by omega) (fun A46 e47 => ?_)
          have i48 := iva_st i1 e47 (And.intro (by omega) trivial)
          have j49 := ivf_sa j1 e47 rfl
          have f50 := frm_s f1 e47 rfl
          refine fun v51 e52 => ?_
          have h53 := sl_bd (b := k) 6 (by decide) (by omega) (by omega)
          refine fun v54 e55 => ?_
          have h56 := io_bd (a := d) (b := v51) 8 (by decide) (by omega) (by omega) (by omega) (by omega)
          refine fun v57 e58 => ?_
          have w59 := wI_rng v57
          have w60 : wI v57 = v57 := wI_id (by omega)
          exact Exists.intro ((8 - ((wI v57))) * 100 + 50 : Int).toNat (And.intro (by omega) (And.intro i48 (And.intro j49 (And.intro f50 (And.intro rfl (And.intro (by omega) (And.intro (by omega) (And.intro (by omega) (And.intro (by omega) (And.intro (by omega) (And.intro (by omega) (by omega))))))))))))
        · refine fun v61 e62 => ?_
          have w63 := wI_rng v61
          have w64 : wI v61 = v61 := wI_id (by omega)
          exact Exists.intro ((8 - p) * 100 + 20 - ((wI v61)) : Int).toNat (And.intro (by omega) (And.intro i1 (And.intro j1 (And.intro f1 (And.intro rfl (And.intro (by omega) (And.intro (by omega) (And.intro (by omega) (And.intro (by omega) (And.intro (by omega) (And.intro (by omega) (And.intro (by omega) (And.intro (by omega) (by omega))))))))))))))
  · exact Exists.intro ((8 - 0) * 100 + 50 : Int).toNat (And.intro i0 (And.intro j0 (And.intro f0 (And.intro rfl (And.intro (by omega) (And.intro (by omega) (And.intro (by omega) (And.intro (by omega) (And.intro (by omega) (And.intro (by omega) (by omega)))))))))))
def sC_solve : qS := fun as A K => as = [rf 55] ∧ (iva IC A ∧ ivf JC A) ∧ (∀ A' : qA, iva IC A' → ivf JC A' → frm [61, 62] [] A A' → K none A')
theorem okC_solve : okM LC 3 67 sC_solve := by
  refine qmeth [] true [(71, sC_findRow), (68, sC_spentOn), (69, sC_leastOnward)] 73 rfl ⟨okC_findRow.le (by decide), ⟨okC_spentOn.le (by decide), ⟨okC_leastOnward.le (by decide), trivial⟩⟩⟩ ?_
  rintro _ A K hA has ⟨rfl, ⟨i0, j0⟩, hK⟩
  have f0 := frm_0 [61, 62] [] A
  refine ⟨Nat.le_of_ble_eq_true rfl, [(9, [(0, 2, 55), (1, 0, 0), (2, 0, 0)], fun zs B nn => match zs with | [a, d] => iva IC B ∧ ivf JC B ∧ frm [61, 62] [] A B ∧ nn = ((d + 1) * 100 + 50 : Int).toNat ∧ (0 ≤ a) ∧ (a ≤ 255) ∧ ((-1) ≤ d) ∧ (d ≤ 255) | _ => False), (17, [(0, 2, 55), (1, 0, 0), (2, 0, 0), (3, 0, 0), (4, 0, 0)], fun zs B nn => match zs with | [a, d, s, l] => iva IC B ∧ ivf JC B ∧ frm [61, 62] [] A B ∧ nn = ((d + 1) * 100 + 10 - l : Int).toNat ∧ (0 ≤ a) ∧ (a ≤ 255) ∧ (0 ≤ d) ∧ (d ≤ 255) ∧ (0 ≤ l) ∧ (l ≤ 9) | _ => False)], ?_, ?_⟩
  · refine ⟨⟨rfl, ?_⟩, ⟨rfl, ?_⟩, trivial⟩
    · refine fun a d B mm hB hz hI => ?_
      obtain ⟨i1, j1, f1, hm, c0, c1, c2, c3⟩ := hI
      obtain ⟨hz_a, hz_d, _⟩ := hz
      refine And.intro (fun h13 => ?_) (fun h13 => ?_)
      · refine Exists.intro a (And.intro rfl (And.intro (And.intro i1 j1) (fun A14 i15 j16 f17 => ?_)))
        have f18 := frm_c f1 f17 rfl
        exact hK _ i15 j16 f18
      · refine Exists.intro d (And.intro rfl (And.intro (And.intro i1 (And.intro j1 (And.intro (by omega) (by omega)))) (fun r19 g20 => ?_)))
        exact Exists.intro ((d + 1) * 100 + 10 - 0 : Int).toNat (And.intro (by omega) (And.intro i1 (And.intro j1 (And.intro f1 (And.intro rfl (And.intro (by omega) (And.intro (by omega) (And.intro (by omega) (And.intro (by omega) (And.intro (by omega) (by omega)))))))))))
    · refine fun a d s l B mm hB hz hI => ?_
      obtain ⟨i1, j1, f1, hm, c0, c1, c2, c3, c4, c5⟩ := hI
      obtain ⟨hz_a, hz_d, hz_s, hz_l, _⟩ := hz
      refine And.intro (fun h21 => ?_) (fun h21 => ?_)
      · refine fun v22 e23 => ?_
        have w24 := wI_rng v22
        have w25 : wI v22 = v22 := wI_id (by omega)
        exact Exists.intro ((((wI v22)) + 1) * 100 + 50 : Int).toNat (And.intro (by omega) (And.intro i1 (And.intro j1 (And.intro f1 (And.intro rfl (And.intro (by omega) (And.intro (by omega) (And.intro (by omega) (by omega)))))))))
      · refine And.intro (fun h26 => ?_) (fun h26 => ?_)
        · refine fun v27 e28 => ?_
          have h29 := sr_bd (a := d) (b := l) (by omega) (by omega)
          refine fun v30 e31 => ?_
          have h32 := ia_bd (a := v27) (b := 1) (by omega) (by omega)
          refine And.intro (fun h33 => ?_) (fun h33 => ?_)
          · refine And.intro (fun h34 => ?_) (fun h34 => by exfalso; omega)
            refine fun v35 e36 => ?_
            have w37 := wI_rng v35
            have w38 : wI v35 = v35 := wI_id (by omega)
            exact Exists.intro ((d + 1) * 100 + 10 - ((wI v35)) : Int).toNat (And.intro (by omega) (And.intro i1 (And.intro j1 (And.intro f1 (And.intro rfl (And.intro (by omega) (And.intro (by omega) (And.intro (by omega) (And.intro (by omega) (And.intro (by omega) (by omega)))))))))))
          · refine And.intro (fun h39 => by exfalso; omega) (fun h39 => ?_)
            refine fun v40 e41 => ?_
            refine fun v42 e43 => ?_
            refine And.intro (fun h44 => ?_) (fun h44 => ?_)
            · refine Exists.intro d (Exists.intro l (Exists.intro s (And.intro rfl (And.intro (And.intro i1 (And.intro j1 (And.intro (by omega) (And.intro (by omega) (And.intro (by omega) (by omega)))))) (fun r45 g46 => ?_)))))
              refine And.intro (by omega) (fun A47 e48 => ?_)
              have i49 := iva_st i1 e48 trivial
              have j50 := ivf_sa j1 e48 rfl
              have f51 := frm_s f1 e48 rfl
              refine fun v52 e53 => ?_
              have w54 := wI_rng v52
              have w55 : wI v52 = v52 := wI_id (by omega)
              exact Exists.intro ((d + 1) * 100 + 10 - ((wI v52)) : Int).toNat (And.intro (by omega) (And.intro i49 (And.intro j50 (And.intro f51 (And.intro rfl (And.intro (by omega) (And.intro (by omega) (And.intro (by omega) (And.intro (by omega) (And.intro (by omega) (by omega)))))))))))
            · refine And.intro (by omega) (fun A56 e57 => ?_)
              have i58 := iva_st i1 e57 trivial
              have j59 := ivf_sa j1 e57 rfl
              have f60 := frm_s f1 e57 rfl
              refine fun v61 e62 => ?_
              have w63 := wI_rng v61
              have w64 : wI v61 = v61 := wI_id (by omega)
              exact Exists.intro ((d + 1) * 100 + 10 - ((wI v61)) : Int).toNat (And.intro (by omega) (And.intro i58 (And.intro j59 (And.intro f60 (And.intro rfl (And.intro (by omega) (And.intro (by omega) (And.intro (by omega) (And.intro (by omega) (And.intro (by omega) (by omega)))))))))))
        · refine And.intro (fun h65 => ?_) (fun h65 => ?_)
          · refine And.intro (fun h66 => ?_) (fun h66 => by exfalso; omega)
            refine fun v67 e68 => ?_
            have w69 := wI_rng v67
            have w70 : wI v67 = v67 := wI_id (by omega)
            exact Exists.intro ((d + 1) * 100 + 10 - ((wI v67)) : Int).toNat (And.intro (by omega) (And.intro i1 (And.intro j1 (And.intro f1 (And.intro rfl (And.intro (by omega) (And.intro (by omega) (And.intro (by omega) (And.intro (by omega) (And.intro (by omega) (by omega)))))))))))
          · refine And.intro (fun h71 => by exfalso; omega) (fun h71 => ?_)
            refine fun v72 e73 => ?_
            refine fun v74 e75 => ?_
            refine And.intro (fun h76 => ?_) (fun h76 => ?_)
            · refine Exists.intro d (Exists.intro l (Exists.intro s (And.intro rfl (And.intro (And.intro i1 (And.intro j1 (And.intro (by omega) (And.intro (by omega) (And.intro (by omega) (by omega)))))) (fun r77 g78 => ?_)))))
              refine And.intro (by omega) (fun A79 e80 => ?_)
              have i81 := iva_st i1 e80 trivial
              have j82 := ivf_sa j1 e80 rfl
              have f83 := frm_s f1 e80 rfl
              refine fun v84 e85 => ?_
              have w86 := wI_rng v84
              have w87 : wI v84 = v84 := wI_id (by omega)
              exact Exists.intro ((d + 1) * 100 + 10 - ((wI v84)) : Int).toNat (And.intro (by omega) (And.intro i81 (And.intro j82 (And.intro f83 (And.intro rfl (And.intro (by omega) (And.intro (by omega) (And.intro (by omega) (And.intro (by omega) (And.intro (by omega) (by omega)))))))))))
            · refine And.intro (by omega) (fun A88 e89 => ?_)
              have i90 := iva_st i1 e89 trivial
              have j91 := ivf_sa j1 e89 rfl
              have f92 := frm_s f1 e89 rfl
              refine fun v93 e94 => ?_
              have w95 := wI_rng v93
              have w96 : wI v93 = v93 := wI_id (by omega)
              exact Exists.intro ((d + 1) * 100 + 10 - ((wI v93)) : Int).toNat (And.intro (by omega) (And.intro i90 (And.intro j91 (And.intro f92 (And.intro rfl (And.intro (by omega) (And.intro (by omega) (And.intro (by omega) (And.intro (by omega) (And.intro (by omega) (by omega)))))))))))
  · refine fun v1 gv1 e2 => ?_
    have b3 := ivf_at j0 5 rfl
    refine fun v4 e5 => ?_
    have h6 := sl_bd (b := v1) 8 (by decide) (by omega) (by omega)
    refine fun v7 e8 => ?_
    have w9 := wI_rng v7
    have w10 : wI v7 = v7 := wI_id (by omega)
    have w11 := wI_rng v7
    have w12 : wI v7 = v7 := wI_id (by omega)
    exact Exists.intro ((((wI v7)) + 1) * 100 + 50 : Int).toNat (And.intro i0 (And.intro j0 (And.intro f0 (And.intro rfl (And.intro (by omega) (And.intro (by omega) (And.intro (by omega) (by omega))))))))
def sC_least : qS := fun as A K => as = [rf 55] ∧ (iva IC A ∧ ivf JC A) ∧ (∀ r : Int, rng r → K (some (ni r)) A)
theorem okC_least : okM LC 1 72 sC_least := by
  refine qmeth [] false [] 11 rfl trivial ?_
  rintro _ A K hA has ⟨rfl, ⟨i0, j0⟩, hK⟩
  have f0 := frm_0 [] [] A
  refine ⟨Nat.le_of_ble_eq_true rfl, [], trivial, ?_⟩
  refine And.intro (by omega) (fun v1 gv1 e2 => ?_)
  exact hK _ (by first | exact wI_rng _ | omega | (exact (hA _ _).2 rfl))
def sC_cellAt : qS := fun as A K => ∃ p : Int, as = [rf 55, ni p] ∧ (iva IC A ∧ ivf JC A) ∧ (∀ r : Int, (-1) ≤ r → r ≤ 47 → K (some (ni r)) A)
theorem okC_cellAt : okM LC 2 73 sC_cellAt := by
  refine qmeth [] false [(138, sC_within)] 17 rfl ⟨okC_within.le (by decide), trivial⟩ ?_
  rintro _ A K hA has ⟨p, rfl, ⟨i0, j0⟩, hK⟩
  have rg_p : rng p := has (ni p) (by simp)
  have f0 := frm_0 [] [] A
  refine ⟨Nat.le_of_ble_eq_true rfl, [], trivial, ?_⟩
  refine Exists.intro p (Exists.intro 7 (And.intro rfl (And.intro (fun h1 => ?_) (fun h1 => ?_))))
  · refine And.intro (fun h2 => by exfalso; omega) (fun h2 => ?_)
    refine And.intro (by omega) (fun v3 gv3 e4 => ?_)
    have b5 := iva_at i0 30 rfl (i := p) (by omega) (by omega)
    exact hK _ (by omega) (by omega)
  · refine And.intro (fun h6 => ?_) (fun h6 => by exfalso; omega)
    exact hK _ (by omega) (by omega)
def sC_fits : qS := fun as A K => ∃ c h : Int, as = [rf 63, ni c, ni h] ∧ (iva IC A ∧ ivf JC A ∧ 0 ≤ c ∧ c ≤ 47 ∧ 1 ≤ h ∧ h ≤ 200) ∧ (∀ r : Int, 0 ≤ r → r ≤ 1 → K (some (ni r)) A)
theorem okC_fits : okM LC 1 40 sC_fits := by
  refine qmeth [] false [] 44 rfl trivial ?_
  rintro _ A K hA has ⟨c, h, rfl, ⟨i0, j0, p1, p2, p3, p4⟩, hK⟩
  have rg_c : rng c := has (ni c) (by simp)
  have rg_h : rng h := has (ni h) (by simp)
  have f0 := frm_0 [] [] A
  refine ⟨Nat.le_of_ble_eq_true rfl, [(23, [(0, 2, 63), (1, 0, 0), (2, 0, 0), (3, 0, 0)], fun zs B nn => match zs with | [l1, l2, k] => A = B ∧ nn = (48 - k : Int).toNat ∧ (l1 = c) ∧ (l2 = h) ∧ (0 ≤ k) ∧ (k ≤ 48) | _ => False)], ?_, ?_⟩
  · refine ⟨⟨rfl, ?_⟩, trivial⟩
    · refine fun l1 l2 k B mm hB hz hI => ?_
      obtain ⟨rfl, hm, c0, c1, c2, c3⟩ := hI
      obtain ⟨hz_l1, hz_l2, hz_k, _⟩ := hz
      refine And.intro (fun h25 => ?_) (fun h25 => ?_)
      · exact And.intro (by omega) (hK _ (by omega) (by omega))
      · refine And.intro (by omega) (fun v26 gv26 e27 => ?_)
        refine And.intro (fun h28 => ?_) (fun h28 => ?_)
        · refine fun v29 e30 => ?_
          exact And.intro (by omega) (Exists.intro (48 - v29 : Int).toNat (And.intro (by omega) (And.intro rfl (And.intro rfl (And.intro (by omega) (And.intro (by omega) (And.intro (by omega) (by omega))))))))
        · exact And.intro (by omega) (hK _ (by omega) (by omega))
  · refine And.intro (by omega) (fun v5 e6 => ?_)
    have h7 := qm_nn (a := c) (b := 6) (by omega)
    refine fun v8 e9 => ?_
    refine fun v10 e11 => ?_
    have h12 := mul_bd (a := h) (b := v8) (p := 200) (q := 6) (by omega) (by omega) (by omega) (by omega)
    rw [← e11] at h12
    refine And.intro (by omega) (fun v13 e14 => ?_)
    have h15 := qd_nn (a := c) (b := 6) (by omega)
    refine And.intro (by omega) (fun v16 gv16 e17 => ?_)
    have b18 := iva_at i0 14 rfl (i := v13) (by omega) (by omega)
    refine And.intro (by omega) (And.intro (fun h19 => ?_) (fun h19 => ?_))
    · refine And.intro (by omega) (fun v20 e21 => ?_)
      have h22 := qm_nn (a := c) (b := 6) (by omega)
      refine fun v23 e24 => ?_
      exact And.intro (by omega) (Exists.intro (48 - v23 : Int).toNat (And.intro rfl (And.intro rfl (And.intro (by omega) (And.intro (by omega) (And.intro (by omega) (by omega)))))))
    · exact And.intro (by omega) (hK _ (by omega) (by omega))
def sC_burden : qS := fun as A K => ∃ c h : Int, as = [rf 63, ni c, ni h] ∧ (iva IC A ∧ ivf JC A ∧ 0 ≤ c ∧ c ≤ 47) ∧ (∀ A' : qA, iva IC A' → ivf JC A' → frm [64] [] A A' → K none A')
theorem okC_burden : okM LC 1 41 sC_burden := by
  refine qmeth [] true [] 26 rfl trivial ?_
  rintro _ A K hA has ⟨c, h, rfl, ⟨i0, j0, p1, p2⟩, hK⟩
  have rg_c : rng c := has (ni c) (by simp)
  have rg_h : rng h := has (ni h) (by simp)
  have f0 := frm_0 [64] [] A
  refine ⟨Nat.le_of_ble_eq_true rfl, [(6, [(0, 2, 63), (1, 0, 0), (2, 0, 0), (3, 0, 0)], fun zs B nn => match zs with | [l1, l2, k] => iva IC B ∧ ivf JC B ∧ frm [64] [] A B ∧ nn = (48 - k : Int).toNat ∧ (l1 = c) ∧ (l2 = h) ∧ (0 ≤ k) ∧ (k ≤ 48) | _ => False)], ?_, ?_⟩
  · refine ⟨⟨rfl, ?_⟩, trivial⟩
    · refine fun l1 l2 k B mm hB hz hI => ?_
      obtain ⟨i1, j1, f1, hm, c0, c1, c2, c3⟩ := hI
      obtain ⟨hz_l1, hz_l2, hz_k, _⟩ := hz
      refine And.intro (fun h10 => ?_) (fun h10 => ?_)
      · exact hK _ i1 j1 f1
      · refine And.intro (by omega) (fun v11 gv11 e12 => ?_)
        refine fun v13 e14 => ?_
        have w17 := wI_rng v13
        refine And.intro (by omega) (fun A15 e16 => ?_)
        have i18 := iva_st i1 e16 trivial
        have j19 := ivf_sa j1 e16 rfl
        have f20 := frm_s f1 e16 rfl
        refine fun v21 e22 => ?_
        have w23 := wI_rng v21
        have w24 : wI v21 = v21 := wI_id (by omega)
        exact Exists.intro (48 - ((wI v21)) : Int).toNat (And.intro (by omega) (And.intro i18 (And.intro j19 (And.intro f20 (And.intro rfl (And.intro (by omega) (And.intro (by omega) (And.intro (by omega) (by omega)))))))))
  · refine And.intro (by omega) (fun v3 e4 => ?_)
    have h5 := qm_nn (a := c) (b := 6) (by omega)
    refine fun v6 e7 => ?_
    have w8 := wI_rng v6
    have w9 : wI v6 = v6 := wI_id (by omega)
    exact Exists.intro (48 - ((wI v6)) : Int).toNat (And.intro i0 (And.intro j0 (And.intro f0 (And.intro rfl (And.intro (by omega) (And.intro (by omega) (And.intro (by omega) (by omega))))))))
def sC_tryCell5 : qS := fun as A K => ∃ p s : Int, as = [rf 63, ni p, ni s] ∧ (iva IC A ∧ ivf JC A ∧ 5 ≤ p ∧ p ≤ 5) ∧ (∀ A' : qA, iva IC A' → ivf JC A' → frm [64, 66, 67] [(63, 7)] A A' → K none A')
theorem okC_tryCell5 : okM LC 1 39 sC_tryCell5 := by
  refine qmeth [] true [] 96 rfl trivial ?_
  rintro _ A K hA has ⟨p, s, rfl, ⟨i0, j0, p1, p2⟩, hK⟩
  have rg_p : rng p := has (ni p) (by simp)
  have rg_s : rng s := has (ni s) (by simp)
  have f0 := frm_0 [64, 66, 67] [(63, 7)] A
  refine ⟨Nat.le_of_ble_eq_true rfl, [], trivial, ?_⟩
  refine fun v3 gv3 e4 => ?_
  have b5 := ivf_at j0 6 rfl
  refine And.intro (fun h6 => ?_) (fun h6 => by exfalso; omega)
  refine fun v7 gv7 e8 => ?_
  refine And.intro (fun h9 => ?_) (fun h9 => ?_)
  · exact hK _ i0 j0 f0
  · refine fun A10 e11 => ?_
    have i12 := iva_sf i0 e11 rfl
    have j13 := ivf_st j0 e11 trivial
    have f14 := frm_sf f0 e11 rfl
    refine And.intro (by omega) (fun A15 e16 => ?_)
    have i17 := iva_cp i12 e16 (fun i h0 h1 => And.intro (by have := iva_at i12 32 rfl (i := 0 + i) (by omega) (by omega); omega) trivial)
    have j18 := ivf_cp j13 e16 rfl
    have f19 := frm_cp f14 e16 rfl
    exact hK _ i17 j18 f19
def sC_tryCell4 : qS := fun as A K => ∃ p s : Int, as = [rf 63, ni p, ni s] ∧ (iva IC A ∧ ivf JC A ∧ 4 ≤ p ∧ p ≤ 4) ∧ (∀ A' : qA, iva IC A' → ivf JC A' → frm [64, 66, 67] [(63, 7)] A A' → K none A')
theorem okC_tryCell4 : okM LC 2 39 sC_tryCell4 := by
  refine qmeth [] true [(39, sC_tryCell5), (40, sC_fits), (41, sC_burden)] 96 rfl ⟨okC_tryCell5.le (by decide), ⟨okC_fits.le (by decide), ⟨okC_burden.le (by decide), trivial⟩⟩⟩ ?_
  rintro _ A K hA has ⟨p, s, rfl, ⟨i0, j0, p1, p2⟩, hK⟩
  have rg_p : rng p := has (ni p) (by simp)
  have rg_s : rng s := has (ni s) (by simp)
  have f0 := frm_0 [64, 66, 67] [(63, 7)] A
  refine ⟨Nat.le_of_ble_eq_true rfl, [(36, [(0, 2, 63), (1, 0, 0), (2, 0, 0), (3, 0, 0)], fun zs B nn => match zs with | [l1, l2, k] => iva IC B ∧ ivf JC B ∧ frm [64, 66, 67] [(63, 7)] A B ∧ nn = (6 - k : Int).toNat ∧ (l1 = p) ∧ (l2 = s) ∧ (0 ≤ k) ∧ (k ≤ 6) | _ => False)], ?_, ?_⟩
  · refine ⟨⟨rfl, ?_⟩, trivial⟩
    · refine fun l1 l2 k B mm hB hz hI => ?_
      obtain ⟨i1, j1, f1, hm, c0, c1, c2, c3⟩ := hI
      obtain ⟨hz_l1, hz_l2, hz_k, _⟩ := hz
      refine And.intro (fun h35 => ?_) (fun h35 => ?_)
      · exact hK _ i1 j1 f1
      · refine And.intro (by omega) (fun v36 gv36 e37 => ?_)
        have b38 := iva_at i1 9 rfl (i := k) (by omega) (by omega)
        refine And.intro (by omega) (fun v39 gv39 e40 => ?_)
        have b41 := iva_at i1 31 rfl (i := l1) (by omega) (by omega)
        refine Exists.intro v39 (Exists.intro v36 (And.intro rfl (And.intro (And.intro i1 (And.intro j1 (And.intro (by omega) (And.intro (by omega) (And.intro (by omega) (by omega)))))) (fun r42 g43 g44 => ?_))))
        refine And.intro (fun h45 => ?_) (fun h45 => ?_)
        · refine fun v46 e47 => ?_
          have w48 := wI_rng v46
          have w49 : wI v46 = v46 := wI_id (by omega)
          exact Exists.intro (6 - ((wI v46)) : Int).toNat (And.intro (by omega) (And.intro i1 (And.intro j1 (And.intro f1 (And.intro rfl (And.intro (by omega) (And.intro (by omega) (And.intro (by omega) (by omega)))))))))
        · refine And.intro (by omega) (fun A50 e51 => ?_)
          have i52 := iva_st i1 e51 (And.intro (by omega) trivial)
          have j53 := ivf_sa j1 e51 rfl
          have f54 := frm_s f1 e51 rfl
          refine And.intro (by omega) (fun v55 gv55 e56 => ?_)
          have b57 := iva_at i52 31 rfl (i := l1) (by omega) (by omega)
          have q58 : v39 = v55 := (e56.trans ((congrFun (st_a e51 rfl) _).trans e40.symm)).symm
          subst q58
          refine Exists.intro v39 (Exists.intro v36 (And.intro rfl (And.intro (And.intro i52 (And.intro j53 (And.intro (by omega) (by omega)))) (fun A59 i60 j61 f62 => ?_))))
          have f63 := frm_c f54 f62 rfl
          refine fun v64 e65 => ?_
          refine And.intro (by omega) (fun v66 gv66 e67 => ?_)
          have b68 := iva_at i60 10 rfl (i := k) (by omega) (by omega)
          refine fun v69 e70 => ?_
          have h71 := mul_bd (a := v36) (b := v66) (p := 200) (q := 99) (by omega) (by omega) (by omega) (by omega)
          rw [← e70] at h71
          refine fun v72 e73 => ?_
          have w74 := wI_rng v64
          have w75 : wI v64 = v64 := wI_id (by omega)
          have w76 := wI_rng v72
          refine Exists.intro (wI v64) (Exists.intro (wI v72) (And.intro rfl (And.intro (And.intro i60 (And.intro j61 (And.intro (by omega) (by omega)))) (fun A77 i78 j79 f80 => ?_))))
          have f81 := frm_c f63 f80 rfl
          refine And.intro (by omega) (fun v82 gv82 e83 => ?_)
          have b84 := iva_at i78 31 rfl (i := l1) (by omega) (by omega)
          have q85 : v39 = v82 := (e83.trans ((congrFun (Eq.trans (frm_a f80 rfl) (frm_a f62 rfl)) _).trans e56.symm)).symm
          subst q85
          refine fun v86 e87 => ?_
          have w88 := wI_rng v86
          have w89 : wI v86 = v86 := wI_id (by omega)
          refine Exists.intro v39 (Exists.intro (wI v86) (And.intro rfl (And.intro (And.intro i78 (And.intro j79 (And.intro (by omega) (by omega)))) (fun A90 i91 j92 f93 => ?_))))
          have f94 := frm_c f81 f93 rfl
          refine fun v95 e96 => ?_
          have w97 := wI_rng v95
          have w98 : wI v95 = v95 := wI_id (by omega)
          exact Exists.intro (6 - ((wI v95)) : Int).toNat (And.intro (by omega) (And.intro i91 (And.intro j92 (And.intro f94 (And.intro rfl (And.intro (by omega) (And.intro (by omega) (And.intro (by omega) (by omega)))))))))
  · refine fun v3 gv3 e4 => ?_
    have b5 := ivf_at j0 6 rfl
    refine And.intro (fun h6 => ?_) (fun h6 => ?_)
    · refine fun v7 gv7 e8 => ?_
      refine And.intro (fun h9 => ?_) (fun h9 => ?_)
      · exact hK _ i0 j0 f0
      · refine fun A10 e11 => ?_
        have i12 := iva_sf i0 e11 rfl
        have j13 := ivf_st j0 e11 trivial
        have f14 := frm_sf f0 e11 rfl
        refine And.intro (by omega) (fun A15 e16 => ?_)
        have i17 := iva_cp i12 e16 (fun i h0 h1 => And.intro (by have := iva_at i12 32 rfl (i := 0 + i) (by omega) (by omega); omega) trivial)
        have j18 := ivf_cp j13 e16 rfl
        have f19 := frm_cp f14 e16 rfl
        exact hK _ i17 j18 f19
    · refine And.intro (fun h20 => ?_) (fun h20 => by exfalso; omega)
      refine And.intro (by omega) (fun A21 e22 => ?_)
      have i23 := iva_st i0 e22 (And.intro (by omega) trivial)
      have j24 := ivf_sa j0 e22 rfl
      have f25 := frm_s f0 e22 rfl
      refine fun v26 e27 => ?_
      have w28 := wI_rng v26
      have w29 : wI v26 = v26 := wI_id (by omega)
      refine Exists.intro (wI v26) (Exists.intro s (And.intro rfl (And.intro (And.intro i23 (And.intro j24 (And.intro (by omega) (by omega)))) (fun A30 i31 j32 f33 => ?_))))
      have f34 := frm_c f25 f33 rfl
      exact Exists.intro (6 - 0 : Int).toNat (And.intro i31 (And.intro j32 (And.intro f34 (And.intro rfl (And.intro (by omega) (And.intro (by omega) (And.intro (by omega) (by omega))))))))
def sC_tryCell3 : qS := fun as A K => ∃ p s : Int, as = [rf 63, ni p, ni s] ∧ (iva IC A ∧ ivf JC A ∧ 3 ≤ p ∧ p ≤ 3) ∧ (∀ A' : qA, iva IC A' → ivf JC A' → frm [64, 66, 67] [(63, 7)] A A' → K none A')
theorem okC_tryCell3 : okM LC 3 39 sC_tryCell3 := by
  refine qmeth [] true [(39, sC_tryCell4), (40, sC_fits), (41, sC_burden)] 96 rfl ⟨okC_tryCell4.le (by decide), ⟨okC_fits.le (by decide), ⟨okC_burden.le (by decide), trivial⟩⟩⟩ ?_
  rintro _ A K hA has ⟨p, s, rfl, ⟨i0, j0, p1, p2⟩, hK⟩
  have rg_p : rng p := has (ni p) (by simp)
  have rg_s : rng s := has (ni s) (by simp)
  have f0 := frm_0 [64, 66, 67] [(63, 7)] A
  refine ⟨Nat.le_of_ble_eq_true rfl, [(36, [(0, 2, 63), (1, 0, 0), (2, 0, 0), (3, 0, 0)], fun zs B nn => match zs with | [l1, l2, k] => iva IC B ∧ ivf JC B ∧ frm [64, 66, 67] [(63, 7)] A B ∧ nn = (6 - k : Int).toNat ∧ (l1 = p) ∧ (l2 = s) ∧ (0 ≤ k) ∧ (k ≤ 6) | _ => False)], ?_, ?_⟩
  · refine ⟨⟨rfl, ?_⟩, trivial⟩
    · refine fun l1 l2 k B mm hB hz hI => ?_
      obtain ⟨i1, j1, f1, hm, c0, c1, c2, c3⟩ := hI
      obtain ⟨hz_l1, hz_l2, hz_k, _⟩ := hz
      refine And.intro (fun h35 => ?_) (fun h35 => ?_)
      · exact hK _ i1 j1 f1
      · refine And.intro (by omega) (fun v36 gv36 e37 => ?_)
        have b38 := iva_at i1 9 rfl (i := k) (by omega) (by omega)
        refine And.intro (by omega) (fun v39 gv39 e40 => ?_)
        have b41 := iva_at i1 31 rfl (i := l1) (by omega) (by omega)
        refine Exists.intro v39 (Exists.intro v36 (And.intro rfl (And.intro (And.intro i1 (And.intro j1 (And.intro (by omega) (And.intro (by omega) (And.intro (by omega) (by omega)))))) (fun r42 g43 g44 => ?_))))
        refine And.intro (fun h45 => ?_) (fun h45 => ?_)
        · refine fun v46 e47 => ?_
          have w48 := wI_rng v46
          have w49 : wI v46 = v46 := wI_id (by omega)
          exact Exists.intro (6 - ((wI v46)) : Int).toNat (And.intro (by omega) (And.intro i1 (And.intro j1 (And.intro f1 (And.intro rfl (And.intro (by omega) (And.intro (by omega) (And.intro (by omega) (by omega)))))))))
        · refine And.intro (by omega) (fun A50 e51 => ?_)
          have i52 := iva_st i1 e51 (And.intro (by omega) trivial)
          have j53 := ivf_sa j1 e51 rfl
          have f54 := frm_s f1 e51 rfl
          refine And.intro (by omega) (fun v55 gv55 e56 => ?_)
          have b57 := iva_at i52 31 rfl (i := l1) (by omega) (by omega)
          have q58 : v39 = v55 := (e56.trans ((congrFun (st_a e51 rfl) _).trans e40.symm)).symm
          subst q58
          refine Exists.intro v39 (Exists.intro v36 (And.intro rfl (And.intro (And.intro i52 (And.intro j53 (And.intro (by omega) (by omega)))) (fun A59 i60 j61 f62 => ?_))))
          have f63 := frm_c f54 f62 rfl
          refine fun v64 e65 => ?_
          refine And.intro (by omega) (fun v66 gv66 e67 => ?_)
          have b68 := iva_at i60 10 rfl (i := k) (by omega) (by omega)
          refine fun v69 e70 => ?_
          have h71 := mul_bd (a := v36) (b := v66) (p := 200) (q := 99) (by omega) (by omega) (by omega) (by omega)
          rw [← e70] at h71
          refine fun v72 e73 => ?_
          have w74 := wI_rng v64
          have w75 : wI v64 = v64 := wI_id (by omega)
          have w76 := wI_rng v72
          refine Exists.intro (wI v64) (Exists.intro (wI v72) (And.intro rfl (And.intro (And.intro i60 (And.intro j61 (And.intro (by omega) (by omega)))) (fun A77 i78 j79 f80 => ?_))))
          have f81 := frm_c f63 f80 rfl
          refine And.intro (by omega) (fun v82 gv82 e83 => ?_)
          have b84 := iva_at i78 31 rfl (i := l1) (by omega) (by omega)
          have q85 : v39 = v82 := (e83.trans ((congrFun (Eq.trans (frm_a f80 rfl) (frm_a f62 rfl)) _).trans e56.symm)).symm
          subst q85
          refine fun v86 e87 => ?_
          have w88 := wI_rng v86
          have w89 : wI v86 = v86 := wI_id (by omega)
          refine Exists.intro v39 (Exists.intro (wI v86) (And.intro rfl (And.intro (And.intro i78 (And.intro j79 (And.intro (by omega) (by omega)))) (fun A90 i91 j92 f93 => ?_))))
          have f94 := frm_c f81 f93 rfl
          refine fun v95 e96 => ?_
          have w97 := wI_rng v95
          have w98 : wI v95 = v95 := wI_id (by omega)
          exact Exists.intro (6 - ((wI v95)) : Int).toNat (And.intro (by omega) (And.intro i91 (And.intro j92 (And.intro f94 (And.intro rfl (And.intro (by omega) (And.intro (by omega) (And.intro (by omega) (by omega)))))))))
  · refine fun v3 gv3 e4 => ?_
    have b5 := ivf_at j0 6 rfl
    refine And.intro (fun h6 => ?_) (fun h6 => ?_)
    · refine fun v7 gv7 e8 => ?_
      refine And.intro (fun h9 => ?_) (fun h9 => ?_)
      · exact hK _ i0 j0 f0
      · refine fun A10 e11 => ?_
        have i12 := iva_sf i0 e11 rfl
        have j13 := ivf_st j0 e11 trivial
        have f14 := frm_sf f0 e11 rfl
        refine And.intro (by omega) (fun A15 e16 => ?_)
        have i17 := iva_cp i12 e16 (fun i h0 h1 => And.intro (by have := iva_at i12 32 rfl (i := 0 + i) (by omega) (by omega); omega) trivial)
        have j18 := ivf_cp j13 e16 rfl
        have f19 := frm_cp f14 e16 rfl
        exact hK _ i17 j18 f19
    · refine And.intro (fun h20 => ?_) (fun h20 => by exfalso; omega)
      refine And.intro (by omega) (fun A21 e22 => ?_)
      have i23 := iva_st i0 e22 (And.intro (by omega) trivial)
      have j24 := ivf_sa j0 e22 rfl
      have f25 := frm_s f0 e22 rfl
      refine fun v26 e27 => ?_
      have w28 := wI_rng v26
      have w29 : wI v26 = v26 := wI_id (by omega)
      refine Exists.intro (wI v26) (Exists.intro s (And.intro rfl (And.intro (And.intro i23 (And.intro j24 (And.intro (by omega) (by omega)))) (fun A30 i31 j32 f33 => ?_))))
      have f34 := frm_c f25 f33 rfl
      exact Exists.intro (6 - 0 : Int).toNat (And.intro i31 (And.intro j32 (And.intro f34 (And.intro rfl (And.intro (by omega) (And.intro (by omega) (And.intro (by omega) (by omega))))))))
def sC_tryCell2 : qS := fun as A K => ∃ p s : Int, as = [rf 63, ni p, ni s] ∧ (iva IC A ∧ ivf JC A ∧ 2 ≤ p ∧ p ≤ 2) ∧ (∀ A' : qA, iva IC A' → ivf JC A' → frm [64, 66, 67] [(63, 7)] A A' → K none A')
theorem okC_tryCell2 : okM LC 4 39 sC_tryCell2 := by
  refine qmeth [] true [(39, sC_tryCell3), (40, sC_fits), (41, sC_burden)] 96 rfl ⟨okC_tryCell3.le (by decide), ⟨okC_fits.le (by decide), ⟨okC_burden.le (by decide), trivial⟩⟩⟩ ?_
  rintro _ A K hA has ⟨p, s, rfl, ⟨i0, j0, p1, p2⟩, hK⟩
  have rg_p : rng p := has (ni p) (by simp)
  have rg_s : rng s := has (ni s) (by simp)
  have f0 := frm_0 [64, 66, 67] [(63, 7)] A
  refine ⟨Nat.le_of_ble_eq_true rfl, [(36, [(0, 2, 63), (1, 0, 0), (2, 0, 0), (3, 0, 0)], fun zs B nn => match zs with | [l1, l2, k] => iva IC B ∧ ivf JC B ∧ frm [64, 66, 67] [(63, 7)] A B ∧ nn = (6 - k : Int).toNat ∧ (l1 = p) ∧ (l2 = s) ∧ (0 ≤ k) ∧ (k ≤ 6) | _ => False)], ?_, ?_⟩
  · refine ⟨⟨rfl, ?_⟩, trivial⟩
    · refine fun l1 l2 k B mm hB hz hI => ?_
      obtain ⟨i1, j1, f1, hm, c0, c1, c2, c3⟩ := hI
      obtain ⟨hz_l1, hz_l2, hz_k, _⟩ := hz
      refine And.intro (fun h35 => ?_) (fun h35 => ?_)
      · exact hK _ i1 j1 f1
      · refine And.intro (by omega) (fun v36 gv36 e37 => ?_)
        have b38 := iva_at i1 9 rfl (i := k) (by omega) (by omega)
        refine And.intro (by omega) (fun v39 gv39 e40 => ?_)
        have b41 := iva_at i1 31 rfl (i := l1) (by omega) (by omega)
        refine Exists.intro v39 (Exists.intro v36 (And.intro rfl (And.intro (And.intro i1 (And.intro j1 (And.intro (by omega) (And.intro (by omega) (And.intro (by omega) (by omega)))))) (fun r42 g43 g44 => ?_))))
        refine And.intro (fun h45 => ?_) (fun h45 => ?_)
        · refine fun v46 e47 => ?_
          have w48 := wI_rng v46
          have w49 : wI v46 = v46 := wI_id (by omega)
          exact Exists.intro (6 - ((wI v46)) : Int).toNat (And.intro (by omega) (And.intro i1 (And.intro j1 (And.intro f1 (And.intro rfl (And.intro (by omega) (And.intro (by omega) (And.intro (by omega) (by omega)))))))))
        · refine And.intro (by omega) (fun A50 e51 => ?_)
          have i52 := iva_st i1 e51 (And.intro (by omega) trivial)
          have j53 := ivf_sa j1 e51 rfl
          have f54 := frm_s f1 e51 rfl
          refine And.intro (by omega) (fun v55 gv55 e56 => ?_)
          have b57 := iva_at i52 31 rfl (i := l1) (by omega) (by omega)
          have q58 : v39 = v55 := (e56.trans ((congrFun (st_a e51 rfl) _).trans e40.symm)).symm
          subst q58
          refine Exists.intro v39 (Exists.intro v36 (And.intro rfl (And.intro (And.intro i52 (And.intro j53 (And.intro (by omega) (by omega)))) (fun A59 i60 j61 f62 => ?_))))
          have f63 := frm_c f54 f62 rfl
          refine fun v64 e65 => ?_
          refine And.intro (by omega) (fun v66 gv66 e67 => ?_)
          have b68 := iva_at i60 10 rfl (i := k) (by omega) (by omega)
          refine fun v69 e70 => ?_
          have h71 := mul_bd (a := v36) (b := v66) (p := 200) (q := 99) (by omega) (by omega) (by omega) (by omega)
          rw [← e70] at h71
          refine fun v72 e73 => ?_
          have w74 := wI_rng v64
          have w75 : wI v64 = v64 := wI_id (by omega)
          have w76 := wI_rng v72
          refine Exists.intro (wI v64) (Exists.intro (wI v72) (And.intro rfl (And.intro (And.intro i60 (And.intro j61 (And.intro (by omega) (by omega)))) (fun A77 i78 j79 f80 => ?_))))
          have f81 := frm_c f63 f80 rfl
          refine And.intro (by omega) (fun v82 gv82 e83 => ?_)
          have b84 := iva_at i78 31 rfl (i := l1) (by omega) (by omega)
          have q85 : v39 = v82 := (e83.trans ((congrFun (Eq.trans (frm_a f80 rfl) (frm_a f62 rfl)) _).trans e56.symm)).symm
          subst q85
          refine fun v86 e87 => ?_
          have w88 := wI_rng v86
          have w89 : wI v86 = v86 := wI_id (by omega)
          refine Exists.intro v39 (Exists.intro (wI v86) (And.intro rfl (And.intro (And.intro i78 (And.intro j79 (And.intro (by omega) (by omega)))) (fun A90 i91 j92 f93 => ?_))))
          have f94 := frm_c f81 f93 rfl
          refine fun v95 e96 => ?_
          have w97 := wI_rng v95
          have w98 : wI v95 = v95 := wI_id (by omega)
          exact Exists.intro (6 - ((wI v95)) : Int).toNat (And.intro (by omega) (And.intro i91 (And.intro j92 (And.intro f94 (And.intro rfl (And.intro (by omega) (And.intro (by omega) (And.intro (by omega) (by omega)))))))))
  · refine fun v3 gv3 e4 => ?_
    have b5 := ivf_at j0 6 rfl
    refine And.intro (fun h6 => ?_) (fun h6 => ?_)
    · refine fun v7 gv7 e8 => ?_
      refine And.intro (fun h9 => ?_) (fun h9 => ?_)
      · exact hK _ i0 j0 f0
      · refine fun A10 e11 => ?_
        have i12 := iva_sf i0 e11 rfl
        have j13 := ivf_st j0 e11 trivial
        have f14 := frm_sf f0 e11 rfl
        refine And.intro (by omega) (fun A15 e16 => ?_)
        have i17 := iva_cp i12 e16 (fun i h0 h1 => And.intro (by have := iva_at i12 32 rfl (i := 0 + i) (by omega) (by omega); omega) trivial)
        have j18 := ivf_cp j13 e16 rfl
        have f19 := frm_cp f14 e16 rfl
        exact hK _ i17 j18 f19
    · refine And.intro (fun h20 => ?_) (fun h20 => by exfalso; omega)
      refine And.intro (by omega) (fun A21 e22 => ?_)
      have i23 := iva_st i0 e22 (And.intro (by omega) trivial)
      have j24 := ivf_sa j0 e22 rfl
      have f25 := frm_s f0 e22 rfl
      refine fun v26 e27 => ?_
      have w28 := wI_rng v26
      have w29 : wI v26 = v26 := wI_id (by omega)
      refine Exists.intro (wI v26) (Exists.intro s (And.intro rfl (And.intro (And.intro i23 (And.intro j24 (And.intro (by omega) (by omega)))) (fun A30 i31 j32 f33 => ?_))))
      have f34 := frm_c f25 f33 rfl
      exact Exists.intro (6 - 0 : Int).toNat (And.intro i31 (And.intro j32 (And.intro f34 (And.intro rfl (And.intro (by omega) (And.intro (by omega) (And.intro (by omega) (by omega))))))))
def sC_tryCell1 : qS := fun as A K => ∃ p s : Int, as = [rf 63, ni p, ni s] ∧ (iva IC A ∧ ivf JC A ∧ 1 ≤ p ∧ p ≤ 1) ∧ (∀ A' : qA, iva IC A' → ivf JC A' → frm [64, 66, 67] [(63, 7)] A A' → K none A')
theorem okC_tryCell1 : okM LC 5 39 sC_tryCell1 := by
  refine qmeth [] true [(39, sC_tryCell2), (40, sC_fits), (41, sC_burden)] 96 rfl ⟨okC_tryCell2.le (by decide), ⟨okC_fits.le (by decide), ⟨okC_burden.le (by decide), trivial⟩⟩⟩ ?_
  rintro _ A K hA has ⟨p, s, rfl, ⟨i0, j0, p1, p2⟩, hK⟩
  have rg_p : rng p := has (ni p) (by simp)
  have rg_s : rng s := has (ni s) (by simp)
  have f0 := frm_0 [64, 66, 67] [(63, 7)] A
  refine ⟨Nat.le_of_ble_eq_true rfl, [(36, [(0, 2, 63), (1, 0, 0), (2, 0, 0), (3, 0, 0)], fun zs B nn => match zs with | [l1, l2, k] => iva IC B ∧ ivf JC B ∧ frm [64, 66, 67] [(63, 7)] A B ∧ nn = (6 - k : Int).toNat ∧ (l1 = p) ∧ (l2 = s) ∧ (0 ≤ k) ∧ (k ≤ 6) | _ => False)], ?_, ?_⟩
  · refine ⟨⟨rfl, ?_⟩, trivial⟩
    · refine fun l1 l2 k B mm hB hz hI => ?_
      obtain ⟨i1, j1, f1, hm, c0, c1, c2, c3⟩ := hI
      obtain ⟨hz_l1, hz_l2, hz_k, _⟩ := hz
      refine And.intro (fun h35 => ?_) (fun h35 => ?_)
      · exact hK _ i1 j1 f1
      · refine And.intro (by omega) (fun v36 gv36 e37 => ?_)
        have b38 := iva_at i1 9 rfl (i := k) (by omega) (by omega)
        refine And.intro (by omega) (fun v39 gv39 e40 => ?_)
        have b41 := iva_at i1 31 rfl (i := l1) (by omega) (by omega)
        refine Exists.intro v39 (Exists.intro v36 (And.intro rfl (And.intro (And.intro i1 (And.intro j1 (And.intro (by omega) (And.intro (by omega) (And.intro (by omega) (by omega)))))) (fun r42 g43 g44 => ?_))))
        refine And.intro (fun h45 => ?_) (fun h45 => ?_)
        · refine fun v46 e47 => ?_
          have w48 := wI_rng v46
          have w49 : wI v46 = v46 := wI_id (by omega)
          exact Exists.intro (6 - ((wI v46)) : Int).toNat (And.intro (by omega) (And.intro i1 (And.intro j1 (And.intro f1 (And.intro rfl (And.intro (by omega) (And.intro (by omega) (And.intro (by omega) (by omega)))))))))
        · refine And.intro (by omega) (fun A50 e51 => ?_)
          have i52 := iva_st i1 e51 (And.intro (by omega) trivial)
          have j53 := ivf_sa j1 e51 rfl
          have f54 := frm_s f1 e51 rfl
          refine And.intro (by omega) (fun v55 gv55 e56 => ?_)
          have b57 := iva_at i52 31 rfl (i := l1) (by omega) (by omega)
          have q58 : v39 = v55 := (e56.trans ((congrFun (st_a e51 rfl) _).trans e40.symm)).symm
          subst q58
          refine Exists.intro v39 (Exists.intro v36 (And.intro rfl (And.intro (And.intro i52 (And.intro j53 (And.intro (by omega) (by omega)))) (fun A59 i60 j61 f62 => ?_))))
          have f63 := frm_c f54 f62 rfl
          refine fun v64 e65 => ?_
          refine And.intro (by omega) (fun v66 gv66 e67 => ?_)
          have b68 := iva_at i60 10 rfl (i := k) (by omega) (by omega)
          refine fun v69 e70 => ?_
          have h71 := mul_bd (a := v36) (b := v66) (p := 200) (q := 99) (by omega) (by omega) (by omega) (by omega)
          rw [← e70] at h71
          refine fun v72 e73 => ?_
          have w74 := wI_rng v64
          have w75 : wI v64 = v64 := wI_id (by omega)
          have w76 := wI_rng v72
          refine Exists.intro (wI v64) (Exists.intro (wI v72) (And.intro rfl (And.intro (And.intro i60 (And.intro j61 (And.intro (by omega) (by omega)))) (fun A77 i78 j79 f80 => ?_))))
          have f81 := frm_c f63 f80 rfl
          refine And.intro (by omega) (fun v82 gv82 e83 => ?_)
          have b84 := iva_at i78 31 rfl (i := l1) (by omega) (by omega)
          have q85 : v39 = v82 := (e83.trans ((congrFun (Eq.trans (frm_a f80 rfl) (frm_a f62 rfl)) _).trans e56.symm)).symm
          subst q85
          refine fun v86 e87 => ?_
          have w88 := wI_rng v86
          have w89 : wI v86 = v86 := wI_id (by omega)
          refine Exists.intro v39 (Exists.intro (wI v86) (And.intro rfl (And.intro (And.intro i78 (And.intro j79 (And.intro (by omega) (by omega)))) (fun A90 i91 j92 f93 => ?_))))
          have f94 := frm_c f81 f93 rfl
          refine fun v95 e96 => ?_
          have w97 := wI_rng v95
          have w98 : wI v95 = v95 := wI_id (by omega)
          exact Exists.intro (6 - ((wI v95)) : Int).toNat (And.intro (by omega) (And.intro i91 (And.intro j92 (And.intro f94 (And.intro rfl (And.intro (by omega) (And.intro (by omega) (And.intro (by omega) (by omega)))))))))
  · refine fun v3 gv3 e4 => ?_
    have b5 := ivf_at j0 6 rfl
    refine And.intro (fun h6 => ?_) (fun h6 => ?_)
    · refine fun v7 gv7 e8 => ?_
      refine And.intro (fun h9 => ?_) (fun h9 => ?_)
      · exact hK _ i0 j0 f0
      · refine fun A10 e11 => ?_
        have i12 := iva_sf i0 e11 rfl
        have j13 := ivf_st j0 e11 trivial
        have f14 := frm_sf f0 e11 rfl
        refine And.intro (by omega) (fun A15 e16 => ?_)
        have i17 := iva_cp i12 e16 (fun i h0 h1 => And.intro (by have := iva_at i12 32 rfl (i := 0 + i) (by omega) (by omega); omega) trivial)
        have j18 := ivf_cp j13 e16 rfl
        have f19 := frm_cp f14 e16 rfl
        exact hK _ i17 j18 f19
    · refine And.intro (fun h20 => ?_) (fun h20 => by exfalso; omega)
      refine And.intro (by omega) (fun A21 e22 => ?_)
      have i23 := iva_st i0 e22 (And.intro (by omega) trivial)
      have j24 := ivf_sa j0 e22 rfl
      have f25 := frm_s f0 e22 rfl
      refine fun v26 e27 => ?_
      have w28 := wI_rng v26
      have w29 : wI v26 = v26 := wI_id (by omega)
      refine Exists.intro (wI v26) (Exists.intro s (And.intro rfl (And.intro (And.intro i23 (And.intro j24 (And.intro (by omega) (by omega)))) (fun A30 i31 j32 f33 => ?_))))
      have f34 := frm_c f25 f33 rfl
      exact Exists.intro (6 - 0 : Int).toNat (And.intro i31 (And.intro j32 (And.intro f34 (And.intro rfl (And.intro (by omega) (And.intro (by omega) (And.intro (by omega) (by omega))))))))
def sC_tryCell0 : qS := fun as A K => ∃ p s : Int, as = [rf 63, ni p, ni s] ∧ (iva IC A ∧ ivf JC A ∧ 0 ≤ p ∧ p ≤ 0) ∧ (∀ A' : qA, iva IC A' → ivf JC A' → frm [64, 66, 67] [(63, 7)] A A' → K none A')
theorem okC_tryCell0 : okM LC 6 39 sC_tryCell0 := by
  refine qmeth [] true [(39, sC_tryCell1), (40, sC_fits), (41, sC_burden)] 96 rfl ⟨okC_tryCell1.le (by decide), ⟨okC_fits.le (by decide), ⟨okC_burden.le (by decide), trivial⟩⟩⟩ ?_
  rintro _ A K hA has ⟨p, s, rfl, ⟨i0, j0, p1, p2⟩, hK⟩
  have rg_p : rng p := has (ni p) (by simp)
  have rg_s : rng s := has (ni s) (by simp)
  have f0 := frm_0 [64, 66, 67] [(63, 7)] A
  refine ⟨Nat.le_of_ble_eq_true rfl, [(36, [(0, 2, 63), (1, 0, 0), (2, 0, 0), (3, 0, 0)], fun zs B nn => match zs with | [l1, l2, k] => iva IC B ∧ ivf JC B ∧ frm [64, 66, 67] [(63, 7)] A B ∧ nn = (6 - k : Int).toNat ∧ (l1 = p) ∧ (l2 = s) ∧ (0 ≤ k) ∧ (k ≤ 6) | _ => False)], ?_, ?_⟩
  · refine ⟨⟨rfl, ?_⟩, trivial⟩
    · refine fun l1 l2 k B mm hB hz hI => ?_
      obtain ⟨i1, j1, f1, hm, c0, c1, c2, c3⟩ := hI
      obtain ⟨hz_l1, hz_l2, hz_k, _⟩ := hz
      refine And.intro (fun h35 => ?_) (fun h35 => ?_)
      · exact hK _ i1 j1 f1
      · refine And.intro (by omega) (fun v36 gv36 e37 => ?_)
        have b38 := iva_at i1 9 rfl (i := k) (by omega) (by omega)
        refine And.intro (by omega) (fun v39 gv39 e40 => ?_)
        have b41 := iva_at i1 31 rfl (i := l1) (by omega) (by omega)
        refine Exists.intro v39 (Exists.intro v36 (And.intro rfl (And.intro (And.intro i1 (And.intro j1 (And.intro (by omega) (And.intro (by omega) (And.intro (by omega) (by omega)))))) (fun r42 g43 g44 => ?_))))
        refine And.intro (fun h45 => ?_) (fun h45 => ?_)
        · refine fun v46 e47 => ?_
          have w48 := wI_rng v46
          have w49 : wI v46 = v46 := wI_id (by omega)
          exact Exists.intro (6 - ((wI v46)) : Int).toNat (And.intro (by omega) (And.intro i1 (And.intro j1 (And.intro f1 (And.intro rfl (And.intro (by omega) (And.intro (by omega) (And.intro (by omega) (by omega)))))))))
        · refine And.intro (by omega) (fun A50 e51 => ?_)
          have i52 := iva_st i1 e51 (And.intro (by omega) trivial)
          have j53 := ivf_sa j1 e51 rfl
          have f54 := frm_s f1 e51 rfl
          refine And.intro (by omega) (fun v55 gv55 e56 => ?_)
          have b57 := iva_at i52 31 rfl (i := l1) (by omega) (by omega)
          have q58 : v39 = v55 := (e56.trans ((congrFun (st_a e51 rfl) _).trans e40.symm)).symm
          subst q58
          refine Exists.intro v39 (Exists.intro v36 (And.intro rfl (And.intro (And.intro i52 (And.intro j53 (And.intro (by omega) (by omega)))) (fun A59 i60 j61 f62 => ?_))))
          have f63 := frm_c f54 f62 rfl
          refine fun v64 e65 => ?_
          refine And.intro (by omega) (fun v66 gv66 e67 => ?_)
          have b68 := iva_at i60 10 rfl (i := k) (by omega) (by omega)
          refine fun v69 e70 => ?_
          have h71 := mul_bd (a := v36) (b := v66) (p := 200) (q := 99) (by omega) (by omega) (by omega) (by omega)
          rw [← e70] at h71
          refine fun v72 e73 => ?_
          have w74 := wI_rng v64
          have w75 : wI v64 = v64 := wI_id (by omega)
          have w76 := wI_rng v72
          refine Exists.intro (wI v64) (Exists.intro (wI v72) (And.intro rfl (And.intro (And.intro i60 (And.intro j61 (And.intro (by omega) (by omega)))) (fun A77 i78 j79 f80 => ?_))))
          have f81 := frm_c f63 f80 rfl
          refine And.intro (by omega) (fun v82 gv82 e83 => ?_)
          have b84 := iva_at i78 31 rfl (i := l1) (by omega) (by omega)
          have q85 : v39 = v82 := (e83.trans ((congrFun (Eq.trans (frm_a f80 rfl) (frm_a f62 rfl)) _).trans e56.symm)).symm
          subst q85
          refine fun v86 e87 => ?_
          have w88 := wI_rng v86
          have w89 : wI v86 = v86 := wI_id (by omega)
          refine Exists.intro v39 (Exists.intro (wI v86) (And.intro rfl (And.intro (And.intro i78 (And.intro j79 (And.intro (by omega) (by omega)))) (fun A90 i91 j92 f93 => ?_))))
          have f94 := frm_c f81 f93 rfl
          refine fun v95 e96 => ?_
          have w97 := wI_rng v95
          have w98 : wI v95 = v95 := wI_id (by omega)
          exact Exists.intro (6 - ((wI v95)) : Int).toNat (And.intro (by omega) (And.intro i91 (And.intro j92 (And.intro f94 (And.intro rfl (And.intro (by omega) (And.intro (by omega) (And.intro (by omega) (by omega)))))))))
  · refine fun v3 gv3 e4 => ?_
    have b5 := ivf_at j0 6 rfl
    refine And.intro (fun h6 => ?_) (fun h6 => ?_)
    · refine fun v7 gv7 e8 => ?_
      refine And.intro (fun h9 => ?_) (fun h9 => ?_)
      · exact hK _ i0 j0 f0
      · refine fun A10 e11 => ?_
        have i12 := iva_sf i0 e11 rfl
        have j13 := ivf_st j0 e11 trivial
        have f14 := frm_sf f0 e11 rfl
        refine And.intro (by omega) (fun A15 e16 => ?_)
        have i17 := iva_cp i12 e16 (fun i h0 h1 => And.intro (by have := iva_at i12 32 rfl (i := 0 + i) (by omega) (by omega); omega) trivial)
        have j18 := ivf_cp j13 e16 rfl
        have f19 := frm_cp f14 e16 rfl
        exact hK _ i17 j18 f19
    · refine And.intro (fun h20 => ?_) (fun h20 => by exfalso; omega)
      refine And.intro (by omega) (fun A21 e22 => ?_)
      have i23 := iva_st i0 e22 (And.intro (by omega) trivial)
      have j24 := ivf_sa j0 e22 rfl
      have f25 := frm_s f0 e22 rfl
      refine fun v26 e27 => ?_
      have w28 := wI_rng v26
      have w29 : wI v26 = v26 := wI_id (by omega)
      refine Exists.intro (wI v26) (Exists.intro s (And.intro rfl (And.intro (And.intro i23 (And.intro j24 (And.intro (by omega) (by omega)))) (fun A30 i31 j32 f33 => ?_))))
      have f34 := frm_c f25 f33 rfl
      exact Exists.intro (6 - 0 : Int).toNat (And.intro i31 (And.intro j32 (And.intro f34 (And.intro rfl (And.intro (by omega) (And.intro (by omega) (And.intro (by omega) (by omega))))))))
def sC_choose : qS := fun as A K => ∃ x : Int, as = [rf 63, nl x] ∧ (iva IC A ∧ ivf JC A) ∧ (∀ A' : qA, iva IC A' → ivf JC A' → frm [64, 65, 66, 67] [(63, 6), (63, 7)] A A' → ∀ r : Int, 0 ≤ r → r ≤ 1 → K (some (ni r)) A')
theorem okC_choose : okM LC 7 38 sC_choose := by
  refine qmeth [] true [(39, sC_tryCell0), (21, sC_hangs), (30, sC_ripeLoadOf), (142, sC_isTold)] 71 rfl ⟨okC_tryCell0.le (by decide), ⟨okC_hangs.le (by decide), ⟨okC_ripeLoadOf.le (by decide), ⟨okC_isTold.le (by decide), trivial⟩⟩⟩⟩ ?_
  rintro _ A K hA has ⟨x, rfl, ⟨i0, j0⟩, hK⟩
  have rg_x : rngL x := has (nl x) (by simp)
  have f0 := frm_0 [64, 65, 66, 67] [(63, 6), (63, 7)] A
  refine ⟨Nat.le_of_ble_eq_true rfl, [(8, [(0, 2, 63), (1, 1, 0), (3, 0, 0)], fun zs B nn => match zs with | [l1, k] => iva IC B ∧ ivf JC B ∧ frm [64, 65, 66, 67] [(63, 6), (63, 7)] A B ∧ nn = (48 - k : Int).toNat ∧ (l1 = x) ∧ (0 ≤ k) ∧ (k ≤ 48) | _ => False)], ?_, ?_⟩
  · refine ⟨⟨rfl, ?_⟩, trivial⟩
    · refine fun l1 k B mm hB hz hI => ?_
      obtain ⟨i1, j1, f1, hm, c0, c1, c2⟩ := hI
      obtain ⟨hz_l1, hz_k, _⟩ := hz
      refine And.intro (fun h11 => ?_) (fun h11 => ?_)
      · refine Exists.intro 0 (Exists.intro 0 (And.intro rfl (And.intro (And.intro i1 (And.intro j1 (And.intro (by omega) (by omega)))) (fun A12 i13 j14 f15 => ?_))))
        have f16 := frm_c f1 f15 rfl
        exact And.intro (by omega) (hK _ i13 j14 f16 _ (by omega) (by omega))
      · refine Exists.intro k (And.intro rfl (And.intro (fun h17 => ?_) (fun h17 => ?_)))
        · refine And.intro (fun h18 => by exfalso; omega) (fun h18 => ?_)
          refine And.intro (by omega) (fun v19 gv19 e20 => ?_)
          have b21 := iva_at i1 0 rfl (i := k) (by omega) (by omega)
          refine Exists.intro k (And.intro rfl (And.intro (And.intro i1 (And.intro j1 (And.intro (by omega) (by omega)))) (fun r22 g23 => ?_)))
          refine fun v24 e25 => ?_
          have w28 := wI_rng v24
          refine And.intro (by omega) (fun A26 e27 => ?_)
          have i29 := iva_st i1 e27 trivial
          have j30 := ivf_sa j1 e27 rfl
          have f31 := frm_s f1 e27 rfl
          refine And.intro (by omega) (fun v32 gv32 e33 => ?_)
          have q34 : (wI v24) = v32 := (e33.trans (st_v e27)).symm
          subst q34
          refine And.intro (fun h35 => ?_) (fun h35 => ?_)
          · refine Exists.intro l1 (Exists.intro k (And.intro rfl (fun r36 g37 g38 => ?_)))
            refine And.intro (fun h39 => ?_) (fun h39 => ?_)
            · refine fun v40 e41 => ?_
              have w42 := wI_rng v40
              have w43 : wI v40 = v40 := wI_id (by omega)
              exact Exists.intro (48 - ((wI v40)) : Int).toNat (And.intro (by omega) (And.intro i29 (And.intro j30 (And.intro f31 (And.intro rfl (And.intro (by omega) (And.intro (by omega) (by omega))))))))
            · refine fun v44 gv44 e45 => ?_
              have b46 := ivf_at j30 6 rfl
              refine And.intro (fun h47 => ?_) (fun h47 => ?_)
              · refine fun v48 e49 => ?_
                have w50 := wI_rng v48
                have w51 : wI v48 = v48 := wI_id (by omega)
                exact Exists.intro (48 - ((wI v48)) : Int).toNat (And.intro (by omega) (And.intro i29 (And.intro j30 (And.intro f31 (And.intro rfl (And.intro (by omega) (And.intro (by omega) (by omega))))))))
              · refine fun v52 gv52 e53 => ?_
                have b54 := ivf_at j30 6 rfl
                have q55 : v44 = v52 := (e53.trans e45.symm).symm
                subst q55
                refine And.intro (by omega) (fun A56 e57 => ?_)
                have i58 := iva_st i29 e57 (And.intro (by omega) trivial)
                have j59 := ivf_sa j30 e57 rfl
                have f60 := frm_s f31 e57 rfl
                refine fun v61 gv61 e62 => ?_
                have b63 := ivf_at j59 6 rfl
                have q64 : v44 = v61 := (e62.trans ((congrFun (st_a e57 rfl) _).trans e53.symm)).symm
                subst q64
                refine fun v65 e66 => ?_
                have w69 := wI_rng v65
                have w70 : wI v65 = v65 := wI_id (by omega)
                refine fun A67 e68 => ?_
                have i71 := iva_sf i58 e68 rfl
                have j72 := ivf_st j59 e68 (And.intro (by omega) trivial)
                have f73 := frm_sf f60 e68 rfl
                refine fun v74 e75 => ?_
                have w76 := wI_rng v74
                have w77 : wI v74 = v74 := wI_id (by omega)
                exact Exists.intro (48 - ((wI v74)) : Int).toNat (And.intro (by omega) (And.intro i71 (And.intro j72 (And.intro f73 (And.intro rfl (And.intro (by omega) (And.intro (by omega) (by omega))))))))
          · exact And.intro (by omega) (hK _ i29 j30 f31 _ (by omega) (by omega))
        · refine And.intro (fun h78 => ?_) (fun h78 => by exfalso; omega)
          refine Exists.intro l1 (Exists.intro k (And.intro rfl (fun r79 g80 g81 => ?_)))
          refine And.intro (fun h82 => ?_) (fun h82 => ?_)
          · refine fun v83 e84 => ?_
            have w85 := wI_rng v83
            have w86 : wI v83 = v83 := wI_id (by omega)
            exact Exists.intro (48 - ((wI v83)) : Int).toNat (And.intro (by omega) (And.intro i1 (And.intro j1 (And.intro f1 (And.intro rfl (And.intro (by omega) (And.intro (by omega) (by omega))))))))
          · refine fun v87 gv87 e88 => ?_
            have b89 := ivf_at j1 6 rfl
            refine And.intro (fun h90 => ?_) (fun h90 => ?_)
            · refine fun v91 e92 => ?_
              have w93 := wI_rng v91
              have w94 : wI v91 = v91 := wI_id (by omega)
              exact Exists.intro (48 - ((wI v91)) : Int).toNat (And.intro (by omega) (And.intro i1 (And.intro j1 (And.intro f1 (And.intro rfl (And.intro (by omega) (And.intro (by omega) (by omega))))))))
            · refine fun v95 gv95 e96 => ?_
              have b97 := ivf_at j1 6 rfl
              have q98 : v87 = v95 := (e96.trans e88.symm).symm
              subst q98
              refine And.intro (by omega) (fun A99 e100 => ?_)
              have i101 := iva_st i1 e100 (And.intro (by omega) trivial)
              have j102 := ivf_sa j1 e100 rfl
              have f103 := frm_s f1 e100 rfl
              refine fun v104 gv104 e105 => ?_
              have b106 := ivf_at j102 6 rfl
              have q107 : v87 = v104 := (e105.trans ((congrFun (st_a e100 rfl) _).trans e96.symm)).symm
              subst q107
              refine fun v108 e109 => ?_
              have w112 := wI_rng v108
              have w113 : wI v108 = v108 := wI_id (by omega)
              refine fun A110 e111 => ?_
              have i114 := iva_sf i101 e111 rfl
              have j115 := ivf_st j102 e111 (And.intro (by omega) trivial)
              have f116 := frm_sf f103 e111 rfl
              refine fun v117 e118 => ?_
              have w119 := wI_rng v117
              have w120 : wI v117 = v117 := wI_id (by omega)
              exact Exists.intro (48 - ((wI v117)) : Int).toNat (And.intro (by omega) (And.intro i114 (And.intro j115 (And.intro f116 (And.intro rfl (And.intro (by omega) (And.intro (by omega) (by omega))))))))
  · refine fun A1 e2 => ?_
    have i3 := iva_sf i0 e2 rfl
    have j4 := ivf_st j0 e2 (And.intro (by omega) trivial)
    have f5 := frm_sf f0 e2 rfl
    refine fun A6 e7 => ?_
    have i8 := iva_sf i3 e7 rfl
    have j9 := ivf_st j4 e7 trivial
    have f10 := frm_sf f5 e7 rfl
    exact Exists.intro (48 - 0 : Int).toNat (And.intro i8 (And.intro j9 (And.intro f10 (And.intro rfl (And.intro (by omega) (And.intro (by omega) (by omega)))))))
def sC_carryOut : qS := fun as A K => as = [rf 63] ∧ (iva IC A ∧ ivf JC A) ∧ (∀ A' : qA, iva IC A' → ivf JC A' → frm [6, 7, 10] [] A A' → K none A')
theorem okC_carryOut : okM LC 2 42 sC_carryOut := by
  refine qmeth [] false [(25, sC_setCrop)] 33 rfl ⟨okC_setCrop.le (by decide), trivial⟩ ?_
  rintro _ A K hA has ⟨rfl, ⟨i0, j0⟩, hK⟩
  have f0 := frm_0 [6, 7, 10] [] A
  refine ⟨Nat.le_of_ble_eq_true rfl, [(2, [(0, 2, 63), (1, 0, 0)], fun zs B nn => match zs with | [k] => iva IC B ∧ ivf JC B ∧ frm [6, 7, 10] [] A B ∧ nn = (5 - k : Int).toNat ∧ (0 ≤ k) ∧ (k ≤ 5) | _ => False)], ?_, ?_⟩
  · refine ⟨⟨rfl, ?_⟩, trivial⟩
    · refine fun k B mm hB hz hI => ?_
      obtain ⟨i1, j1, f1, hm, c0, c1⟩ := hI
      obtain ⟨hz_k, _⟩ := hz
      refine fun v1 gv1 e2 => ?_
      have b3 := ivf_at j1 6 rfl
      refine And.intro (fun h4 => ?_) (fun h4 => ?_)
      · exact hK _ i1 j1 f1
      · refine And.intro (by omega) (fun v5 gv5 e6 => ?_)
        have b7 := iva_at i1 33 rfl (i := k) (by omega) (by omega)
        refine And.intro (fun h8 => ?_) (fun h8 => ?_)
        · refine fun v9 e10 => ?_
          exact And.intro (by omega) (Exists.intro (5 - v9 : Int).toNat (And.intro (by omega) (And.intro i1 (And.intro j1 (And.intro f1 (And.intro rfl (And.intro (by omega) (by omega))))))))
        · refine And.intro (by omega) (fun v11 gv11 e12 => ?_)
          have b13 := iva_at i1 31 rfl (i := k) (by omega) (by omega)
          refine And.intro (by omega) (fun v14 gv14 e15 => ?_)
          have b16 := iva_at i1 33 rfl (i := k) (by omega) (by omega)
          have q17 : v5 = v14 := (e15.trans e6.symm).symm
          subst q17
          refine Exists.intro v11 (Exists.intro v5 (Exists.intro 0 (And.intro rfl (And.intro (And.intro i1 (And.intro j1 (And.intro (by omega) (And.intro (by omega) (And.intro (by omega) (And.intro (by omega) (And.intro (by omega) (by omega)))))))) (fun A18 i19 j20 f21 => ?_)))))
          have f22 := frm_c f1 f21 rfl
          refine fun v23 e24 => ?_
          exact And.intro (by omega) (Exists.intro (5 - v23 : Int).toNat (And.intro (by omega) (And.intro i19 (And.intro j20 (And.intro f22 (And.intro rfl (And.intro (by omega) (by omega))))))))
  · exact Exists.intro (5 - 0 : Int).toNat (And.intro i0 (And.intro j0 (And.intro f0 (And.intro rfl (And.intro (by omega) (by omega))))))
def sC_kindAt : qS := fun as A K => ∃ p : Int, as = [rf 63, ni p] ∧ (iva IC A ∧ ivf JC A) ∧ (∀ r : Int, (-1) ≤ r → r ≤ 5 → K (some (ni r)) A)
theorem okC_kindAt : okM LC 2 43 sC_kindAt := by
  refine qmeth [] false [(138, sC_within)] 17 rfl ⟨okC_within.le (by decide), trivial⟩ ?_
  rintro _ A K hA has ⟨p, rfl, ⟨i0, j0⟩, hK⟩
  have rg_p : rng p := has (ni p) (by simp)
  have f0 := frm_0 [] [] A
  refine ⟨Nat.le_of_ble_eq_true rfl, [], trivial, ?_⟩
  refine Exists.intro p (Exists.intro 4 (And.intro rfl (And.intro (fun h1 => ?_) (fun h1 => ?_))))
  · refine And.intro (fun h2 => by exfalso; omega) (fun h2 => ?_)
    refine And.intro (by omega) (fun v3 gv3 e4 => ?_)
    have b5 := iva_at i0 33 rfl (i := p) (by omega) (by omega)
    exact hK _ (by omega) (by omega)
  · refine And.intro (fun h6 => ?_) (fun h6 => by exfalso; omega)
    exact hK _ (by omega) (by omega)
