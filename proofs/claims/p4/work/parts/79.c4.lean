def sC_seeCell : qS := fun as A K => ∃ c : Int, as = [rf 34, ni c] ∧ (iva IC A ∧ ivf JC A ∧ 0 ≤ c ∧ c ≤ 47) ∧ (∀ A' : qA, iva IC A' → ivf JC A' → frm [35] [] A A' → K none A')
theorem okC_seeCell : okM LC 2 10 sC_seeCell := by
  refine qmeth [] false [(250, sC_fill35)] 79 rfl ⟨okC_fill35.le (by decide), trivial⟩ ?_
  rintro _ A K hA has ⟨c, rfl, ⟨i0, j0, p1, p2⟩, hK⟩
  have rg_c : rng c := has (ni c) (by simp)
  have f0 := frm_0 [35] [] A
  refine ⟨Nat.le_of_ble_eq_true rfl, [], trivial, ?_⟩
  refine Exists.intro 0 (And.intro rfl (And.intro (And.intro i0 j0) (fun A3 i4 j5 f6 => ?_)))
  have f7 := frm_c f0 f6 rfl
  refine And.intro (by omega) (fun v8 e9 => ?_)
  have h10 := qd_nn (a := c) (b := 6) (by omega)
  refine And.intro (by omega) (And.intro (by omega) (fun A11 e12 => ?_))
  have i13 := iva_st i4 e12 trivial
  have j14 := ivf_sa j5 e12 rfl
  have f15 := frm_s f7 e12 rfl
  refine And.intro (by omega) (fun v16 e17 => ?_)
  have h18 := qm_nn (a := c) (b := 6) (by omega)
  refine And.intro (by omega) (fun A19 e20 => ?_)
  have i21 := iva_st i13 e20 trivial
  have j22 := ivf_sa j14 e20 rfl
  have f23 := frm_s f15 e20 rfl
  refine And.intro (by omega) (fun v24 gv24 e25 => ?_)
  refine And.intro (by omega) (fun A26 e27 => ?_)
  have i28 := iva_st i21 e27 trivial
  have j29 := ivf_sa j22 e27 rfl
  have f30 := frm_s f23 e27 rfl
  refine And.intro (by omega) (fun v31 gv31 e32 => ?_)
  have b33 := iva_at i28 0 rfl (i := c) (by omega) (by omega)
  refine And.intro (by omega) (fun A34 e35 => ?_)
  have i36 := iva_st i28 e35 trivial
  have j37 := ivf_sa j29 e35 rfl
  have f38 := frm_s f30 e35 rfl
  refine And.intro (by omega) (fun v39 gv39 e40 => ?_)
  refine And.intro (by omega) (fun A41 e42 => ?_)
  have i43 := iva_st i36 e42 trivial
  have j44 := ivf_sa j37 e42 rfl
  have f45 := frm_s f38 e42 rfl
  refine And.intro (by omega) (fun v46 gv46 e47 => ?_)
  have b48 := iva_at i43 4 rfl (i := c) (by omega) (by omega)
  refine And.intro (by omega) (fun A49 e50 => ?_)
  have i51 := iva_st i43 e50 trivial
  have j52 := ivf_sa j44 e50 rfl
  have f53 := frm_s f45 e50 rfl
  refine fun v54 gv54 e55 => ?_
  refine And.intro (by omega) (fun A56 e57 => ?_)
  have i58 := iva_st i51 e57 trivial
  have j59 := ivf_sa j52 e57 rfl
  have f60 := frm_s f53 e57 rfl
  refine And.intro (by omega) (fun v61 e62 => ?_)
  have h63 := qd_nn (a := c) (b := 6) (by omega)
  refine And.intro (by omega) (fun v64 gv64 e65 => ?_)
  have b66 := iva_at i58 13 rfl (i := v61) (by omega) (by omega)
  refine And.intro (by omega) (fun A67 e68 => ?_)
  have i69 := iva_st i58 e68 trivial
  have j70 := ivf_sa j59 e68 rfl
  have f71 := frm_s f60 e68 rfl
  exact hK _ i69 j70 f71
def sC_seeFallen : qS := fun as A K => ∃ i : Int, as = [rf 34, ni i] ∧ (iva IC A ∧ ivf JC A ∧ 0 ≤ i ∧ i ≤ 60) ∧ (∀ A' : qA, iva IC A' → ivf JC A' → frm [35] [] A A' → K none A')
theorem okC_seeFallen : okM LC 1 12 sC_seeFallen := by
  refine qmeth [] false [] 51 rfl trivial ?_
  rintro _ A K hA has ⟨i, rfl, ⟨i0, j0, p1, p2⟩, hK⟩
  have rg_i : rng i := has (ni i) (by simp)
  have f0 := frm_0 [35] [] A
  refine ⟨Nat.le_of_ble_eq_true rfl, [], trivial, ?_⟩
  refine And.intro (by omega) (fun v3 gv3 e4 => ?_)
  have b5 := iva_at i0 18 rfl (i := i) (by omega) (by omega)
  refine And.intro (by omega) (fun A6 e7 => ?_)
  have i8 := iva_st i0 e7 trivial
  have j9 := ivf_sa j0 e7 rfl
  have f10 := frm_s f0 e7 rfl
  refine And.intro (by omega) (fun v11 gv11 e12 => ?_)
  have b13 := iva_at i8 19 rfl (i := i) (by omega) (by omega)
  refine And.intro (by omega) (fun A14 e15 => ?_)
  have i16 := iva_st i8 e15 trivial
  have j17 := ivf_sa j9 e15 rfl
  have f18 := frm_s f10 e15 rfl
  refine And.intro (by omega) (fun v19 gv19 e20 => ?_)
  have b21 := iva_at i16 6 rfl (i := i) (by omega) (by omega)
  refine And.intro (fun h22 => ?_) (fun h22 => ?_)
  · refine And.intro (by omega) (fun A23 e24 => ?_)
    have i25 := iva_st i16 e24 trivial
    have j26 := ivf_sa j17 e24 rfl
    have f27 := frm_s f18 e24 rfl
    refine And.intro (by omega) (fun v28 gv28 e29 => ?_)
    have b30 := iva_at i25 7 rfl (i := i) (by omega) (by omega)
    refine And.intro (fun h31 => ?_) (fun h31 => ?_)
    · refine And.intro (by omega) (fun A32 e33 => ?_)
      have i34 := iva_st i25 e33 trivial
      have j35 := ivf_sa j26 e33 rfl
      have f36 := frm_s f27 e33 rfl
      exact hK _ i34 j35 f36
    · refine And.intro (by omega) (fun A37 e38 => ?_)
      have i39 := iva_st i25 e38 trivial
      have j40 := ivf_sa j26 e38 rfl
      have f41 := frm_s f27 e38 rfl
      exact hK _ i39 j40 f41
  · refine And.intro (by omega) (fun A42 e43 => ?_)
    have i44 := iva_st i16 e43 trivial
    have j45 := ivf_sa j17 e43 rfl
    have f46 := frm_s f18 e43 rfl
    refine And.intro (by omega) (fun v47 gv47 e48 => ?_)
    have b49 := iva_at i44 7 rfl (i := i) (by omega) (by omega)
    refine And.intro (fun h50 => ?_) (fun h50 => ?_)
    · refine And.intro (by omega) (fun A51 e52 => ?_)
      have i53 := iva_st i44 e52 trivial
      have j54 := ivf_sa j45 e52 rfl
      have f55 := frm_s f46 e52 rfl
      exact hK _ i53 j54 f55
    · refine And.intro (by omega) (fun A56 e57 => ?_)
      have i58 := iva_st i44 e57 trivial
      have j59 := ivf_sa j45 e57 rfl
      have f60 := frm_s f46 e57 rfl
      exact hK _ i58 j59 f60
def sC_seeCellAndCrop : qS := fun as A K => ∃ c : Int, as = [rf 34, ni c] ∧ (iva IC A ∧ ivf JC A ∧ 0 ≤ c ∧ c ≤ 47) ∧ (∀ A' : qA, iva IC A' → ivf JC A' → frm [35] [] A A' → K none A')
theorem okC_seeCellAndCrop : okM LC 4 11 sC_seeCellAndCrop := by
  refine qmeth [] false [(10, sC_seeCell), (22, sC_hasCrop), (23, sC_isRipe)] 58 rfl ⟨okC_seeCell.le (by decide), ⟨okC_hasCrop.le (by decide), ⟨okC_isRipe.le (by decide), trivial⟩⟩⟩ ?_
  rintro _ A K hA has ⟨c, rfl, ⟨i0, j0, p1, p2⟩, hK⟩
  have rg_c : rng c := has (ni c) (by simp)
  have f0 := frm_0 [35] [] A
  refine ⟨Nat.le_of_ble_eq_true rfl, [], trivial, ?_⟩
  refine Exists.intro c (And.intro rfl (And.intro (And.intro i0 (And.intro j0 (And.intro (by omega) (by omega)))) (fun A3 i4 j5 f6 => ?_)))
  have f7 := frm_c f0 f6 rfl
  refine Exists.intro c (And.intro rfl (And.intro (fun h8 => ?_) (fun h8 => ?_)))
  · obtain ⟨v9, e10⟩ : ∃ v, v = A3 6 c := ⟨_, rfl⟩
    refine And.intro (fun h11 => by exfalso; omega) (fun h11 => ?_)
    refine And.intro (by omega) (fun v12 gv12 e13 => ?_)
    have b14 := iva_at i4 2 rfl (i := c) (by omega) (by omega)
    have q15 : v9 = v12 := (e13.trans e10.symm).symm
    subst q15
    refine And.intro (by omega) (fun A16 e17 => ?_)
    have i18 := iva_st i4 e17 trivial
    have j19 := ivf_sa j5 e17 rfl
    have f20 := frm_s f7 e17 rfl
    refine And.intro (by omega) (fun v21 gv21 e22 => ?_)
    have b23 := iva_at i18 3 rfl (i := c) (by omega) (by omega)
    refine And.intro (by omega) (fun A24 e25 => ?_)
    have i26 := iva_st i18 e25 trivial
    have j27 := ivf_sa j19 e25 rfl
    have f28 := frm_s f20 e25 rfl
    refine Exists.intro c (And.intro rfl (And.intro (And.intro i26 j27) (fun r29 g30 g31 => ?_)))
    refine And.intro (fun h32 => ?_) (fun h32 => ?_)
    · refine And.intro (by omega) (fun A33 e34 => ?_)
      have i35 := iva_st i26 e34 trivial
      have j36 := ivf_sa j27 e34 rfl
      have f37 := frm_s f28 e34 rfl
      refine And.intro (by omega) (fun v38 gv38 e39 => ?_)
      have b40 := iva_at i35 5 rfl (i := c) (by omega) (by omega)
      refine And.intro (fun h41 => ?_) (fun h41 => ?_)
      · refine And.intro (by omega) (fun A42 e43 => ?_)
        have i44 := iva_st i35 e43 trivial
        have j45 := ivf_sa j36 e43 rfl
        have f46 := frm_s f37 e43 rfl
        exact hK _ i44 j45 f46
      · refine And.intro (by omega) (fun A47 e48 => ?_)
        have i49 := iva_st i35 e48 trivial
        have j50 := ivf_sa j36 e48 rfl
        have f51 := frm_s f37 e48 rfl
        exact hK _ i49 j50 f51
    · refine And.intro (by omega) (fun A52 e53 => ?_)
      have i54 := iva_st i26 e53 trivial
      have j55 := ivf_sa j27 e53 rfl
      have f56 := frm_s f28 e53 rfl
      refine And.intro (by omega) (fun v57 gv57 e58 => ?_)
      have b59 := iva_at i54 5 rfl (i := c) (by omega) (by omega)
      refine And.intro (fun h60 => ?_) (fun h60 => ?_)
      · refine And.intro (by omega) (fun A61 e62 => ?_)
        have i63 := iva_st i54 e62 trivial
        have j64 := ivf_sa j55 e62 rfl
        have f65 := frm_s f56 e62 rfl
        exact hK _ i63 j64 f65
      · refine And.intro (by omega) (fun A66 e67 => ?_)
        have i68 := iva_st i54 e67 trivial
        have j69 := ivf_sa j55 e67 rfl
        have f70 := frm_s f56 e67 rfl
        exact hK _ i68 j69 f70
  · refine And.intro (fun h71 => ?_) (fun h71 => by exfalso; omega)
    exact hK _ i4 j5 f7
def sC_seeFall : qS := fun as A K => ∃ i : Int, as = [rf 34, ni i] ∧ (iva IC A ∧ ivf JC A ∧ 0 ≤ i ∧ i ≤ 60) ∧ (∀ A' : qA, iva IC A' → ivf JC A' → frm [35] [] A A' → K none A')
theorem okC_seeFall : okM LC 3 13 sC_seeFall := by
  refine qmeth [] false [(10, sC_seeCell), (12, sC_seeFallen)] 34 rfl ⟨okC_seeCell.le (by decide), ⟨okC_seeFallen.le (by decide), trivial⟩⟩ ?_
  rintro _ A K hA has ⟨i, rfl, ⟨i0, j0, p1, p2⟩, hK⟩
  have rg_i : rng i := has (ni i) (by simp)
  have f0 := frm_0 [35] [] A
  refine ⟨Nat.le_of_ble_eq_true rfl, [], trivial, ?_⟩
  refine And.intro (by omega) (fun v3 gv3 e4 => ?_)
  have b5 := iva_at i0 17 rfl (i := i) (by omega) (by omega)
  refine Exists.intro v3 (And.intro rfl (And.intro (And.intro i0 (And.intro j0 (And.intro (by omega) (by omega)))) (fun A6 i7 j8 f9 => ?_)))
  have f10 := frm_c f0 f9 rfl
  refine Exists.intro i (And.intro rfl (And.intro (And.intro i7 (And.intro j8 (And.intro (by omega) (by omega)))) (fun A11 i12 j13 f14 => ?_)))
  have f15 := frm_c f10 f14 rfl
  refine And.intro (by omega) (fun v16 gv16 e17 => ?_)
  have b18 := iva_at i12 20 rfl (i := i) (by omega) (by omega)
  refine And.intro (by omega) (fun v19 gv19 e20 => ?_)
  have b21 := iva_at i12 17 rfl (i := i) (by omega) (by omega)
  have q22 : v3 = v19 := (e20.trans ((congrFun (Eq.trans (frm_a f14 rfl) (frm_a f9 rfl)) _).trans e4.symm)).symm
  subst q22
  refine And.intro (by omega) (fun v23 e24 => ?_)
  have h25 := qm_nn (a := v3) (b := 6) (by omega)
  refine fun v26 e27 => ?_
  refine And.intro (by omega) (And.intro (by omega) (fun A28 e29 => ?_))
  have i30 := iva_st i12 e29 trivial
  have j31 := ivf_sa j13 e29 rfl
  have f32 := frm_s f15 e29 rfl
  exact hK _ i30 j31 f32
def sC_growth36 : qS := fun as A K => ∃ c d : Int, as = [rf 34, ni c, ni d] ∧ (iva IC A ∧ ivf JC A ∧ 0 ≤ c ∧ c ≤ 47 ∧ (36 ≤ A 34 (fd 4) ∧ A 34 (fd 4) ≤ 36) ∧ (KO A)) ∧ (∀ A' : qA, iva IC A' → ivf JC A' → frm [35, 43, 78] [(36, 9), (71, 9)] A A' → ∀ r : Int, 0 ≤ r → r ≤ 50 → K (some (ni r)) A')
theorem okC_growth36 : okM LC 5 4 sC_growth36 := by
  refine qmeth [(34, 4, 36)] false [(11, sC_seeCellAndCrop), (76, sC_answer36)] 22 rfl ⟨okC_seeCellAndCrop.le (by decide), ⟨okC_answer36.le (by decide), trivial⟩⟩ ?_
  rintro _ A K hA has ⟨c, d, rfl, ⟨i0, j0, p1, p2, p3, p4⟩, hK⟩
  have rg_c : rng c := has (ni c) (by simp)
  have rg_d : rng d := has (ni d) (by simp)
  have f0 := frm_0 [35, 43, 78] [(36, 9), (71, 9)] A
  obtain ⟨v5, e6⟩ : ∃ v, v = A 34 (fd 4) := ⟨_, rfl⟩
  rw [← e6] at p3
  refine ⟨Nat.le_of_ble_eq_true rfl, [], trivial, ?_⟩
  refine Exists.intro c (And.intro rfl (And.intro (And.intro i0 (And.intro j0 (And.intro (by omega) (by omega)))) (fun A7 i8 j9 f10 => ?_)))
  have f11 := frm_c f0 f10 rfl
  refine And.intro (by omega) (fun A12 e13 => ?_)
  have i14 := iva_st i8 e13 trivial
  have j15 := ivf_sa j9 e13 rfl
  have f16 := frm_s f11 e13 rfl
  obtain ⟨v17, e18⟩ : ∃ v, v = A12 34 (fd 4) := ⟨_, rfl⟩
  have q19 : v5 = v17 := (e18.trans ((Eq.trans (congrFun (st_a e13 rfl) _) (frm_f f10 rfl)).trans e6.symm)).symm
  subst q19
  refine And.intro (show A12 34 (fd 4) = ((36 : Nat) : Int) by omega) ?_
  refine Exists.intro 103 (Exists.intro 50 (And.intro rfl (And.intro (And.intro i14 (And.intro j15 (And.intro (by omega) (And.intro (by omega) (KO_fr p4 f16 rfl))))) (fun A20 i21 j22 f23 r24 g26 g27 g25 => ?_))))
  have f28 := frm_c f16 f23 rfl
  exact hK _ i21 j22 f28 _ (by omega) (by omega)
def sC_growth71 : qS := fun as A K => ∃ c d : Int, as = [rf 34, ni c, ni d] ∧ (iva IC A ∧ ivf JC A ∧ 0 ≤ c ∧ c ≤ 47 ∧ (71 ≤ A 34 (fd 4) ∧ A 34 (fd 4) ≤ 71) ∧ (KO A)) ∧ (∀ A' : qA, iva IC A' → ivf JC A' → frm [35, 43, 78] [(36, 9), (71, 9)] A A' → ∀ r : Int, 0 ≤ r → r ≤ 50 → K (some (ni r)) A')
theorem okC_growth71 : okM LC 5 4 sC_growth71 := by
  refine qmeth [(34, 4, 71)] false [(11, sC_seeCellAndCrop), (76, sC_answer71)] 22 rfl ⟨okC_seeCellAndCrop.le (by decide), ⟨okC_answer71.le (by decide), trivial⟩⟩ ?_
  rintro _ A K hA has ⟨c, d, rfl, ⟨i0, j0, p1, p2, p3, p4⟩, hK⟩
  have rg_c : rng c := has (ni c) (by simp)
  have rg_d : rng d := has (ni d) (by simp)
  have f0 := frm_0 [35, 43, 78] [(36, 9), (71, 9)] A
  obtain ⟨v5, e6⟩ : ∃ v, v = A 34 (fd 4) := ⟨_, rfl⟩
  rw [← e6] at p3
  refine ⟨Nat.le_of_ble_eq_true rfl, [], trivial, ?_⟩
  refine Exists.intro c (And.intro rfl (And.intro (And.intro i0 (And.intro j0 (And.intro (by omega) (by omega)))) (fun A7 i8 j9 f10 => ?_)))
  have f11 := frm_c f0 f10 rfl
  refine And.intro (by omega) (fun A12 e13 => ?_)
  have i14 := iva_st i8 e13 trivial
  have j15 := ivf_sa j9 e13 rfl
  have f16 := frm_s f11 e13 rfl
  obtain ⟨v17, e18⟩ : ∃ v, v = A12 34 (fd 4) := ⟨_, rfl⟩
  have q19 : v5 = v17 := (e18.trans ((Eq.trans (congrFun (st_a e13 rfl) _) (frm_f f10 rfl)).trans e6.symm)).symm
  subst q19
  refine And.intro (show A12 34 (fd 4) = ((71 : Nat) : Int) by omega) ?_
  refine Exists.intro 103 (Exists.intro 50 (And.intro rfl (And.intro (And.intro i14 (And.intro j15 (And.intro (by omega) (And.intro (by omega) (KO_fr p4 f16 rfl))))) (fun A20 i21 j22 f23 r24 g26 g27 g25 => ?_))))
  have f28 := frm_c f16 f23 rfl
  exact hK _ i21 j22 f28 _ (by omega) (by omega)
def sC_growth : qS := fun as A K => ∃ c d : Int, as = [rf 34, ni c, ni d] ∧ (iva IC A ∧ ivf JC A ∧ 0 ≤ c ∧ c ≤ 47 ∧ (LW A) ∧ (KO A)) ∧ (∀ A' : qA, iva IC A' → ivf JC A' → frm [35, 43, 78] [(36, 9), (71, 9)] A A' → ∀ r : Int, 0 ≤ r → r ≤ 50 → K (some (ni r)) A')
theorem okC_growth : okM LC 5 4 sC_growth := by
  refine okM_or (okC_growth36.le (by decide)) (okC_growth71.le (by decide)) ?_
  rintro _ A K ⟨c, d, rfl, ⟨h0, h1, h2, h3, h4, h5⟩, hK⟩
  rcases h4 with q | q
  · exact Or.inl ⟨c, d, rfl, ⟨h0, h1, h2, h3, ⟨by omega, by omega⟩, h5⟩, hK⟩
  · exact Or.inr ⟨c, d, rfl, ⟨h0, h1, h2, h3, ⟨by omega, by omega⟩, h5⟩, hK⟩
def sC_odds36 : qS := fun as A K => ∃ c : Int, as = [rf 34, ni c] ∧ (iva IC A ∧ ivf JC A ∧ 0 ≤ c ∧ c ≤ 47 ∧ (36 ≤ A 34 (fd 4) ∧ A 34 (fd 4) ≤ 36) ∧ (KO A)) ∧ (∀ A' : qA, iva IC A' → ivf JC A' → frm [35, 43, 78] [(36, 9), (71, 9)] A A' → ∀ r : Int, 0 ≤ r → r ≤ 1000 → K (some (ni r)) A')
theorem okC_odds36 : okM LC 5 5 sC_odds36 := by
  refine qmeth [(34, 4, 36)] false [(11, sC_seeCellAndCrop), (76, sC_answer36)] 17 rfl ⟨okC_seeCellAndCrop.le (by decide), ⟨okC_answer36.le (by decide), trivial⟩⟩ ?_
  rintro _ A K hA has ⟨c, rfl, ⟨i0, j0, p1, p2, p3, p4⟩, hK⟩
  have rg_c : rng c := has (ni c) (by simp)
  have f0 := frm_0 [35, 43, 78] [(36, 9), (71, 9)] A
  obtain ⟨v5, e6⟩ : ∃ v, v = A 34 (fd 4) := ⟨_, rfl⟩
  rw [← e6] at p3
  refine ⟨Nat.le_of_ble_eq_true rfl, [], trivial, ?_⟩
  refine Exists.intro c (And.intro rfl (And.intro (And.intro i0 (And.intro j0 (And.intro (by omega) (by omega)))) (fun A7 i8 j9 f10 => ?_)))
  have f11 := frm_c f0 f10 rfl
  obtain ⟨v12, e13⟩ : ∃ v, v = A7 34 (fd 4) := ⟨_, rfl⟩
  have q14 : v5 = v12 := (e13.trans ((frm_f f10 rfl).trans e6.symm)).symm
  subst q14
  refine And.intro (show A7 34 (fd 4) = ((36 : Nat) : Int) by omega) ?_
  refine Exists.intro 102 (Exists.intro 1000 (And.intro rfl (And.intro (And.intro i8 (And.intro j9 (And.intro (by omega) (And.intro (by omega) (KO_fr p4 f11 rfl))))) (fun A15 i16 j17 f18 r19 g21 g22 g20 => ?_))))
  have f23 := frm_c f11 f18 rfl
  exact hK _ i16 j17 f23 _ (by omega) (by omega)
def sC_odds71 : qS := fun as A K => ∃ c : Int, as = [rf 34, ni c] ∧ (iva IC A ∧ ivf JC A ∧ 0 ≤ c ∧ c ≤ 47 ∧ (71 ≤ A 34 (fd 4) ∧ A 34 (fd 4) ≤ 71) ∧ (KO A)) ∧ (∀ A' : qA, iva IC A' → ivf JC A' → frm [35, 43, 78] [(36, 9), (71, 9)] A A' → ∀ r : Int, 0 ≤ r → r ≤ 1000 → K (some (ni r)) A')
theorem okC_odds71 : okM LC 5 5 sC_odds71 := by
  refine qmeth [(34, 4, 71)] false [(11, sC_seeCellAndCrop), (76, sC_answer71)] 17 rfl ⟨okC_seeCellAndCrop.le (by decide), ⟨okC_answer71.le (by decide), trivial⟩⟩ ?_
  rintro _ A K hA has ⟨c, rfl, ⟨i0, j0, p1, p2, p3, p4⟩, hK⟩
  have rg_c : rng c := has (ni c) (by simp)
  have f0 := frm_0 [35, 43, 78] [(36, 9), (71, 9)] A
  obtain ⟨v5, e6⟩ : ∃ v, v = A 34 (fd 4) := ⟨_, rfl⟩
  rw [← e6] at p3
  refine ⟨Nat.le_of_ble_eq_true rfl, [], trivial, ?_⟩
  refine Exists.intro c (And.intro rfl (And.intro (And.intro i0 (And.intro j0 (And.intro (by omega) (by omega)))) (fun A7 i8 j9 f10 => ?_)))
  have f11 := frm_c f0 f10 rfl
  obtain ⟨v12, e13⟩ : ∃ v, v = A7 34 (fd 4) := ⟨_, rfl⟩
  have q14 : v5 = v12 := (e13.trans ((frm_f f10 rfl).trans e6.symm)).symm
  subst q14
  refine And.intro (show A7 34 (fd 4) = ((71 : Nat) : Int) by omega) ?_
  refine Exists.intro 102 (Exists.intro 1000 (And.intro rfl (And.intro (And.intro i8 (And.intro j9 (And.intro (by omega) (And.intro (by omega) (KO_fr p4 f11 rfl))))) (fun A15 i16 j17 f18 r19 g21 g22 g20 => ?_))))
  have f23 := frm_c f11 f18 rfl
  exact hK _ i16 j17 f23 _ (by omega) (by omega)
def sC_odds : qS := fun as A K => ∃ c : Int, as = [rf 34, ni c] ∧ (iva IC A ∧ ivf JC A ∧ 0 ≤ c ∧ c ≤ 47 ∧ (LW A) ∧ (KO A)) ∧ (∀ A' : qA, iva IC A' → ivf JC A' → frm [35, 43, 78] [(36, 9), (71, 9)] A A' → ∀ r : Int, 0 ≤ r → r ≤ 1000 → K (some (ni r)) A')
theorem okC_odds : okM LC 5 5 sC_odds := by
  refine okM_or (okC_odds36.le (by decide)) (okC_odds71.le (by decide)) ?_
  rintro _ A K ⟨c, rfl, ⟨h0, h1, h2, h3, h4, h5⟩, hK⟩
  rcases h4 with q | q
  · exact Or.inl ⟨c, rfl, ⟨h0, h1, h2, h3, ⟨by omega, by omega⟩, h5⟩, hK⟩
  · exact Or.inr ⟨c, rfl, ⟨h0, h1, h2, h3, ⟨by omega, by omega⟩, h5⟩, hK⟩
def sC_ageing36 : qS := fun as A K => ∃ c : Int, as = [rf 34, ni c] ∧ (iva IC A ∧ ivf JC A ∧ 0 ≤ c ∧ c ≤ 47 ∧ (36 ≤ A 34 (fd 4) ∧ A 34 (fd 4) ≤ 36) ∧ (KO A)) ∧ (∀ A' : qA, iva IC A' → ivf JC A' → frm [35, 43, 78] [(36, 9), (71, 9)] A A' → ∀ r : Int, 0 ≤ r → r ≤ 999 → K (some (ni r)) A')
theorem okC_ageing36 : okM LC 5 6 sC_ageing36 := by
  refine qmeth [(34, 4, 36)] false [(11, sC_seeCellAndCrop), (76, sC_answer36)] 17 rfl ⟨okC_seeCellAndCrop.le (by decide), ⟨okC_answer36.le (by decide), trivial⟩⟩ ?_
  rintro _ A K hA has ⟨c, rfl, ⟨i0, j0, p1, p2, p3, p4⟩, hK⟩
  have rg_c : rng c := has (ni c) (by simp)
  have f0 := frm_0 [35, 43, 78] [(36, 9), (71, 9)] A
  obtain ⟨v5, e6⟩ : ∃ v, v = A 34 (fd 4) := ⟨_, rfl⟩
  rw [← e6] at p3
  refine ⟨Nat.le_of_ble_eq_true rfl, [], trivial, ?_⟩
  refine Exists.intro c (And.intro rfl (And.intro (And.intro i0 (And.intro j0 (And.intro (by omega) (by omega)))) (fun A7 i8 j9 f10 => ?_)))
  have f11 := frm_c f0 f10 rfl
  obtain ⟨v12, e13⟩ : ∃ v, v = A7 34 (fd 4) := ⟨_, rfl⟩
  have q14 : v5 = v12 := (e13.trans ((frm_f f10 rfl).trans e6.symm)).symm
  subst q14
  refine And.intro (show A7 34 (fd 4) = ((36 : Nat) : Int) by omega) ?_
  refine Exists.intro 97 (Exists.intro 999 (And.intro rfl (And.intro (And.intro i8 (And.intro j9 (And.intro (by omega) (And.intro (by omega) (KO_fr p4 f11 rfl))))) (fun A15 i16 j17 f18 r19 g21 g22 g20 => ?_))))
  have f23 := frm_c f11 f18 rfl
  exact hK _ i16 j17 f23 _ (by omega) (by omega)
def sC_ageing71 : qS := fun as A K => ∃ c : Int, as = [rf 34, ni c] ∧ (iva IC A ∧ ivf JC A ∧ 0 ≤ c ∧ c ≤ 47 ∧ (71 ≤ A 34 (fd 4) ∧ A 34 (fd 4) ≤ 71) ∧ (KO A)) ∧ (∀ A' : qA, iva IC A' → ivf JC A' → frm [35, 43, 78] [(36, 9), (71, 9)] A A' → ∀ r : Int, 0 ≤ r → r ≤ 999 → K (some (ni r)) A')
theorem okC_ageing71 : okM LC 5 6 sC_ageing71 := by
  refine qmeth [(34, 4, 71)] false [(11, sC_seeCellAndCrop), (76, sC_answer71)] 17 rfl ⟨okC_seeCellAndCrop.le (by decide), ⟨okC_answer71.le (by decide), trivial⟩⟩ ?_
  rintro _ A K hA has ⟨c, rfl, ⟨i0, j0, p1, p2, p3, p4⟩, hK⟩
  have rg_c : rng c := has (ni c) (by simp)
  have f0 := frm_0 [35, 43, 78] [(36, 9), (71, 9)] A
  obtain ⟨v5, e6⟩ : ∃ v, v = A 34 (fd 4) := ⟨_, rfl⟩
  rw [← e6] at p3
  refine ⟨Nat.le_of_ble_eq_true rfl, [], trivial, ?_⟩
  refine Exists.intro c (And.intro rfl (And.intro (And.intro i0 (And.intro j0 (And.intro (by omega) (by omega)))) (fun A7 i8 j9 f10 => ?_)))
  have f11 := frm_c f0 f10 rfl
  obtain ⟨v12, e13⟩ : ∃ v, v = A7 34 (fd 4) := ⟨_, rfl⟩
  have q14 : v5 = v12 := (e13.trans ((frm_f f10 rfl).trans e6.symm)).symm
  subst q14
  refine And.intro (show A7 34 (fd 4) = ((71 : Nat) : Int) by omega) ?_
  refine Exists.intro 97 (Exists.intro 999 (And.intro rfl (And.intro (And.intro i8 (And.intro j9 (And.intro (by omega) (And.intro (by omega) (KO_fr p4 f11 rfl))))) (fun A15 i16 j17 f18 r19 g21 g22 g20 => ?_))))
  have f23 := frm_c f11 f18 rfl
  exact hK _ i16 j17 f23 _ (by omega) (by omega)
def sC_ageing : qS := fun as A K => ∃ c : Int, as = [rf 34, ni c] ∧ (iva IC A ∧ ivf JC A ∧ 0 ≤ c ∧ c ≤ 47 ∧ (LW A) ∧ (KO A)) ∧ (∀ A' : qA, iva IC A' → ivf JC A' → frm [35, 43, 78] [(36, 9), (71, 9)] A A' → ∀ r : Int, 0 ≤ r → r ≤ 999 → K (some (ni r)) A')
theorem okC_ageing : okM LC 5 6 sC_ageing := by
  refine okM_or (okC_ageing36.le (by decide)) (okC_ageing71.le (by decide)) ?_
  rintro _ A K ⟨c, rfl, ⟨h0, h1, h2, h3, h4, h5⟩, hK⟩
  rcases h4 with q | q
  · exact Or.inl ⟨c, rfl, ⟨h0, h1, h2, h3, ⟨by omega, by omega⟩, h5⟩, hK⟩
  · exact Or.inr ⟨c, rfl, ⟨h0, h1, h2, h3, ⟨by omega, by omega⟩, h5⟩, hK⟩
def sC_ownerOf36 : qS := fun as A K => ∃ i : Int, as = [rf 34, ni i] ∧ (iva IC A ∧ ivf JC A ∧ 0 ≤ i ∧ i ≤ 60 ∧ (36 ≤ A 34 (fd 4) ∧ A 34 (fd 4) ≤ 36) ∧ (KO A)) ∧ (∀ A' : qA, iva IC A' → ivf JC A' → frm [35, 43, 78] [(36, 9), (71, 9)] A A' → ∀ r : Int, 0 ≤ r → r ≤ 7 → K (some (ni r)) A')
theorem okC_ownerOf36 : okM LC 4 8 sC_ownerOf36 := by
  refine qmeth [(34, 4, 36)] false [(13, sC_seeFall), (76, sC_answer36)] 17 rfl ⟨okC_seeFall.le (by decide), ⟨okC_answer36.le (by decide), trivial⟩⟩ ?_
  rintro _ A K hA has ⟨i, rfl, ⟨i0, j0, p1, p2, p3, p4⟩, hK⟩
  have rg_i : rng i := has (ni i) (by simp)
  have f0 := frm_0 [35, 43, 78] [(36, 9), (71, 9)] A
  obtain ⟨v5, e6⟩ : ∃ v, v = A 34 (fd 4) := ⟨_, rfl⟩
  rw [← e6] at p3
  refine ⟨Nat.le_of_ble_eq_true rfl, [], trivial, ?_⟩
  refine Exists.intro i (And.intro rfl (And.intro (And.intro i0 (And.intro j0 (And.intro (by omega) (by omega)))) (fun A7 i8 j9 f10 => ?_)))
  have f11 := frm_c f0 f10 rfl
  obtain ⟨v12, e13⟩ : ∃ v, v = A7 34 (fd 4) := ⟨_, rfl⟩
  have q14 : v5 = v12 := (e13.trans ((frm_f f10 rfl).trans e6.symm)).symm
  subst q14
  refine And.intro (show A7 34 (fd 4) = ((36 : Nat) : Int) by omega) ?_
  refine Exists.intro 111 (Exists.intro 7 (And.intro rfl (And.intro (And.intro i8 (And.intro j9 (And.intro (by omega) (And.intro (by omega) (KO_fr p4 f11 rfl))))) (fun A15 i16 j17 f18 r19 g21 g22 g20 => ?_))))
  have f23 := frm_c f11 f18 rfl
  exact hK _ i16 j17 f23 _ (by omega) (by omega)
def sC_ownerOf71 : qS := fun as A K => ∃ i : Int, as = [rf 34, ni i] ∧ (iva IC A ∧ ivf JC A ∧ 0 ≤ i ∧ i ≤ 60 ∧ (71 ≤ A 34 (fd 4) ∧ A 34 (fd 4) ≤ 71) ∧ (KO A)) ∧ (∀ A' : qA, iva IC A' → ivf JC A' → frm [35, 43, 78] [(36, 9), (71, 9)] A A' → ∀ r : Int, 0 ≤ r → r ≤ 7 → K (some (ni r)) A')
theorem okC_ownerOf71 : okM LC 4 8 sC_ownerOf71 := by
  refine qmeth [(34, 4, 71)] false [(13, sC_seeFall), (76, sC_answer71)] 17 rfl ⟨okC_seeFall.le (by decide), ⟨okC_answer71.le (by decide), trivial⟩⟩ ?_
  rintro _ A K hA has ⟨i, rfl, ⟨i0, j0, p1, p2, p3, p4⟩, hK⟩
  have rg_i : rng i := has (ni i) (by simp)
  have f0 := frm_0 [35, 43, 78] [(36, 9), (71, 9)] A
  obtain ⟨v5, e6⟩ : ∃ v, v = A 34 (fd 4) := ⟨_, rfl⟩
  rw [← e6] at p3
  refine ⟨Nat.le_of_ble_eq_true rfl, [], trivial, ?_⟩
  refine Exists.intro i (And.intro rfl (And.intro (And.intro i0 (And.intro j0 (And.intro (by omega) (by omega)))) (fun A7 i8 j9 f10 => ?_)))
  have f11 := frm_c f0 f10 rfl
  obtain ⟨v12, e13⟩ : ∃ v, v = A7 34 (fd 4) := ⟨_, rfl⟩
  have q14 : v5 = v12 := (e13.trans ((frm_f f10 rfl).trans e6.symm)).symm
  subst q14
  refine And.intro (show A7 34 (fd 4) = ((71 : Nat) : Int) by omega) ?_
  refine Exists.intro 111 (Exists.intro 7 (And.intro rfl (And.intro (And.intro i8 (And.intro j9 (And.intro (by omega) (And.intro (by omega) (KO_fr p4 f11 rfl))))) (fun A15 i16 j17 f18 r19 g21 g22 g20 => ?_))))
  have f23 := frm_c f11 f18 rfl
  exact hK _ i16 j17 f23 _ (by omega) (by omega)
def sC_ownerOf : qS := fun as A K => ∃ i : Int, as = [rf 34, ni i] ∧ (iva IC A ∧ ivf JC A ∧ 0 ≤ i ∧ i ≤ 60 ∧ (LW A) ∧ (KO A)) ∧ (∀ A' : qA, iva IC A' → ivf JC A' → frm [35, 43, 78] [(36, 9), (71, 9)] A A' → ∀ r : Int, 0 ≤ r → r ≤ 7 → K (some (ni r)) A')
theorem okC_ownerOf : okM LC 4 8 sC_ownerOf := by
  refine okM_or (okC_ownerOf36.le (by decide)) (okC_ownerOf71.le (by decide)) ?_
  rintro _ A K ⟨i, rfl, ⟨h0, h1, h2, h3, h4, h5⟩, hK⟩
  rcases h4 with q | q
  · exact Or.inl ⟨i, rfl, ⟨h0, h1, h2, h3, ⟨by omega, by omega⟩, h5⟩, hK⟩
  · exact Or.inr ⟨i, rfl, ⟨h0, h1, h2, h3, ⟨by omega, by omega⟩, h5⟩, hK⟩
def sC_pointsOf36 : qS := fun as A K => ∃ i b : Int, as = [rf 34, ni i, ni b] ∧ (iva IC A ∧ ivf JC A ∧ 0 ≤ i ∧ i ≤ 60 ∧ 0 ≤ b ∧ b ≤ 7 ∧ (36 ≤ A 34 (fd 4) ∧ A 34 (fd 4) ≤ 36) ∧ (KO A)) ∧ (∀ A' : qA, iva IC A' → ivf JC A' → frm [35, 43, 78] [(36, 9), (71, 9)] A A' → ∀ r : Int, 0 ≤ r → r ≤ 1000 → K (some (ni r)) A')
theorem okC_pointsOf36 : okM LC 4 9 sC_pointsOf36 := by
  refine qmeth [(34, 4, 36)] false [(13, sC_seeFall), (76, sC_answer36)] 22 rfl ⟨okC_seeFall.le (by decide), ⟨okC_answer36.le (by decide), trivial⟩⟩ ?_
  rintro _ A K hA has ⟨i, b, rfl, ⟨i0, j0, p1, p2, p3, p4, p5, p6⟩, hK⟩
  have rg_i : rng i := has (ni i) (by simp)
  have rg_b : rng b := has (ni b) (by simp)
  have f0 := frm_0 [35, 43, 78] [(36, 9), (71, 9)] A
  obtain ⟨v7, e8⟩ : ∃ v, v = A 34 (fd 4) := ⟨_, rfl⟩
  rw [← e8] at p5
  refine ⟨Nat.le_of_ble_eq_true rfl, [], trivial, ?_⟩
  refine Exists.intro i (And.intro rfl (And.intro (And.intro i0 (And.intro j0 (And.intro (by omega) (by omega)))) (fun A9 i10 j11 f12 => ?_)))
  have f13 := frm_c f0 f12 rfl
  refine And.intro (by omega) (fun A14 e15 => ?_)
  have i16 := iva_st i10 e15 trivial
  have j17 := ivf_sa j11 e15 rfl
  have f18 := frm_s f13 e15 rfl
  obtain ⟨v19, e20⟩ : ∃ v, v = A14 34 (fd 4) := ⟨_, rfl⟩
  have q21 : v7 = v19 := (e20.trans ((Eq.trans (congrFun (st_a e15 rfl) _) (frm_f f12 rfl)).trans e8.symm)).symm
  subst q21
  refine And.intro (show A14 34 (fd 4) = ((36 : Nat) : Int) by omega) ?_
  refine Exists.intro 113 (Exists.intro 1000 (And.intro rfl (And.intro (And.intro i16 (And.intro j17 (And.intro (by omega) (And.intro (by omega) (KO_fr p6 f18 rfl))))) (fun A22 i23 j24 f25 r26 g28 g29 g27 => ?_))))
  have f30 := frm_c f18 f25 rfl
  exact hK _ i23 j24 f30 _ (by omega) (by omega)
def sC_pointsOf71 : qS := fun as A K => ∃ i b : Int, as = [rf 34, ni i, ni b] ∧ (iva IC A ∧ ivf JC A ∧ 0 ≤ i ∧ i ≤ 60 ∧ 0 ≤ b ∧ b ≤ 7 ∧ (71 ≤ A 34 (fd 4) ∧ A 34 (fd 4) ≤ 71) ∧ (KO A)) ∧ (∀ A' : qA, iva IC A' → ivf JC A' → frm [35, 43, 78] [(36, 9), (71, 9)] A A' → ∀ r : Int, 0 ≤ r → r ≤ 1000 → K (some (ni r)) A')
theorem okC_pointsOf71 : okM LC 4 9 sC_pointsOf71 := by
  refine qmeth [(34, 4, 71)] false [(13, sC_seeFall), (76, sC_answer71)] 22 rfl ⟨okC_seeFall.le (by decide), ⟨okC_answer71.le (by decide), trivial⟩⟩ ?_
  rintro _ A K hA has ⟨i, b, rfl, ⟨i0, j0, p1, p2, p3, p4, p5, p6⟩, hK⟩
  have rg_i : rng i := has (ni i) (by simp)
  have rg_b : rng b := has (ni b) (by simp)
  have f0 := frm_0 [35, 43, 78] [(36, 9), (71, 9)] A
  obtain ⟨v7, e8⟩ : ∃ v, v = A 34 (fd 4) := ⟨_, rfl⟩
  rw [← e8] at p5
  refine ⟨Nat.le_of_ble_eq_true rfl, [], trivial, ?_⟩
  refine Exists.intro i (And.intro rfl (And.intro (And.intro i0 (And.intro j0 (And.intro (by omega) (by omega)))) (fun A9 i10 j11 f12 => ?_)))
  have f13 := frm_c f0 f12 rfl
  refine And.intro (by omega) (fun A14 e15 => ?_)
  have i16 := iva_st i10 e15 trivial
  have j17 := ivf_sa j11 e15 rfl
  have f18 := frm_s f13 e15 rfl
  obtain ⟨v19, e20⟩ : ∃ v, v = A14 34 (fd 4) := ⟨_, rfl⟩
  have q21 : v7 = v19 := (e20.trans ((Eq.trans (congrFun (st_a e15 rfl) _) (frm_f f12 rfl)).trans e8.symm)).symm
  subst q21
  refine And.intro (show A14 34 (fd 4) = ((71 : Nat) : Int) by omega) ?_
  refine Exists.intro 113 (Exists.intro 1000 (And.intro rfl (And.intro (And.intro i16 (And.intro j17 (And.intro (by omega) (And.intro (by omega) (KO_fr p6 f18 rfl))))) (fun A22 i23 j24 f25 r26 g28 g29 g27 => ?_))))
  have f30 := frm_c f18 f25 rfl
  exact hK _ i23 j24 f30 _ (by omega) (by omega)
def sC_pointsOf : qS := fun as A K => ∃ i b : Int, as = [rf 34, ni i, ni b] ∧ (iva IC A ∧ ivf JC A ∧ 0 ≤ i ∧ i ≤ 60 ∧ 0 ≤ b ∧ b ≤ 7 ∧ (LW A) ∧ (KO A)) ∧ (∀ A' : qA, iva IC A' → ivf JC A' → frm [35, 43, 78] [(36, 9), (71, 9)] A A' → ∀ r : Int, 0 ≤ r → r ≤ 1000 → K (some (ni r)) A')
theorem okC_pointsOf : okM LC 4 9 sC_pointsOf := by
  refine okM_or (okC_pointsOf36.le (by decide)) (okC_pointsOf71.le (by decide)) ?_
  rintro _ A K ⟨i, b, rfl, ⟨h0, h1, h2, h3, h4, h5, h6, h7⟩, hK⟩
  rcases h6 with q | q
  · exact Or.inl ⟨i, b, rfl, ⟨h0, h1, h2, h3, h4, h5, ⟨by omega, by omega⟩, h7⟩, hK⟩
  · exact Or.inr ⟨i, b, rfl, ⟨h0, h1, h2, h3, h4, h5, ⟨by omega, by omega⟩, h7⟩, hK⟩
def sC_catching36 : qS := fun as A K => ∃ i : Int, as = [rf 34, ni i] ∧ (iva IC A ∧ ivf JC A ∧ 0 ≤ i ∧ i ≤ 60 ∧ (36 ≤ A 34 (fd 4) ∧ A 34 (fd 4) ≤ 36) ∧ (KO A)) ∧ (∀ A' : qA, iva IC A' → ivf JC A' → frm [35, 43, 78] [(36, 9), (71, 9)] A A' → ∀ r : Int, 0 ≤ r → r ≤ 6 → K (some (ni r)) A')
theorem okC_catching36 : okM LC 4 7 sC_catching36 := by
  refine qmeth [(34, 4, 36)] false [(20, sC_endOfColumn), (21, sC_hangs), (10, sC_seeCell), (12, sC_seeFallen), (76, sC_answer36)] 56 rfl ⟨okC_endOfColumn.le (by decide), ⟨okC_hangs.le (by decide), ⟨okC_seeCell.le (by decide), ⟨okC_seeFallen.le (by decide), ⟨okC_answer36.le (by decide), trivial⟩⟩⟩⟩⟩ ?_
  rintro _ A K hA has ⟨i, rfl, ⟨i0, j0, p1, p2, p3, p4⟩, hK⟩
  have rg_i : rng i := has (ni i) (by simp)
  have f0 := frm_0 [35, 43, 78] [(36, 9), (71, 9)] A
  obtain ⟨v5, e6⟩ : ∃ v, v = A 34 (fd 4) := ⟨_, rfl⟩
  rw [← e6] at p3
  refine ⟨Nat.le_of_ble_eq_true rfl, [(13, [(0, 2, 34), (1, 0, 0), (2, 0, 0), (3, 0, 0), (4, 0, 0)], fun zs B nn => match zs with | [l1, f, e, k] => iva IC B ∧ ivf JC B ∧ frm [35, 43, 78] [(36, 9), (71, 9)] A B ∧ nn = (48 - k : Int).toNat ∧ (l1 = i) ∧ (0 ≤ f) ∧ (f ≤ 47) ∧ (e = f - f % 6 + 6) ∧ (f + 1 ≤ k) ∧ (k ≤ 48) | _ => False)], ?_, ?_⟩
  · refine ⟨⟨rfl, ?_⟩, trivial⟩
    · refine fun l1 f e k B mm hB hz hI => ?_
      obtain ⟨i1, j1, f1, hm, c0, c1, c2, c3, c4, c5⟩ := hI
      obtain ⟨hz_l1, hz_f, hz_e, hz_k, _⟩ := hz
      refine And.intro (fun h12 => ?_) (fun h12 => ?_)
      · exact hK _ i1 j1 f1 _ (by omega) (by omega)
      · refine Exists.intro k (And.intro rfl (And.intro (fun h13 => ?_) (fun h13 => ?_)))
        · refine And.intro (fun h14 => by exfalso; omega) (fun h14 => ?_)
          refine Exists.intro k (And.intro rfl (And.intro (And.intro i1 (And.intro j1 (And.intro (by omega) (by omega)))) (fun A15 i16 j17 f18 => ?_)))
          have f19 := frm_c f1 f18 rfl
          refine Exists.intro l1 (And.intro rfl (And.intro (And.intro i16 (And.intro j17 (And.intro (by omega) (by omega)))) (fun A20 i21 j22 f23 => ?_)))
          have f24 := frm_c f19 f23 rfl
          refine fun v25 e26 => ?_
          refine And.intro (by omega) (And.intro (by omega) (fun A27 e28 => ?_))
          have i29 := iva_st i21 e28 trivial
          have j30 := ivf_sa j22 e28 rfl
          have f31 := frm_s f24 e28 rfl
          obtain ⟨v32, e33⟩ : ∃ v, v = A27 34 (fd 4) := ⟨_, rfl⟩
          have q34 : v5 = v32 := (e33.trans ((Eq.trans (Eq.trans (Eq.trans (congrFun (st_a e28 rfl) _) (frm_f f23 rfl)) (frm_f f18 rfl)) (frm_f f1 rfl)).trans e6.symm)).symm
          subst q34
          refine And.intro (show A27 34 (fd 4) = ((36 : Nat) : Int) by omega) ?_
          refine Exists.intro 99 (Exists.intro 1 (And.intro rfl (And.intro (And.intro i29 (And.intro j30 (And.intro (by omega) (And.intro (by omega) (KO_fr p4 f31 rfl))))) (fun A35 i36 j37 f38 r39 g41 g42 g40 => ?_))))
          have f43 := frm_c f31 f38 rfl
          refine And.intro (fun h44 => ?_) (fun h44 => ?_)
          · refine fun v45 e46 => ?_
            exact And.intro (by omega) (Exists.intro (48 - v45 : Int).toNat (And.intro (by omega) (And.intro i36 (And.intro j37 (And.intro f43 (And.intro rfl (And.intro (by omega) (And.intro (by omega) (And.intro (by omega) (And.intro (by omega) (And.intro (by omega) (by omega))))))))))))
          · refine And.intro (by omega) (fun v47 e48 => ?_)
            have h49 := qm_nn (a := k) (b := 6) (by omega)
            exact hK _ i36 j37 f43 _ (by omega) (by omega)
        · refine And.intro (fun h50 => ?_) (fun h50 => by exfalso; omega)
          refine fun v51 e52 => ?_
          exact And.intro (by omega) (Exists.intro (48 - v51 : Int).toNat (And.intro (by omega) (And.intro i1 (And.intro j1 (And.intro f1 (And.intro rfl (And.intro (by omega) (And.intro (by omega) (And.intro (by omega) (And.intro (by omega) (And.intro (by omega) (by omega))))))))))))
  · refine And.intro (by omega) (fun v7 gv7 e8 => ?_)
    have b9 := iva_at i0 17 rfl (i := i) (by omega) (by omega)
    refine Exists.intro v7 (And.intro rfl (And.intro (And.intro (by omega) (by omega)) ?_))
    refine fun v10 e11 => ?_
    exact And.intro (by omega) (Exists.intro (48 - v10 : Int).toNat (And.intro i0 (And.intro j0 (And.intro f0 (And.intro rfl (And.intro (by omega) (And.intro (by omega) (And.intro (by omega) (And.intro (by omega) (And.intro (by omega) (by omega)))))))))))
def sC_catching71 : qS := fun as A K => ∃ i : Int, as = [rf 34, ni i] ∧ (iva IC A ∧ ivf JC A ∧ 0 ≤ i ∧ i ≤ 60 ∧ (71 ≤ A 34 (fd 4) ∧ A 34 (fd 4) ≤ 71) ∧ (KO A)) ∧ (∀ A' : qA, iva IC A' → ivf JC A' → frm [35, 43, 78] [(36, 9), (71, 9)] A A' → ∀ r : Int, 0 ≤ r → r ≤ 6 → K (some (ni r)) A')
theorem okC_catching71 : okM LC 4 7 sC_catching71 := by
  refine qmeth [(34, 4, 71)] false [(20, sC_endOfColumn), (21, sC_hangs), (10, sC_seeCell), (12, sC_seeFallen), (76, sC_answer71)] 56 rfl ⟨okC_endOfColumn.le (by decide), ⟨okC_hangs.le (by decide), ⟨okC_seeCell.le (by decide), ⟨okC_seeFallen.le (by decide), ⟨okC_answer71.le (by decide), trivial⟩⟩⟩⟩⟩ ?_
  rintro _ A K hA has ⟨i, rfl, ⟨i0, j0, p1, p2, p3, p4⟩, hK⟩
  have rg_i : rng i := has (ni i) (by simp)
  have f0 := frm_0 [35, 43, 78] [(36, 9), (71, 9)] A
  obtain ⟨v5, e6⟩ : ∃ v, v = A 34 (fd 4) := ⟨_, rfl⟩
  rw [← e6] at p3
  refine ⟨Nat.le_of_ble_eq_true rfl, [(13, [(0, 2, 34), (1, 0, 0), (2, 0, 0), (3, 0, 0), (4, 0, 0)], fun zs B nn => match zs with | [l1, f, e, k] => iva IC B ∧ ivf JC B ∧ frm [35, 43, 78] [(36, 9), (71, 9)] A B ∧ nn = (48 - k : Int).toNat ∧ (l1 = i) ∧ (0 ≤ f) ∧ (f ≤ 47) ∧ (e = f - f % 6 + 6) ∧ (f + 1 ≤ k) ∧ (k ≤ 48) | _ => False)], ?_, ?_⟩
  · refine ⟨⟨rfl, ?_⟩, trivial⟩
    · refine fun l1 f e k B mm hB hz hI => ?_
      obtain ⟨i1, j1, f1, hm, c0, c1, c2, c3, c4, c5⟩ := hI
      obtain ⟨hz_l1, hz_f, hz_e, hz_k, _⟩ := hz
      refine And.intro (fun h12 => ?_) (fun h12 => ?_)
      · exact hK _ i1 j1 f1 _ (by omega) (by omega)
      · refine Exists.intro k (And.intro rfl (And.intro (fun h13 => ?_) (fun h13 => ?_)))
        · refine And.intro (fun h14 => by exfalso; omega) (fun h14 => ?_)
          refine Exists.intro k (And.intro rfl (And.intro (And.intro i1 (And.intro j1 (And.intro (by omega) (by omega)))) (fun A15 i16 j17 f18 => ?_)))
          have f19 := frm_c f1 f18 rfl
          refine Exists.intro l1 (And.intro rfl (And.intro (And.intro i16 (And.intro j17 (And.intro (by omega) (by omega)))) (fun A20 i21 j22 f23 => ?_)))
          have f24 := frm_c f19 f23 rfl
          refine fun v25 e26 => ?_
          refine And.intro (by omega) (And.intro (by omega) (fun A27 e28 => ?_))
          have i29 := iva_st i21 e28 trivial
          have j30 := ivf_sa j22 e28 rfl
          have f31 := frm_s f24 e28 rfl
          obtain ⟨v32, e33⟩ : ∃ v, v = A27 34 (fd 4) := ⟨_, rfl⟩
          have q34 : v5 = v32 := (e33.trans ((Eq.trans (Eq.trans (Eq.trans (congrFun (st_a e28 rfl) _) (frm_f f23 rfl)) (frm_f f18 rfl)) (frm_f f1 rfl)).trans e6.symm)).symm
          subst q34
          refine And.intro (show A27 34 (fd 4) = ((71 : Nat) : Int) by omega) ?_
          refine Exists.intro 99 (Exists.intro 1 (And.intro rfl (And.intro (And.intro i29 (And.intro j30 (And.intro (by omega) (And.intro (by omega) (KO_fr p4 f31 rfl))))) (fun A35 i36 j37 f38 r39 g41 g42 g40 => ?_))))
          have f43 := frm_c f31 f38 rfl
          refine And.intro (fun h44 => ?_) (fun h44 => ?_)
          · refine fun v45 e46 => ?_
            exact And.intro (by omega) (Exists.intro (48 - v45 : Int).toNat (And.intro (by omega) (And.intro i36 (And.intro j37 (And.intro f43 (And.intro rfl (And.intro (by omega) (And.intro (by omega) (And.intro (by omega) (And.intro (by omega) (And.intro (by omega) (by omega))))))))))))
          · refine And.intro (by omega) (fun v47 e48 => ?_)
            have h49 := qm_nn (a := k) (b := 6) (by omega)
            exact hK _ i36 j37 f43 _ (by omega) (by omega)
        · refine And.intro (fun h50 => ?_) (fun h50 => by exfalso; omega)
          refine fun v51 e52 => ?_
          exact And.intro (by omega) (Exists.intro (48 - v51 : Int).toNat (And.intro (by omega) (And.intro i1 (And.intro j1 (And.intro f1 (And.intro rfl (And.intro (by omega) (And.intro (by omega) (And.intro (by omega) (And.intro (by omega) (And.intro (by omega) (by omega))))))))))))
  · refine And.intro (by omega) (fun v7 gv7 e8 => ?_)
    have b9 := iva_at i0 17 rfl (i := i) (by omega) (by omega)
    refine Exists.intro v7 (And.intro rfl (And.intro (And.intro (by omega) (by omega)) ?_))
    refine fun v10 e11 => ?_
    exact And.intro (by omega) (Exists.intro (48 - v10 : Int).toNat (And.intro i0 (And.intro j0 (And.intro f0 (And.intro rfl (And.intro (by omega) (And.intro (by omega) (And.intro (by omega) (And.intro (by omega) (And.intro (by omega) (by omega)))))))))))
def sC_catching : qS := fun as A K => ∃ i : Int, as = [rf 34, ni i] ∧ (iva IC A ∧ ivf JC A ∧ 0 ≤ i ∧ i ≤ 60 ∧ (LW A) ∧ (KO A)) ∧ (∀ A' : qA, iva IC A' → ivf JC A' → frm [35, 43, 78] [(36, 9), (71, 9)] A A' → ∀ r : Int, 0 ≤ r → r ≤ 6 → K (some (ni r)) A')
theorem okC_catching : okM LC 4 7 sC_catching := by
  refine okM_or (okC_catching36.le (by decide)) (okC_catching71.le (by decide)) ?_
  rintro _ A K ⟨i, rfl, ⟨h0, h1, h2, h3, h4, h5⟩, hK⟩
  rcases h4 with q | q
  · exact Or.inl ⟨i, rfl, ⟨h0, h1, h2, h3, ⟨by omega, by omega⟩, h5⟩, hK⟩
  · exact Or.inr ⟨i, rfl, ⟨h0, h1, h2, h3, ⟨by omega, by omega⟩, h5⟩, hK⟩
