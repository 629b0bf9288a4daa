def sC_look_71 : qS := fun as A K => as = [rf 54] ∧ (iva IC A ∧ ivf JC A ∧ (52 ≤ A 54 (fd 0) ∧ A 54 (fd 0) ≤ 52) ∧ (71 ≤ A 54 (fd 1) ∧ A 54 (fd 1) ≤ 71)) ∧ (∀ r : Int, (-1) ≤ r → r ≤ 255 → ((r < 0 ∧ A 54 (fd 2) ≤ A 54 (fd 3)) ∨ (A 54 (fd 3) < A 54 (fd 2) ∧ 0 ≤ r ∧ r = A 53 (A 54 (fd 3)))) → K (some (ni r)) A)
theorem okC_look_71 : okM LC 1 46 sC_look_71 := by
  refine qmeth [(54, 0, 52), (54, 1, 71)] false [] 27 rfl trivial ?_
  rintro _ A K hA has ⟨rfl, ⟨i0, j0, p1, p2⟩, hK⟩
  have f0 := frm_0 [] [] A
  obtain ⟨v3, e4⟩ : ∃ v, v = A 54 (fd 0) := ⟨_, rfl⟩
  rw [← e4] at p1
  obtain ⟨v5, e6⟩ : ∃ v, v = A 54 (fd 1) := ⟨_, rfl⟩
  rw [← e6] at p2
  refine ⟨Nat.le_of_ble_eq_true rfl, [], trivial, ?_⟩
  refine fun v7 gv7 e8 => ?_
  have b9 := ivf_at j0 1 rfl
  refine And.intro (fun h10 => by exfalso; omega) (fun h10 => ?_)
  refine fun v11 gv11 e12 => ?_
  have b13 := ivf_at j0 1 rfl
  have q14 : v7 = v11 := (e12.trans e8.symm).symm
  subst q14
  refine fun v15 gv15 e16 => ?_
  have b17 := ivf_at j0 0 rfl
  refine And.intro (fun h18 => ?_) (fun h18 => ?_)
  · exact hK _ (by omega) (by omega) (by first | omega | (subst_vars; omega))
  · refine fun v19 gv19 e20 => ?_
    have b21 := ivf_at j0 1 rfl
    have q22 : v7 = v19 := (e20.trans e12.symm).symm
    subst q22
    refine And.intro (fun h23 => by exfalso; omega) (fun h23 => ?_)
    obtain ⟨v24, e25⟩ : ∃ v, v = A 54 (fd 0) := ⟨_, rfl⟩
    have q26 : v3 = v24 := (e25.trans e4.symm).symm
    subst q26
    refine And.intro (show A 54 (fd 0) = ((52 : Nat) : Int) by omega) ?_
    refine fun v27 gv27 e28 => ?_
    have b29 := ivf_at j0 1 rfl
    have q30 : v7 = v27 := (e28.trans e20.symm).symm
    subst q30
    refine And.intro (by omega) (fun v31 gv31 e32 => ?_)
    have b33 := iva_at i0 26 rfl (i := v7) (by omega) (by omega)
    exact hK _ (by omega) (by omega) (by first | omega | (subst_vars; omega))
def sC_fail_71 : qS := fun as A K => ∃ x : Int, as = [rf 54, ni x] ∧ (iva IC A ∧ ivf JC A ∧ 1 ≤ x ∧ x ≤ 5 ∧ (52 ≤ A 54 (fd 0) ∧ A 54 (fd 0) ≤ 52) ∧ (71 ≤ A 54 (fd 1) ∧ A 54 (fd 1) ≤ 71)) ∧ (∀ A' : qA, iva IC A' → ivf JC A' → frm [] [(54, 4)] A A' → (True → K (some (ni 0)) A'))
theorem okC_fail_71 : okM LC 1 47 sC_fail_71 := by
  refine qmeth [(54, 0, 52), (54, 1, 71)] false [] 16 rfl trivial ?_
  rintro _ A K hA has ⟨x, rfl, ⟨i0, j0, p1, p2, p3, p4⟩, hK⟩
  have rg_x : rng x := has (ni x) (by simp)
  have f0 := frm_0 [] [(54, 4)] A
  obtain ⟨v5, e6⟩ : ∃ v, v = A 54 (fd 0) := ⟨_, rfl⟩
  rw [← e6] at p3
  obtain ⟨v7, e8⟩ : ∃ v, v = A 54 (fd 1) := ⟨_, rfl⟩
  rw [← e8] at p4
  refine ⟨Nat.le_of_ble_eq_true rfl, [], trivial, ?_⟩
  refine fun v9 e10 => ?_
  refine fun v11 gv11 e12 => ?_
  have b13 := ivf_at j0 1 rfl
  refine fun v14 e15 => ?_
  refine And.intro (by omega) (fun A16 e17 => ?_)
  have i18 := iva_sf i0 e17 rfl
  have j19 := ivf_st j0 e17 trivial
  have f20 := frm_sf f0 e17 rfl
  exact And.intro (by omega) ((hK _ i18 j19 f20) (by first | omega | (subst_vars; omega) | (simp_all; done) | (simp_all; omega)))
def sC_expect_71 : qS := fun as A K => ∃ c : Int, as = [rf 54, ni c] ∧ (iva IC A ∧ ivf JC A ∧ 0 ≤ c ∧ c ≤ 255 ∧ (52 ≤ A 54 (fd 0) ∧ A 54 (fd 0) ≤ 52) ∧ (71 ≤ A 54 (fd 1) ∧ A 54 (fd 1) ≤ 71) ∧ (KO A) ∧ (A 71 (fd 8) ≤ A 54 (fd 3))) ∧ (∀ A' : qA, iva IC A' → ivf JC A' → frm [] [(54, 3), (54, 4)] A A' → ∀ r : Int, 0 ≤ r → r ≤ 1 → (A 54 (fd 3) ≤ A' 54 (fd 3)) → K (some (ni r)) A')
theorem okC_expect_71 : okM LC 2 48 sC_expect_71 := by
  refine qmeth [(54, 0, 52), (54, 1, 71)] false [(46, sC_look_71), (47, sC_fail_71)] 22 rfl ⟨okC_look_71.le (by decide), ⟨okC_fail_71.le (by decide), trivial⟩⟩ ?_
  rintro _ A K hA has ⟨c, rfl, ⟨i0, j0, p1, p2, p3, p4, p5, p6⟩, hK⟩
  have rg_c : rng c := has (ni c) (by simp)
  have f0 := frm_0 [] [(54, 3), (54, 4)] A
  obtain ⟨v7, e8⟩ : ∃ v, v = A 54 (fd 0) := ⟨_, rfl⟩
  rw [← e8] at p3
  obtain ⟨v9, e10⟩ : ∃ v, v = A 54 (fd 1) := ⟨_, rfl⟩
  rw [← e10] at p4
  have pf0 := PF_rf 71 A
  have hb_71_8 := ivf_at j0 12 rfl
  have hb_54_3 := ivf_at j0 1 rfl
  have hb_54_2 := ivf_at j0 0 rfl
  refine ⟨Nat.le_of_ble_eq_true rfl, [], trivial, ?_⟩
  obtain ⟨v11, e12⟩ : ∃ v, v = A 54 (fd 0) := ⟨_, rfl⟩
  have q13 : v7 = v11 := (e12.trans e8.symm).symm
  subst q13
  obtain ⟨v14, e15⟩ : ∃ v, v = A 54 (fd 1) := ⟨_, rfl⟩
  have q16 : v9 = v14 := (e15.trans e10.symm).symm
  subst q16
  refine And.intro rfl (And.intro (And.intro i0 (And.intro j0 (And.intro (by rw [← e12]; omega) (by rw [← e15]; omega)))) (fun r17 g19 g20 g18 => ?_))
  refine And.intro (fun h21 => ?_) (fun h21 => ?_)
  · refine fun v22 gv22 e23 => ?_
    have b24 := ivf_at j0 1 rfl
    refine fun v25 e26 => ?_
    refine And.intro (by omega) (fun A27 e28 => ?_)
    have i29 := iva_sf i0 e28 rfl
    have j30 := ivf_st j0 e28 (And.intro (by omega) trivial)
    have f31 := frm_sf f0 e28 rfl
    have t32 : A27 71 (fd 8) = A 71 (fd 8) := (congrFun (st_a e28 rfl) _)
    have t33 := st_v e28
    have t34 : A27 54 (fd 2) = A 54 (fd 2) := (st_f e28 rfl)
    have kk35 := KO_k p5 (st_a e28 rfl) (st_a e28 rfl) (st_a e28 rfl) (st_a e28 rfl)
    have pf36 := PF_k pf0 (st_a e28 rfl)
    exact And.intro (by omega) (hK _ i29 j30 f31 _ (by omega) (by omega) (by first | assumption | omega | simp_all))
  · obtain ⟨v37, e38⟩ : ∃ v, v = A 54 (fd 0) := ⟨_, rfl⟩
    have q39 : v7 = v37 := (e38.trans e12.symm).symm
    subst q39
    obtain ⟨v40, e41⟩ : ∃ v, v = A 54 (fd 1) := ⟨_, rfl⟩
    have q42 : v9 = v40 := (e41.trans e15.symm).symm
    subst q42
    refine Exists.intro 1 (And.intro rfl (And.intro (And.intro i0 (And.intro j0 (And.intro (by omega) (And.intro (by omega) (And.intro (by rw [← e38]; omega) (by rw [← e41]; omega)))))) (fun A43 i44 j45 f46 => (fun h47 => ?_))))
    · have f48 := frm_c f0 f46 rfl
      have t49 : A43 71 (fd 8) = A 71 (fd 8) := (frm_f f46 rfl)
      have t50 : A43 54 (fd 3) = A 54 (fd 3) := (frm_f f46 rfl)
      have t51 : A43 54 (fd 2) = A 54 (fd 2) := (frm_f f46 rfl)
      have kk52 := KO_fr p5 f46 rfl
      have pf53 := PF_k pf0 (frm_a f46 rfl)
      exact And.intro (by omega) (hK _ i44 j45 f48 _ (by omega) (by omega) (by first | assumption | omega | simp_all))
def sC_enter_71 : qS := fun as A K => ∃ d : Int, as = [rf 54, ni d] ∧ (iva IC A ∧ ivf JC A ∧ 0 ≤ d ∧ d ≤ 6 ∧ (52 ≤ A 54 (fd 0) ∧ A 54 (fd 0) ≤ 52) ∧ (71 ≤ A 54 (fd 1) ∧ A 54 (fd 1) ≤ 71) ∧ (KO A) ∧ (A 54 (fd 3) < A 54 (fd 2))) ∧ (∀ A' : qA, iva IC A' → ivf JC A' → frm [] [(54, 3), (54, 4)] A A' → (A 54 (fd 3) ≤ A' 54 (fd 3)) → (d ≤ 5 → A' 54 (fd 3) = A 54 (fd 3) + 1) → (d ≤ 5 → K (some (ni 1)) A') ∧ (6 ≤ d → K (some (ni 0)) A'))
theorem okC_enter_71 : okM LC 2 49 sC_enter_71 := by
  refine qmeth [(54, 0, 52), (54, 1, 71)] false [(47, sC_fail_71)] 21 rfl ⟨okC_fail_71.le (by decide), trivial⟩ ?_
  rintro _ A K hA has ⟨d, rfl, ⟨i0, j0, p1, p2, p3, p4, p5, p6⟩, hK⟩
  have rg_d : rng d := has (ni d) (by simp)
  have f0 := frm_0 [] [(54, 3), (54, 4)] A
  obtain ⟨v7, e8⟩ : ∃ v, v = A 54 (fd 0) := ⟨_, rfl⟩
  rw [← e8] at p3
  obtain ⟨v9, e10⟩ : ∃ v, v = A 54 (fd 1) := ⟨_, rfl⟩
  rw [← e10] at p4
  have pf0 := PF_rf 71 A
  have hb_71_8 := ivf_at j0 12 rfl
  have hb_54_3 := ivf_at j0 1 rfl
  have hb_54_2 := ivf_at j0 0 rfl
  refine ⟨Nat.le_of_ble_eq_true rfl, [], trivial, ?_⟩
  refine And.intro (fun h11 => ?_) (fun h11 => ?_)
  · refine fun v12 gv12 e13 => ?_
    have b14 := ivf_at j0 1 rfl
    refine fun v15 e16 => ?_
    refine And.intro (by omega) (fun A17 e18 => ?_)
    have i19 := iva_sf i0 e18 rfl
    have j20 := ivf_st j0 e18 (And.intro (by omega) trivial)
    have f21 := frm_sf f0 e18 rfl
    have t22 : A17 71 (fd 8) = A 71 (fd 8) := (congrFun (st_a e18 rfl) _)
    have t23 := st_v e18
    have t24 : A17 54 (fd 2) = A 54 (fd 2) := (st_f e18 rfl)
    have kk25 := KO_k p5 (st_a e18 rfl) (st_a e18 rfl) (st_a e18 rfl) (st_a e18 rfl)
    have pf26 := PF_k pf0 (st_a e18 rfl)
    exact And.intro (by omega) ((hK _ i19 j20 f21 (by first | assumption | omega | simp_all) (by first | assumption | omega | simp_all)).1 (by first | omega | (subst_vars; omega) | (simp_all; done) | (simp_all; omega)))
  · obtain ⟨v27, e28⟩ : ∃ v, v = A 54 (fd 0) := ⟨_, rfl⟩
    have q29 : v7 = v27 := (e28.trans e8.symm).symm
    subst q29
    obtain ⟨v30, e31⟩ : ∃ v, v = A 54 (fd 1) := ⟨_, rfl⟩
    have q32 : v9 = v30 := (e31.trans e10.symm).symm
    subst q32
    refine Exists.intro 5 (And.intro rfl (And.intro (And.intro i0 (And.intro j0 (And.intro (by omega) (And.intro (by omega) (And.intro (by rw [← e28]; omega) (by rw [← e31]; omega)))))) (fun A33 i34 j35 f36 => (fun h37 => ?_))))
    · have f38 := frm_c f0 f36 rfl
      have t39 : A33 71 (fd 8) = A 71 (fd 8) := (frm_f f36 rfl)
      have t40 : A33 54 (fd 3) = A 54 (fd 3) := (frm_f f36 rfl)
      have t41 : A33 54 (fd 2) = A 54 (fd 2) := (frm_f f36 rfl)
      have kk42 := KO_fr p5 f36 rfl
      have pf43 := PF_k pf0 (frm_a f36 rfl)
      exact And.intro (by omega) ((hK _ i34 j35 f38 (by first | assumption | omega | simp_all) (by first | assumption | omega | simp_all)).2 (by first | omega | (subst_vars; omega) | (simp_all; done) | (simp_all; omega)))
def sC_putr71 : qS := fun as A K => ∃ g x : Int, as = [rf 71, ni g, ni x] ∧ (iva IC A ∧ ivf JC A ∧ 0 ≤ x ∧ x ≤ 99999 ∧ (KO A) ∧ (A 71 (fd 8) ≤ 199) ∧ (g = 107 → x ≤ 13)) ∧ (∀ A' : qA, iva IC A' → ivf JC A' → frm [72, 73] [(71, 8)] A A' → (KO A') → (PF 71 A A') → (A' 71 (fd 8) = A 71 (fd 8) + 1) → (A' 72 (A 71 (fd 8)) = g) → K none A')
theorem okC_putr71 : okM LC 1 75 sC_putr71 := by
  refine qmeth [] false [] 29 rfl trivial ?_
  rintro _ A K hA has ⟨g, x, rfl, ⟨i0, j0, p1, p2, p3, p4, p5⟩, hK⟩
  have rg_g : rng g := has (ni g) (by simp)
  have rg_x : rng x := has (ni x) (by simp)
  have f0 := frm_0 [72, 73] [(71, 8)] A
  refine ⟨Nat.le_of_ble_eq_true rfl, [], trivial, ?_⟩
  refine fun v6 gv6 e7 => ?_
  have b8 := ivf_at j0 12 rfl
  refine And.intro (fun h9 => ?_) (fun h9 => ?_)
  · first
    | (exfalso; omega)
    | (have zz := put_PF (b := 71) hE hE hE (by omega)
       exact hK _ i0 j0 f0 (put_KO71 p3 hE hE hE (by omega)) zz.1 (by rw [st_v hE]; omega) (by rw [show A 71 (fd 8) = _ from (by assumption : _ = A 71 (fd 8)).symm]; exact zz.2))
  · refine fun v10 gv10 e11 => ?_
    have b12 := ivf_at j0 12 rfl
    have q13 : v6 = v10 := (e11.trans e7.symm).symm
    subst q13
    refine And.intro (by omega) (fun A14 e15 => ?_)
    have i16 := iva_st i0 e15 trivial
    have j17 := ivf_sa j0 e15 rfl
    have f18 := frm_s f0 e15 rfl
    refine fun v19 gv19 e20 => ?_
    have b21 := ivf_at j17 12 rfl
    have q22 : v6 = v19 := (e20.trans ((congrFun (st_a e15 rfl) _).trans e11.symm)).symm
    subst q22
    refine And.intro (by omega) (fun A23 e24 => ?_)
    have i25 := iva_st i16 e24 (And.intro (by omega) trivial)
    have j26 := ivf_sa j17 e24 rfl
    have f27 := frm_s f18 e24 rfl
    refine fun v28 gv28 e29 => ?_
    have b30 := ivf_at j26 12 rfl
    have q31 : v6 = v28 := (e29.trans ((congrFun (st_a e24 rfl) _).trans e20.symm)).symm
    subst q31
    refine fun v32 e33 => ?_
    refine And.intro (by omega) (fun A34 e35 => ?_)
    have i36 := iva_sf i25 e35 rfl
    have j37 := ivf_st j26 e35 (And.intro (by omega) trivial)
    have f38 := frm_sf f27 e35 rfl
    first
    | (exfalso; omega)
    | (have zz := put_PF (b := 71) e15 e24 e35 (by omega)
       exact hK _ i36 j37 f38 (put_KO71 p3 e15 e24 e35 (by omega)) zz.1 (by rw [st_v e35]; omega) (by rw [show A 71 (fd 8) = _ from (by assumption : _ = A 71 (fd 8)).symm]; exact zz.2))
def sC_readJump_71 : qS := fun as A K => as = [rf 54] ∧ (iva IC A ∧ ivf JC A ∧ (52 ≤ A 54 (fd 0) ∧ A 54 (fd 0) ≤ 52) ∧ (71 ≤ A 54 (fd 1) ∧ A 54 (fd 1) ≤ 71) ∧ (KO A) ∧ (A 71 (fd 8) ≤ A 54 (fd 3)) ∧ (A 54 (fd 3) < A 54 (fd 2)) ∧ (A 53 (A 54 (fd 3)) ≠ 107)) ∧ (∀ A' : qA, iva IC A' → ivf JC A' → frm [72, 73] [(71, 8), (54, 3)] A A' → ∀ r : Int, 0 ≤ r → r ≤ 199 → (KO A') → (PF 71 A A') → (r = A 71 (fd 8)) → (A' 71 (fd 8) = r + 1) → (A' 54 (fd 3) = A 54 (fd 3) + 1) → (A' 72 r ≠ 107) → K (some (ni r)) A')
theorem okC_readJump_71 : okM LC 2 54 sC_readJump_71 := by
  refine qmeth [(54, 0, 52), (54, 1, 71)] false [(46, sC_look_71), (75, sC_putr71)] 26 rfl ⟨okC_look_71.le (by decide), ⟨okC_putr71.le (by decide), trivial⟩⟩ ?_
  rintro _ A K hA has ⟨rfl, ⟨i0, j0, p1, p2, p3, p4, p5, p6⟩, hK⟩
  have f0 := frm_0 [72, 73] [(71, 8), (54, 3)] A
  obtain ⟨v7, e8⟩ : ∃ v, v = A 54 (fd 0) := ⟨_, rfl⟩
  rw [← e8] at p1
  obtain ⟨v9, e10⟩ : ∃ v, v = A 54 (fd 1) := ⟨_, rfl⟩
  rw [← e10] at p2
  have pf0 := PF_rf 71 A
  have hb_71_8 := ivf_at j0 12 rfl
  have hb_54_3 := ivf_at j0 1 rfl
  have hb_54_2 := ivf_at j0 0 rfl
  refine ⟨Nat.le_of_ble_eq_true rfl, [], trivial, ?_⟩
  obtain ⟨v11, e12⟩ : ∃ v, v = A 54 (fd 1) := ⟨_, rfl⟩
  have q13 : v9 = v11 := (e12.trans e10.symm).symm
  subst q13
  refine And.intro (show A 54 (fd 1) = ((71 : Nat) : Int) by omega) ?_
  refine fun v14 gv14 e15 => ?_
  have b16 := ivf_at j0 12 rfl
  refine (fun v17 e18 => ?_)
  obtain ⟨v19, e20⟩ : ∃ v, v = A 54 (fd 1) := ⟨_, rfl⟩
  have q21 : v9 = v19 := (e20.trans e12.symm).symm
  subst q21
  refine And.intro (show A 54 (fd 1) = ((71 : Nat) : Int) by omega) ?_
  obtain ⟨v22, e23⟩ : ∃ v, v = A 54 (fd 0) := ⟨_, rfl⟩
  have q24 : v7 = v22 := (e23.trans e8.symm).symm
  subst q24
  obtain ⟨v25, e26⟩ : ∃ v, v = A 54 (fd 1) := ⟨_, rfl⟩
  have q27 : v9 = v25 := (e26.trans e20.symm).symm
  subst q27
  refine And.intro rfl (And.intro (And.intro i0 (And.intro j0 (And.intro (by rw [← e23]; omega) (by rw [← e26]; omega)))) (fun r28 g30 g31 g29 => ?_))
  refine Exists.intro r28 (Exists.intro 0 (And.intro rfl (And.intro (And.intro i0 (And.intro j0 (And.intro (by omega) (And.intro (by omega) (And.intro p3 (And.intro (by first | assumption | omega | simp_all) (by first | assumption | omega | simp_all))))))) (fun A32 i33 j34 f35 g36 g37 g38 g39 => ?_))))
  have f40 := frm_c f0 f35 rfl
  have t41 := ivf_at j34 12 rfl
  have t42 : A32 54 (fd 3) = A 54 (fd 3) := (frm_f f35 rfl)
  have t43 : A32 54 (fd 2) = A 54 (fd 2) := (frm_f f35 rfl)
  have pf44 := PF_tr pf0 g37 (by omega)
  refine fun v45 gv45 e46 => ?_
  have b47 := ivf_at j34 1 rfl
  refine fun v48 e49 => ?_
  refine And.intro (by omega) (fun A50 e51 => ?_)
  have i52 := iva_sf i33 e51 rfl
  have j53 := ivf_st j34 e51 (And.intro (by omega) trivial)
  have f54 := frm_sf f40 e51 rfl
  have t55 : A50 71 (fd 8) = A32 71 (fd 8) := (congrFun (st_a e51 rfl) _)
  have t56 := st_v e51
  have t57 : A50 54 (fd 2) = A32 54 (fd 2) := (st_f e51 rfl)
  have kk58 := KO_k g36 (st_a e51 rfl) (st_a e51 rfl) (st_a e51 rfl) (st_a e51 rfl)
  have pf59 := PF_k pf44 (st_a e51 rfl)
  exact hK _ i52 j53 f54 _ (by omega) (by omega) kk58 pf59 (by omega) (by omega) (by omega) (by rw [show v17 = A 71 (fd 8) by omega, st_a e51 rfl, g39]; omega)
def sC_readNumber_71 : qS := fun as A K => as = [rf 54] ∧ (iva IC A ∧ ivf JC A ∧ (52 ≤ A 54 (fd 0) ∧ A 54 (fd 0) ≤ 52) ∧ (71 ≤ A 54 (fd 1) ∧ A 54 (fd 1) ≤ 71) ∧ (KO A) ∧ (A 71 (fd 8) ≤ A 54 (fd 3)) ∧ (A 54 (fd 3) < A 54 (fd 2)) ∧ (48 ≤ A 53 (A 54 (fd 3))) ∧ (A 53 (A 54 (fd 3)) ≤ 57)) ∧ (∀ A' : qA, iva IC A' → ivf JC A' → frm [72, 73] [(71, 8), (54, 3), (54, 4)] A A' → ∀ r : Int, 0 ≤ r → r ≤ 1 → (KO A') → (PF 71 A A') → (A 71 (fd 8) ≤ A' 71 (fd 8)) → (A' 71 (fd 8) + A 54 (fd 3) ≤ A 71 (fd 8) + A' 54 (fd 3)) → K (some (ni r)) A')
theorem okC_readNumber_71 : okM LC 2 61 sC_readNumber_71 := by
  refine qmeth [(54, 0, 52), (54, 1, 71)] false [(46, sC_look_71), (60, sC_isDigit), (47, sC_fail_71), (75, sC_putr71)] 49 rfl ⟨okC_look_71.le (by decide), ⟨okC_isDigit.le (by decide), ⟨okC_fail_71.le (by decide), ⟨okC_putr71.le (by decide), trivial⟩⟩⟩⟩ ?_
  rintro _ A K hA has ⟨rfl, ⟨i0, j0, p1, p2, p3, p4, p5, p6, p7⟩, hK⟩
  have f0 := frm_0 [72, 73] [(71, 8), (54, 3), (54, 4)] A
  obtain ⟨v8, e9⟩ : ∃ v, v = A 54 (fd 0) := ⟨_, rfl⟩
  rw [← e9] at p1
  obtain ⟨v10, e11⟩ : ∃ v, v = A 54 (fd 1) := ⟨_, rfl⟩
  rw [← e11] at p2
  have pf0 := PF_rf 71 A
  have hb_71_8 := ivf_at j0 12 rfl
  have hb_54_3 := ivf_at j0 1 rfl
  have hb_54_2 := ivf_at j0 0 rfl
  refine ⟨Nat.le_of_ble_eq_true rfl, [(4, [(0, 2, 54), (1, 0, 0), (2, 0, 0)], fun zs B nn => match zs with | [x, i] => iva IC B ∧ ivf JC B ∧ frm [72, 73] [(71, 8), (54, 3), (54, 4)] A B ∧ nn = (5 - i : Int).toNat ∧ (52 ≤ B 54 (fd 0) ∧ B 54 (fd 0) ≤ 52) ∧ (71 ≤ B 54 (fd 1) ∧ B 54 (fd 1) ≤ 71) ∧ (0 ≤ i) ∧ (i ≤ 5) ∧ (0 ≤ x) ∧ (x ≤ 99999) ∧ (i = 0 → x = 0) ∧ (i = 1 → x ≤ 9) ∧ (i = 2 → x ≤ 99) ∧ (i = 3 → x ≤ 999) ∧ (i = 4 → x ≤ 9999) ∧ (KO B) ∧ (PF 71 A B) ∧ (B 71 (fd 8) = A 71 (fd 8)) ∧ (A 54 (fd 3) + i ≤ B 54 (fd 3)) ∧ (i = 0 → (48 ≤ B 53 (B 54 (fd 3)) ∧ B 53 (B 54 (fd 3)) ≤ 57 ∧ B 54 (fd 3) < B 54 (fd 2))) | _ => False)], ?_, ?_⟩
  · refine ⟨⟨rfl, ?_⟩, trivial⟩
    · refine fun x i B mm hB hz hI => ?_
      obtain ⟨i1, j1, f1, hm, d0, d1, c0, c1, c2, c3, c4, c5, c6, c7, c8, c9, c10, c11, c12, c13⟩ := hI
      obtain ⟨hz_x, hz_i, _⟩ := hz
      obtain ⟨v18, e19⟩ : ∃ v, v = B 54 (fd 0) := ⟨_, rfl⟩
      rw [← e19] at d0
      obtain ⟨v20, e21⟩ : ∃ v, v = B 54 (fd 1) := ⟨_, rfl⟩
      rw [← e21] at d1
      have hc_71_8 := ivf_at j1 12 rfl
      have hc_54_3 := ivf_at j1 1 rfl
      have hc_54_2 := ivf_at j1 0 rfl
      have hc_t : B 54 (fd 2) = A 54 (fd 2) := frm_f f1 rfl
      have hc_w : B 53 = A 53 := frm_a f1 rfl
      refine And.intro (fun h22 => ?_) (fun h22 => ?_)
      · obtain ⟨v23, e24⟩ : ∃ v, v = B 54 (fd 0) := ⟨_, rfl⟩
        have q25 : v18 = v23 := (e24.trans e19.symm).symm
        subst q25
        obtain ⟨v26, e27⟩ : ∃ v, v = B 54 (fd 1) := ⟨_, rfl⟩
        have q28 : v20 = v26 := (e27.trans e21.symm).symm
        subst q28
        refine And.intro rfl (And.intro (And.intro i1 (And.intro j1 (And.intro (by rw [← e24]; omega) (by rw [← e27]; omega)))) (fun r29 g31 g32 g30 => ?_))
        refine Exists.intro r29 (And.intro rfl (And.intro (fun h33 => ?_) (fun h33 => ?_)))
        · refine And.intro (fun h34 => by exfalso; omega) (fun h34 => ?_)
          obtain ⟨v35, e36⟩ : ∃ v, v = B 54 (fd 0) := ⟨_, rfl⟩
          have q37 : v18 = v35 := (e36.trans e24.symm).symm
          subst q37
          obtain ⟨v38, e39⟩ : ∃ v, v = B 54 (fd 1) := ⟨_, rfl⟩
          have q40 : v20 = v38 := (e39.trans e27.symm).symm
          subst q40
          refine Exists.intro 2 (And.intro rfl (And.intro (And.intro i1 (And.intro j1 (And.intro (by omega) (And.intro (by omega) (And.intro (by rw [← e36]; omega) (by rw [← e39]; omega)))))) (fun A41 i42 j43 f44 => (fun h45 => ?_))))
          · have f46 := frm_c f1 f44 rfl
            have t47 : A41 71 (fd 8) = B 71 (fd 8) := (frm_f f44 rfl)
            have t48 : A41 54 (fd 3) = B 54 (fd 3) := (frm_f f44 rfl)
            have t49 : A41 54 (fd 2) = B 54 (fd 2) := (frm_f f44 rfl)
            have kk50 := KO_fr c9 f44 rfl
            have pf51 := PF_k c10 (frm_a f44 rfl)
            exact And.intro (by omega) (hK _ i42 j43 f46 _ (by omega) (by omega) kk50 pf51 (by first | assumption | omega | simp_all) (by first | assumption | omega | simp_all))
        · refine And.intro (fun h52 => ?_) (fun h52 => by exfalso; omega)
          obtain ⟨v53, e54⟩ : ∃ v, v = B 54 (fd 1) := ⟨_, rfl⟩
          have q55 : v20 = v53 := (e54.trans e27.symm).symm
          subst q55
          refine And.intro (show B 54 (fd 1) = ((71 : Nat) : Int) by omega) ?_
          refine Exists.intro 48 (Exists.intro x (And.intro rfl (And.intro (And.intro i1 (And.intro j1 (And.intro (by omega) (And.intro (by omega) (And.intro c9 (And.intro (by first | assumption | omega | simp_all) (by first | assumption | omega | simp_all))))))) (fun A56 i57 j58 f59 g60 g61 g62 g63 => ?_))))
          have f64 := frm_c f1 f59 rfl
          have t65 := ivf_at j58 12 rfl
          have t66 : A56 54 (fd 3) = B 54 (fd 3) := (frm_f f59 rfl)
          have t67 : A56 54 (fd 2) = B 54 (fd 2) := (frm_f f59 rfl)
          have pf68 := PF_tr c10 g61 (by omega)
          exact And.intro (by omega) (hK _ i57 j58 f64 _ (by omega) (by omega) g60 pf68 (by first | assumption | omega | simp_all) (by first | assumption | omega | simp_all))
      · obtain ⟨v69, e70⟩ : ∃ v, v = B 54 (fd 0) := ⟨_, rfl⟩
        have q71 : v18 = v69 := (e70.trans e19.symm).symm
        subst q71
        obtain ⟨v72, e73⟩ : ∃ v, v = B 54 (fd 1) := ⟨_, rfl⟩
        have q74 : v20 = v72 := (e73.trans e21.symm).symm
        subst q74
        refine And.intro rfl (And.intro (And.intro i1 (And.intro j1 (And.intro (by rw [← e70]; omega) (by rw [← e73]; omega)))) (fun r75 g77 g78 g76 => ?_))
        refine Exists.intro r75 (And.intro rfl (And.intro (fun h79 => ?_) (fun h79 => ?_)))
        · refine And.intro (fun h80 => by exfalso; omega) (fun h80 => ?_)
          refine fun v81 e82 => ?_
          obtain ⟨v83, e84⟩ : ∃ v, v = B 54 (fd 0) := ⟨_, rfl⟩
          have q85 : v18 = v83 := (e84.trans e70.symm).symm
          subst q85
          obtain ⟨v86, e87⟩ : ∃ v, v = B 54 (fd 1) := ⟨_, rfl⟩
          have q88 : v20 = v86 := (e87.trans e73.symm).symm
          subst q88
          refine And.intro rfl (And.intro (And.intro i1 (And.intro j1 (And.intro (by rw [← e84]; omega) (by rw [← e87]; omega)))) (fun r89 g91 g92 g90 => ?_))
          refine fun v93 e94 => ?_
          refine fun v95 e96 => ?_
          refine fun v97 gv97 e98 => ?_
          have b99 := ivf_at j1 1 rfl
          refine fun v100 e101 => ?_
          refine And.intro (by omega) (fun A102 e103 => ?_)
          have i104 := iva_sf i1 e103 rfl
          have j105 := ivf_st j1 e103 (And.intro (by omega) trivial)
          have f106 := frm_sf f1 e103 rfl
          have t107 : A102 71 (fd 8) = B 71 (fd 8) := (congrFun (st_a e103 rfl) _)
          have t108 := st_v e103
          have t109 : A102 54 (fd 2) = B 54 (fd 2) := (st_f e103 rfl)
          have kk110 := KO_k c9 (st_a e103 rfl) (st_a e103 rfl) (st_a e103 rfl) (st_a e103 rfl)
          have pf111 := PF_k c10 (st_a e103 rfl)
          refine fun v112 e113 => ?_
          obtain ⟨v114, e115⟩ : ∃ v, v = A102 54 (fd 0) := ⟨_, rfl⟩
          have q116 : v18 = v114 := (e115.trans ((st_f e103 rfl).trans e84.symm)).symm
          subst q116
          obtain ⟨v117, e118⟩ : ∃ v, v = A102 54 (fd 1) := ⟨_, rfl⟩
          have q119 : v20 = v117 := (e118.trans ((st_f e103 rfl).trans e87.symm)).symm
          subst q119
          exact And.intro (by omega) (And.intro (by omega) (Exists.intro (5 - v112 : Int).toNat (And.intro (by omega) (And.intro i104 (And.intro j105 (And.intro f106 (And.intro rfl (And.intro (by rw [← e115]; omega) (And.intro (by rw [← e118]; omega) (And.intro (by omega) (And.intro (by omega) (And.intro (by omega) (And.intro (by omega) (And.intro (by omega) (And.intro (by omega) (And.intro (by omega) (And.intro (by omega) (And.intro (by omega) (And.intro kk110 (And.intro pf111 (And.intro (by omega) (And.intro (by omega) (by omega)))))))))))))))))))))))
        · refine And.intro (fun h120 => ?_) (fun h120 => by exfalso; omega)
          obtain ⟨v121, e122⟩ : ∃ v, v = B 54 (fd 0) := ⟨_, rfl⟩
          have q123 : v18 = v121 := (e122.trans e70.symm).symm
          subst q123
          obtain ⟨v124, e125⟩ : ∃ v, v = B 54 (fd 1) := ⟨_, rfl⟩
          have q126 : v20 = v124 := (e125.trans e73.symm).symm
          subst q126
          refine And.intro rfl (And.intro (And.intro i1 (And.intro j1 (And.intro (by rw [← e122]; omega) (by rw [← e125]; omega)))) (fun r127 g129 g130 g128 => ?_))
          refine Exists.intro r127 (And.intro rfl (And.intro (fun h131 => ?_) (fun h131 => ?_)))
          · refine And.intro (fun h132 => by exfalso; omega) (fun h132 => ?_)
            obtain ⟨v133, e134⟩ : ∃ v, v = B 54 (fd 0) := ⟨_, rfl⟩
            have q135 : v18 = v133 := (e134.trans e122.symm).symm
            subst q135
            obtain ⟨v136, e137⟩ : ∃ v, v = B 54 (fd 1) := ⟨_, rfl⟩
            have q138 : v20 = v136 := (e137.trans e125.symm).symm
            subst q138
            refine Exists.intro 2 (And.intro rfl (And.intro (And.intro i1 (And.intro j1 (And.intro (by omega) (And.intro (by omega) (And.intro (by rw [← e134]; omega) (by rw [← e137]; omega)))))) (fun A139 i140 j141 f142 => (fun h143 => ?_))))
            · have f144 := frm_c f1 f142 rfl
              have t145 : A139 71 (fd 8) = B 71 (fd 8) := (frm_f f142 rfl)
              have t146 : A139 54 (fd 3) = B 54 (fd 3) := (frm_f f142 rfl)
              have t147 : A139 54 (fd 2) = B 54 (fd 2) := (frm_f f142 rfl)
              have kk148 := KO_fr c9 f142 rfl
              have pf149 := PF_k c10 (frm_a f142 rfl)
              exact And.intro (by omega) (hK _ i140 j141 f144 _ (by omega) (by omega) kk148 pf149 (by first | assumption | omega | simp_all) (by first | assumption | omega | simp_all))
          · refine And.intro (fun h150 => ?_) (fun h150 => by exfalso; omega)
            obtain ⟨v151, e152⟩ : ∃ v, v = B 54 (fd 1) := ⟨_, rfl⟩
            have q153 : v20 = v151 := (e152.trans e125.symm).symm
            subst q153
            refine And.intro (show B 54 (fd 1) = ((71 : Nat) : Int) by omega) ?_
            refine Exists.intro 48 (Exists.intro x (And.intro rfl (And.intro (And.intro i1 (And.intro j1 (And.intro (by omega) (And.intro (by omega) (And.intro c9 (And.intro (by first | assumption | omega | simp_all) (by first | assumption | omega | simp_all))))))) (fun A154 i155 j156 f157 g158 g159 g160 g161 => ?_))))
            have f162 := frm_c f1 f157 rfl
            have t163 := ivf_at j156 12 rfl
            have t164 : A154 54 (fd 3) = B 54 (fd 3) := (frm_f f157 rfl)
            have t165 : A154 54 (fd 2) = B 54 (fd 2) := (frm_f f157 rfl)
            have pf166 := PF_tr c10 g159 (by omega)
            exact And.intro (by omega) (hK _ i155 j156 f162 _ (by omega) (by omega) g158 pf166 (by first | assumption | omega | simp_all) (by first | assumption | omega | simp_all))
  · obtain ⟨v12, e13⟩ : ∃ v, v = A 54 (fd 0) := ⟨_, rfl⟩
    have q14 : v8 = v12 := (e13.trans e9.symm).symm
    subst q14
    obtain ⟨v15, e16⟩ : ∃ v, v = A 54 (fd 1) := ⟨_, rfl⟩
    have q17 : v10 = v15 := (e16.trans e11.symm).symm
    subst q17
    exact Exists.intro (5 - 0 : Int).toNat (And.intro i0 (And.intro j0 (And.intro f0 (And.intro rfl (And.intro (by rw [← e13]; omega) (And.intro (by rw [← e16]; omega) (And.intro (by omega) (And.intro (by omega) (And.intro (by omega) (And.intro (by omega) (And.intro (by omega) (And.intro (by omega) (And.intro (by omega) (And.intro (by omega) (And.intro (by omega) (And.intro p3 (And.intro pf0 (And.intro (by omega) (And.intro (by omega) (by omega))))))))))))))))))))
def sC_readFactor6_71 : qS := fun as A K => ∃ d : Int, as = [rf 54, ni d] ∧ (iva IC A ∧ ivf JC A ∧ 6 ≤ d ∧ d ≤ 6 ∧ (52 ≤ A 54 (fd 0) ∧ A 54 (fd 0) ≤ 52) ∧ (71 ≤ A 54 (fd 1) ∧ A 54 (fd 1) ≤ 71) ∧ (KO A) ∧ (A 71 (fd 8) ≤ A 54 (fd 3))) ∧ (∀ A' : qA, iva IC A' → ivf JC A' → frm [72, 73] [(71, 8), (54, 3), (54, 4)] A A' → ∀ r : Int, 0 ≤ r → r ≤ 1 → (KO A') → (PF 71 A A') → (A 71 (fd 8) ≤ A' 71 (fd 8)) → (A' 71 (fd 8) + A 54 (fd 3) ≤ A 71 (fd 8) + A' 54 (fd 3)) → K (some (ni r)) A')
theorem okC_readFactor6_71 : okM LC 3 59 sC_readFactor6_71 := by
  refine qmeth [(54, 0, 52), (54, 1, 71)] false [(46, sC_look_71), (60, sC_isDigit), (61, sC_readNumber_71), (75, sC_putr71), (47, sC_fail_71), (49, sC_enter_71)] 60 rfl ⟨okC_look_71.le (by decide), ⟨okC_isDigit.le (by decide), ⟨okC_readNumber_71.le (by decide), ⟨okC_putr71.le (by decide), ⟨okC_fail_71.le (by decide), ⟨okC_enter_71.le (by decide), trivial⟩⟩⟩⟩⟩⟩ ?_
  rintro _ A K hA has ⟨d, rfl, ⟨i0, j0, p1, p2, p3, p4, p5, p6⟩, hK⟩
  have rg_d : rng d := has (ni d) (by simp)
  have f0 := frm_0 [72, 73] [(71, 8), (54, 3), (54, 4)] A
  obtain ⟨v7, e8⟩ : ∃ v, v = A 54 (fd 0) := ⟨_, rfl⟩
  rw [← e8] at p3
  obtain ⟨v9, e10⟩ : ∃ v, v = A 54 (fd 1) := ⟨_, rfl⟩
  rw [← e10] at p4
  have pf0 := PF_rf 71 A
  have hb_71_8 := ivf_at j0 12 rfl
  have hb_54_3 := ivf_at j0 1 rfl
  have hb_54_2 := ivf_at j0 0 rfl
  refine ⟨Nat.le_of_ble_eq_true rfl, [], trivial, ?_⟩
  obtain ⟨v11, e12⟩ : ∃ v, v = A 54 (fd 0) := ⟨_, rfl⟩
  have q13 : v7 = v11 := (e12.trans e8.symm).symm
  subst q13
  obtain ⟨v14, e15⟩ : ∃ v, v = A 54 (fd 1) := ⟨_, rfl⟩
  have q16 : v9 = v14 := (e15.trans e10.symm).symm
  subst q16
  refine And.intro rfl (And.intro (And.intro i0 (And.intro j0 (And.intro (by rw [← e12]; omega) (by rw [← e15]; omega)))) (fun r17 g19 g20 g18 => ?_))
  refine And.intro (fun h21 => ?_) (fun h21 => ?_)
  · refine Exists.intro r17 (And.intro rfl (And.intro (fun h22 => ?_) (fun h22 => ?_)))
    · refine And.intro (fun h23 => by exfalso; omega) (fun h23 => ?_)
      obtain ⟨v24, e25⟩ : ∃ v, v = A 54 (fd 0) := ⟨_, rfl⟩
      have q26 : v7 = v24 := (e25.trans e12.symm).symm
      subst q26
      obtain ⟨v27, e28⟩ : ∃ v, v = A 54 (fd 1) := ⟨_, rfl⟩
      have q29 : v9 = v27 := (e28.trans e15.symm).symm
      subst q29
      refine And.intro rfl (And.intro (And.intro i0 (And.intro j0 (And.intro (by rw [← e25]; omega) (And.intro (by rw [← e28]; omega) (And.intro p5 (And.intro (by first | assumption | omega | simp_all) (And.intro (by first | assumption | omega | simp_all) (And.intro (by first | assumption | omega | simp_all) (by first | assumption | omega | simp_all))))))))) (fun A30 i31 j32 f33 r34 g39 g40 g35 g36 g37 g38 => ?_))
      have f41 := frm_c f0 f33 rfl
      have t42 := ivf_at j32 12 rfl
      have t43 := ivf_at j32 1 rfl
      have t44 : A30 54 (fd 2) = A 54 (fd 2) := (frm_f f33 rfl)
      have pf45 := PF_tr pf0 g36 (by omega)
      exact And.intro (by omega) (hK _ i31 j32 f41 _ (by omega) (by omega) g35 pf45 (by first | assumption | omega | simp_all) (by first | assumption | omega | simp_all))
    · refine And.intro (fun h46 => ?_) (fun h46 => by exfalso; omega)
      refine fun v47 e48 => ?_
      have h49 := qone_bd 0 r17
      rw [← e48] at h49
      have h50 := qone_p (s := 0) (x := r17) (by omega)
      refine And.intro (fun h51 => ?_) (fun h51 => ?_)
      · obtain ⟨v52, e53⟩ : ∃ v, v = A 54 (fd 1) := ⟨_, rfl⟩
        have q54 : v9 = v52 := (e53.trans e15.symm).symm
        subst q54
        refine And.intro (show A 54 (fd 1) = ((71 : Nat) : Int) by omega) ?_
        refine fun v55 e56 => ?_
        have h57 := qix_bd 0 r17
        rw [← e56] at h57
        refine Exists.intro 107 (Exists.intro v55 (And.intro rfl (And.intro (And.intro i0 (And.intro j0 (And.intro (by omega) (And.intro (by omega) (And.intro p5 (And.intro (by first | assumption | omega | simp_all) (by first | assumption | omega | simp_all))))))) (fun A58 i59 j60 f61 g62 g63 g64 g65 => ?_))))
        have f66 := frm_c f0 f61 rfl
        have t67 := ivf_at j60 12 rfl
        have t68 : A58 54 (fd 3) = A 54 (fd 3) := (frm_f f61 rfl)
        have t69 : A58 54 (fd 2) = A 54 (fd 2) := (frm_f f61 rfl)
        have pf70 := PF_tr pf0 g63 (by omega)
        refine fun v71 gv71 e72 => ?_
        have b73 := ivf_at j60 1 rfl
        refine fun v74 e75 => ?_
        refine And.intro (by omega) (fun A76 e77 => ?_)
        have i78 := iva_sf i59 e77 rfl
        have j79 := ivf_st j60 e77 (And.intro (by omega) trivial)
        have f80 := frm_sf f66 e77 rfl
        have t81 : A76 71 (fd 8) = A58 71 (fd 8) := (congrFun (st_a e77 rfl) _)
        have t82 := st_v e77
        have t83 : A76 54 (fd 2) = A58 54 (fd 2) := (st_f e77 rfl)
        have kk84 := KO_k g62 (st_a e77 rfl) (st_a e77 rfl) (st_a e77 rfl) (st_a e77 rfl)
        have pf85 := PF_k pf70 (st_a e77 rfl)
        exact And.intro (by omega) (hK _ i78 j79 f80 _ (by omega) (by omega) kk84 pf85 (by first | assumption | omega | simp_all) (by first | assumption | omega | simp_all))
      · obtain ⟨v86, e87⟩ : ∃ v, v = A 54 (fd 0) := ⟨_, rfl⟩
        have q88 : v7 = v86 := (e87.trans e12.symm).symm
        subst q88
        obtain ⟨v89, e90⟩ : ∃ v, v = A 54 (fd 1) := ⟨_, rfl⟩
        have q91 : v9 = v89 := (e90.trans e15.symm).symm
        subst q91
        refine Exists.intro 1 (And.intro rfl (And.intro (And.intro i0 (And.intro j0 (And.intro (by omega) (And.intro (by omega) (And.intro (by rw [← e87]; omega) (by rw [← e90]; omega)))))) (fun A92 i93 j94 f95 => (fun h96 => ?_))))
        · have f97 := frm_c f0 f95 rfl
          have t98 : A92 71 (fd 8) = A 71 (fd 8) := (frm_f f95 rfl)
          have t99 : A92 54 (fd 3) = A 54 (fd 3) := (frm_f f95 rfl)
          have t100 : A92 54 (fd 2) = A 54 (fd 2) := (frm_f f95 rfl)
          have kk101 := KO_fr p5 f95 rfl
          have pf102 := PF_k pf0 (frm_a f95 rfl)
          exact And.intro (by omega) (hK _ i93 j94 f97 _ (by omega) (by omega) kk101 pf102 (by first | assumption | omega | simp_all) (by first | assumption | omega | simp_all))
  · obtain ⟨v103, e104⟩ : ∃ v, v = A 54 (fd 0) := ⟨_, rfl⟩
    have q105 : v7 = v103 := (e104.trans e12.symm).symm
    subst q105
    obtain ⟨v106, e107⟩ : ∃ v, v = A 54 (fd 1) := ⟨_, rfl⟩
    have q108 : v9 = v106 := (e107.trans e15.symm).symm
    subst q108
    refine Exists.intro d (And.intro rfl (And.intro (And.intro i0 (And.intro j0 (And.intro (by omega) (And.intro (by omega) (And.intro (by rw [← e104]; omega) (And.intro (by rw [← e107]; omega) (And.intro p5 (by first | assumption | omega | simp_all)))))))) (fun A109 i110 j111 f112 g113 g114 => (And.intro (fun h115 => by exfalso; omega) (fun h115 => ?_)))))
    · have f116 := frm_c f0 f112 rfl
      have t117 : A109 71 (fd 8) = A 71 (fd 8) := (frm_f f112 rfl)
      have t118 := ivf_at j111 1 rfl
      have t119 : A109 54 (fd 2) = A 54 (fd 2) := (frm_f f112 rfl)
      have kk120 := KO_fr p5 f112 rfl
      have pf121 := PF_k pf0 (frm_a f112 rfl)
      refine And.intro (fun h122 => ?_) (fun h122 => by exfalso; omega)
      exact And.intro (by omega) (hK _ i110 j111 f116 _ (by omega) (by omega) kk120 pf121 (by first | assumption | omega | simp_all) (by first | assumption | omega | simp_all))
def sC_readTerm6_71 : qS := fun as A K => ∃ d : Int, as = [rf 54, ni d] ∧ (iva IC A ∧ ivf JC A ∧ 6 ≤ d ∧ d ≤ 6 ∧ (52 ≤ A 54 (fd 0) ∧ A 54 (fd 0) ≤ 52) ∧ (71 ≤ A 54 (fd 1) ∧ A 54 (fd 1) ≤ 71) ∧ (KO A) ∧ (A 71 (fd 8) ≤ A 54 (fd 3))) ∧ (∀ A' : qA, iva IC A' → ivf JC A' → frm [72, 73] [(71, 8), (54, 3), (54, 4)] A A' → ∀ r : Int, 0 ≤ r → r ≤ 1 → (KO A') → (PF 71 A A') → (A 71 (fd 8) ≤ A' 71 (fd 8)) → (A' 71 (fd 8) + A 54 (fd 3) ≤ A 71 (fd 8) + A' 54 (fd 3)) → K (some (ni r)) A')
theorem okC_readTerm6_71 : okM LC 4 58 sC_readTerm6_71 := by
  refine qmeth [(54, 0, 52), (54, 1, 71)] false [(59, sC_readFactor6_71), (46, sC_look_71), (75, sC_putr71)] 44 rfl ⟨okC_readFactor6_71.le (by decide), ⟨okC_look_71.le (by decide), ⟨okC_putr71.le (by decide), trivial⟩⟩⟩ ?_
  rintro _ A K hA has ⟨d, rfl, ⟨i0, j0, p1, p2, p3, p4, p5, p6⟩, hK⟩
  have rg_d : rng d := has (ni d) (by simp)
  have f0 := frm_0 [72, 73] [(71, 8), (54, 3), (54, 4)] A
  obtain ⟨v7, e8⟩ : ∃ v, v = A 54 (fd 0) := ⟨_, rfl⟩
  rw [← e8] at p3
  obtain ⟨v9, e10⟩ : ∃ v, v = A 54 (fd 1) := ⟨_, rfl⟩
  rw [← e10] at p4
  have pf0 := PF_rf 71 A
  have hb_71_8 := ivf_at j0 12 rfl
  have hb_54_3 := ivf_at j0 1 rfl
  have hb_54_2 := ivf_at j0 0 rfl
  refine ⟨Nat.le_of_ble_eq_true rfl, [(6, [(0, 2, 54), (1, 0, 0), (2, 0, 0), (3, 0, 0)], fun zs B nn => match zs with | [l1, w, i] => iva IC B ∧ ivf JC B ∧ frm [72, 73] [(71, 8), (54, 3), (54, 4)] A B ∧ nn = (200 - i : Int).toNat ∧ (52 ≤ B 54 (fd 0) ∧ B 54 (fd 0) ≤ 52) ∧ (71 ≤ B 54 (fd 1) ∧ B 54 (fd 1) ≤ 71) ∧ (l1 = d) ∧ (0 ≤ i) ∧ (i ≤ 200) ∧ (0 ≤ w) ∧ (w ≤ 1) ∧ (KO B) ∧ (PF 71 A B) ∧ (A 71 (fd 8) ≤ B 71 (fd 8)) ∧ (B 71 (fd 8) + A 54 (fd 3) ≤ A 71 (fd 8) + B 54 (fd 3)) ∧ (B 71 (fd 8) ≤ B 54 (fd 3)) | _ => False)], ?_, ?_⟩
  · refine ⟨⟨rfl, ?_⟩, trivial⟩
    · refine fun l1 w i B mm hB hz hI => ?_
      obtain ⟨i1, j1, f1, hm, d0, d1, c0, c1, c2, c3, c4, c5, c6, c7, c8, c9⟩ := hI
      obtain ⟨hz_l1, hz_w, hz_i, _⟩ := hz
      obtain ⟨v39, e40⟩ : ∃ v, v = B 54 (fd 0) := ⟨_, rfl⟩
      rw [← e40] at d0
      obtain ⟨v41, e42⟩ : ∃ v, v = B 54 (fd 1) := ⟨_, rfl⟩
      rw [← e42] at d1
      have hc_71_8 := ivf_at j1 12 rfl
      have hc_54_3 := ivf_at j1 1 rfl
      have hc_54_2 := ivf_at j1 0 rfl
      have hc_t : B 54 (fd 2) = A 54 (fd 2) := frm_f f1 rfl
      have hc_w : B 53 = A 53 := frm_a f1 rfl
      refine And.intro (fun h43 => ?_) (fun h43 => ?_)
      · exact And.intro (by omega) (hK _ i1 j1 f1 _ (by omega) (by omega) c5 c6 (by first | assumption | omega | simp_all) (by first | assumption | omega | simp_all))
      · refine And.intro (fun h44 => ?_) (fun h44 => ?_)
        · exact And.intro (by omega) (hK _ i1 j1 f1 _ (by omega) (by omega) c5 c6 (by first | assumption | omega | simp_all) (by first | assumption | omega | simp_all))
        · obtain ⟨v45, e46⟩ : ∃ v, v = B 54 (fd 0) := ⟨_, rfl⟩
          have q47 : v39 = v45 := (e46.trans e40.symm).symm
          subst q47
          obtain ⟨v48, e49⟩ : ∃ v, v = B 54 (fd 1) := ⟨_, rfl⟩
          have q50 : v41 = v48 := (e49.trans e42.symm).symm
          subst q50
          refine And.intro rfl (And.intro (And.intro i1 (And.intro j1 (And.intro (by rw [← e46]; omega) (by rw [← e49]; omega)))) (fun r51 g53 g54 g52 => ?_))
          refine fun v55 e56 => ?_
          have h57 := qone_bd 4 r51
          rw [← e56] at h57
          have h58 := qone_p (s := 4) (x := r51) (by omega)
          refine And.intro (fun h59 => ?_) (fun h59 => ?_)
          · exact And.intro (by omega) (hK _ i1 j1 f1 _ (by omega) (by omega) c5 c6 (by first | assumption | omega | simp_all) (by first | assumption | omega | simp_all))
          · obtain ⟨v60, e61⟩ : ∃ v, v = B 54 (fd 0) := ⟨_, rfl⟩
            have q62 : v39 = v60 := (e61.trans e46.symm).symm
            subst q62
            obtain ⟨v63, e64⟩ : ∃ v, v = B 54 (fd 1) := ⟨_, rfl⟩
            have q65 : v41 = v63 := (e64.trans e49.symm).symm
            subst q65
            refine And.intro rfl (And.intro (And.intro i1 (And.intro j1 (And.intro (by rw [← e61]; omega) (by rw [← e64]; omega)))) (fun r66 g68 g69 g67 => ?_))
            refine fun v70 gv70 e71 => ?_
            have b72 := ivf_at j1 1 rfl
            refine fun v73 e74 => ?_
            refine And.intro (by omega) (fun A75 e76 => ?_)
            have i77 := iva_sf i1 e76 rfl
            have j78 := ivf_st j1 e76 (And.intro (by omega) trivial)
            have f79 := frm_sf f1 e76 rfl
            have t80 : A75 71 (fd 8) = B 71 (fd 8) := (congrFun (st_a e76 rfl) _)
            have t81 := st_v e76
            have t82 : A75 54 (fd 2) = B 54 (fd 2) := (st_f e76 rfl)
            have kk83 := KO_k c5 (st_a e76 rfl) (st_a e76 rfl) (st_a e76 rfl) (st_a e76 rfl)
            have pf84 := PF_k c6 (st_a e76 rfl)
            obtain ⟨v85, e86⟩ : ∃ v, v = A75 54 (fd 0) := ⟨_, rfl⟩
            have q87 : v39 = v85 := (e86.trans ((st_f e76 rfl).trans e61.symm)).symm
            subst q87
            obtain ⟨v88, e89⟩ : ∃ v, v = A75 54 (fd 1) := ⟨_, rfl⟩
            have q90 : v41 = v88 := (e89.trans ((st_f e76 rfl).trans e64.symm)).symm
            subst q90
            refine Exists.intro l1 (And.intro rfl (And.intro (And.intro i77 (And.intro j78 (And.intro (by omega) (And.intro (by omega) (And.intro (by rw [← e86]; omega) (And.intro (by rw [← e89]; omega) (And.intro kk83 (by first | assumption | omega | simp_all)))))))) (fun A91 i92 j93 f94 r95 g100 g101 g96 g97 g98 g99 => ?_)))
            have f102 := frm_c f79 f94 rfl
            have t103 := ivf_at j93 12 rfl
            have t104 := ivf_at j93 1 rfl
            have t105 : A91 54 (fd 2) = A75 54 (fd 2) := (frm_f f94 rfl)
            have pf106 := PF_tr pf84 g97 (by omega)
            obtain ⟨v107, e108⟩ : ∃ v, v = A91 54 (fd 1) := ⟨_, rfl⟩
            have q109 : v41 = v107 := (e108.trans ((frm_f f94 rfl).trans e89.symm)).symm
            subst q109
            refine And.intro (show A91 54 (fd 1) = ((71 : Nat) : Int) by omega) ?_
            refine Exists.intro r66 (Exists.intro 0 (And.intro rfl (And.intro (And.intro i92 (And.intro j93 (And.intro (by omega) (And.intro (by omega) (And.intro g96 (And.intro (by first | assumption | omega | simp_all) (by first | assumption | omega | simp_all))))))) (fun A110 i111 j112 f113 g114 g115 g116 g117 => ?_))))
            have f118 := frm_c f102 f113 rfl
            have t119 := ivf_at j112 12 rfl
            have t120 : A110 54 (fd 3) = A91 54 (fd 3) := (frm_f f113 rfl)
            have t121 : A110 54 (fd 2) = A91 54 (fd 2) := (frm_f f113 rfl)
            have pf122 := PF_tr pf106 g115 (by omega)
            refine fun v123 e124 => ?_
            obtain ⟨v125, e126⟩ : ∃ v, v = A110 54 (fd 0) := ⟨_, rfl⟩
            have q127 : v39 = v125 := (e126.trans ((Eq.trans (frm_f f113 rfl) (frm_f f94 rfl)).trans e86.symm)).symm
            subst q127
            obtain ⟨v128, e129⟩ : ∃ v, v = A110 54 (fd 1) := ⟨_, rfl⟩
            have q130 : v41 = v128 := (e129.trans ((frm_f f113 rfl).trans e108.symm)).symm
            subst q130
            exact And.intro (by omega) (Exists.intro (200 - v123 : Int).toNat (And.intro (by omega) (And.intro i111 (And.intro j112 (And.intro f118 (And.intro rfl (And.intro (by rw [← e126]; omega) (And.intro (by rw [← e129]; omega) (And.intro (by omega) (And.intro (by omega) (And.intro (by omega) (And.intro (by omega) (And.intro (by omega) (And.intro g114 (And.intro pf122 (And.intro (by omega) (And.intro (by omega) (by omega))))))))))))))))))
  · obtain ⟨v11, e12⟩ : ∃ v, v = A 54 (fd 0) := ⟨_, rfl⟩
    have q13 : v7 = v11 := (e12.trans e8.symm).symm
    subst q13
    obtain ⟨v14, e15⟩ : ∃ v, v = A 54 (fd 1) := ⟨_, rfl⟩
    have q16 : v9 = v14 := (e15.trans e10.symm).symm
    subst q16
    refine Exists.intro d (And.intro rfl (And.intro (And.intro i0 (And.intro j0 (And.intro (by omega) (And.intro (by omega) (And.intro (by rw [← e12]; omega) (And.intro (by rw [← e15]; omega) (And.intro p5 (by first | assumption | omega | simp_all)))))))) (fun A17 i18 j19 f20 r21 g26 g27 g22 g23 g24 g25 => ?_)))
    have f28 := frm_c f0 f20 rfl
    have t29 := ivf_at j19 12 rfl
    have t30 := ivf_at j19 1 rfl
    have t31 : A17 54 (fd 2) = A 54 (fd 2) := (frm_f f20 rfl)
    have pf32 := PF_tr pf0 g23 (by omega)
    obtain ⟨v33, e34⟩ : ∃ v, v = A17 54 (fd 0) := ⟨_, rfl⟩
    have q35 : v7 = v33 := (e34.trans ((frm_f f20 rfl).trans e12.symm)).symm
    subst q35
    obtain ⟨v36, e37⟩ : ∃ v, v = A17 54 (fd 1) := ⟨_, rfl⟩
    have q38 : v9 = v36 := (e37.trans ((frm_f f20 rfl).trans e15.symm)).symm
    subst q38
    exact Exists.intro (200 - 0 : Int).toNat (And.intro i18 (And.intro j19 (And.intro f28 (And.intro rfl (And.intro (by rw [← e34]; omega) (And.intro (by rw [← e37]; omega) (And.intro (by omega) (And.intro (by omega) (And.intro (by omega) (And.intro (by omega) (And.intro (by omega) (And.intro g22 (And.intro pf32 (And.intro (by omega) (And.intro (by omega) (by omega))))))))))))))))
def sC_readSum6_71 : qS := fun as A K => ∃ d : Int, as = [rf 54, ni d] ∧ (iva IC A ∧ ivf JC A ∧ 6 ≤ d ∧ d ≤ 6 ∧ (52 ≤ A 54 (fd 0) ∧ A 54 (fd 0) ≤ 52) ∧ (71 ≤ A 54 (fd 1) ∧ A 54 (fd 1) ≤ 71) ∧ (KO A) ∧ (A 71 (fd 8) ≤ A 54 (fd 3))) ∧ (∀ A' : qA, iva IC A' → ivf JC A' → frm [72, 73] [(71, 8), (54, 3), (54, 4)] A A' → ∀ r : Int, 0 ≤ r → r ≤ 1 → (KO A') → (PF 71 A A') → (A 71 (fd 8) ≤ A' 71 (fd 8)) → (A' 71 (fd 8) + A 54 (fd 3) ≤ A 71 (fd 8) + A' 54 (fd 3)) → K (some (ni r)) A')
theorem okC_readSum6_71 : okM LC 5 57 sC_readSum6_71 := by
  refine qmeth [(54, 0, 52), (54, 1, 71)] false [(58, sC_readTerm6_71), (46, sC_look_71), (75, sC_putr71)] 44 rfl ⟨okC_readTerm6_71.le (by decide), ⟨okC_look_71.le (by decide), ⟨okC_putr71.le (by decide), trivial⟩⟩⟩ ?_
  rintro _ A K hA has ⟨d, rfl, ⟨i0, j0, p1, p2, p3, p4, p5, p6⟩, hK⟩
  have rg_d : rng d := has (ni d) (by simp)
  have f0 := frm_0 [72, 73] [(71, 8), (54, 3), (54, 4)] A
  obtain ⟨v7, e8⟩ : ∃ v, v = A 54 (fd 0) := ⟨_, rfl⟩
  rw [← e8] at p3
  obtain ⟨v9, e10⟩ : ∃ v, v = A 54 (fd 1) := ⟨_, rfl⟩
  rw [← e10] at p4
  have pf0 := PF_rf 71 A
  have hb_71_8 := ivf_at j0 12 rfl
  have hb_54_3 := ivf_at j0 1 rfl
  have hb_54_2 := ivf_at j0 0 rfl
  refine ⟨Nat.le_of_ble_eq_true rfl, [(6, [(0, 2, 54), (1, 0, 0), (2, 0, 0), (3, 0, 0)], fun zs B nn => match zs with | [l1, w, i] => iva IC B ∧ ivf JC B ∧ frm [72, 73] [(71, 8), (54, 3), (54, 4)] A B ∧ nn = (200 - i : Int).toNat ∧ (52 ≤ B 54 (fd 0) ∧ B 54 (fd 0) ≤ 52) ∧ (71 ≤ B 54 (fd 1) ∧ B 54 (fd 1) ≤ 71) ∧ (l1 = d) ∧ (0 ≤ i) ∧ (i ≤ 200) ∧ (0 ≤ w) ∧ (w ≤ 1) ∧ (KO B) ∧ (PF 71 A B) ∧ (A 71 (fd 8) ≤ B 71 (fd 8)) ∧ (B 71 (fd 8) + A 54 (fd 3) ≤ A 71 (fd 8) + B 54 (fd 3)) ∧ (B 71 (fd 8) ≤ B 54 (fd 3)) | _ => False)], ?_, ?_⟩
  · refine ⟨⟨rfl, ?_⟩, trivial⟩
    · refine fun l1 w i B mm hB hz hI => ?_
      obtain ⟨i1, j1, f1, hm, d0, d1, c0, c1, c2, c3, c4, c5, c6, c7, c8, c9⟩ := hI
      obtain ⟨hz_l1, hz_w, hz_i, _⟩ := hz
      obtain ⟨v39, e40⟩ : ∃ v, v = B 54 (fd 0) := ⟨_, rfl⟩
      rw [← e40] at d0
      obtain ⟨v41, e42⟩ : ∃ v, v = B 54 (fd 1) := ⟨_, rfl⟩
      rw [← e42] at d1
      have hc_71_8 := ivf_at j1 12 rfl
      have hc_54_3 := ivf_at j1 1 rfl
      have hc_54_2 := ivf_at j1 0 rfl
      have hc_t : B 54 (fd 2) = A 54 (fd 2) := frm_f f1 rfl
      have hc_w : B 53 = A 53 := frm_a f1 rfl
      refine And.intro (fun h43 => ?_) (fun h43 => ?_)
      · exact And.intro (by omega) (hK _ i1 j1 f1 _ (by omega) (by omega) c5 c6 (by first | assumption | omega | simp_all) (by first | assumption | omega | simp_all))
      · refine And.intro (fun h44 => ?_) (fun h44 => ?_)
        · exact And.intro (by omega) (hK _ i1 j1 f1 _ (by omega) (by omega) c5 c6 (by first | assumption | omega | simp_all) (by first | assumption | omega | simp_all))
        · obtain ⟨v45, e46⟩ : ∃ v, v = B 54 (fd 0) := ⟨_, rfl⟩
          have q47 : v39 = v45 := (e46.trans e40.symm).symm
          subst q47
          obtain ⟨v48, e49⟩ : ∃ v, v = B 54 (fd 1) := ⟨_, rfl⟩
          have q50 : v41 = v48 := (e49.trans e42.symm).symm
          subst q50
          refine And.intro rfl (And.intro (And.intro i1 (And.intro j1 (And.intro (by rw [← e46]; omega) (by rw [← e49]; omega)))) (fun r51 g53 g54 g52 => ?_))
          refine fun v55 e56 => ?_
          have h57 := qone_bd 3 r51
          rw [← e56] at h57
          have h58 := qone_p (s := 3) (x := r51) (by omega)
          refine And.intro (fun h59 => ?_) (fun h59 => ?_)
          · exact And.intro (by omega) (hK _ i1 j1 f1 _ (by omega) (by omega) c5 c6 (by first | assumption | omega | simp_all) (by first | assumption | omega | simp_all))
          · obtain ⟨v60, e61⟩ : ∃ v, v = B 54 (fd 0) := ⟨_, rfl⟩
            have q62 : v39 = v60 := (e61.trans e46.symm).symm
            subst q62
            obtain ⟨v63, e64⟩ : ∃ v, v = B 54 (fd 1) := ⟨_, rfl⟩
            have q65 : v41 = v63 := (e64.trans e49.symm).symm
            subst q65
            refine And.intro rfl (And.intro (And.intro i1 (And.intro j1 (And.intro (by rw [← e61]; omega) (by rw [← e64]; omega)))) (fun r66 g68 g69 g67 => ?_))
            refine fun v70 gv70 e71 => ?_
            have b72 := ivf_at j1 1 rfl
            refine fun v73 e74 => ?_
            refine And.intro (by omega) (fun A75 e76 => ?_)
            have i77 := iva_sf i1 e76 rfl
            have j78 := ivf_st j1 e76 (And.intro (by omega) trivial)
            have f79 := frm_sf f1 e76 rfl
            have t80 : A75 71 (fd 8) = B 71 (fd 8) := (congrFun (st_a e76 rfl) _)
            have t81 := st_v e76
            have t82 : A75 54 (fd 2) = B 54 (fd 2) := (st_f e76 rfl)
            have kk83 := KO_k c5 (st_a e76 rfl) (st_a e76 rfl) (st_a e76 rfl) (st_a e76 rfl)
            have pf84 := PF_k c6 (st_a e76 rfl)
            obtain ⟨v85, e86⟩ : ∃ v, v = A75 54 (fd 0) := ⟨_, rfl⟩
            have q87 : v39 = v85 := (e86.trans ((st_f e76 rfl).trans e61.symm)).symm
            subst q87
            obtain ⟨v88, e89⟩ : ∃ v, v = A75 54 (fd 1) := ⟨_, rfl⟩
            have q90 : v41 = v88 := (e89.trans ((st_f e76 rfl).trans e64.symm)).symm
            subst q90
            refine Exists.intro l1 (And.intro rfl (And.intro (And.intro i77 (And.intro j78 (And.intro (by omega) (And.intro (by omega) (And.intro (by rw [← e86]; omega) (And.intro (by rw [← e89]; omega) (And.intro kk83 (by first | assumption | omega | simp_all)))))))) (fun A91 i92 j93 f94 r95 g100 g101 g96 g97 g98 g99 => ?_)))
            have f102 := frm_c f79 f94 rfl
            have t103 := ivf_at j93 12 rfl
            have t104 := ivf_at j93 1 rfl
            have t105 : A91 54 (fd 2) = A75 54 (fd 2) := (frm_f f94 rfl)
            have pf106 := PF_tr pf84 g97 (by omega)
            obtain ⟨v107, e108⟩ : ∃ v, v = A91 54 (fd 1) := ⟨_, rfl⟩
            have q109 : v41 = v107 := (e108.trans ((frm_f f94 rfl).trans e89.symm)).symm
            subst q109
            refine And.intro (show A91 54 (fd 1) = ((71 : Nat) : Int) by omega) ?_
            refine Exists.intro r66 (Exists.intro 0 (And.intro rfl (And.intro (And.intro i92 (And.intro j93 (And.intro (by omega) (And.intro (by omega) (And.intro g96 (And.intro (by first | assumption | omega | simp_all) (by first | assumption | omega | simp_all))))))) (fun A110 i111 j112 f113 g114 g115 g116 g117 => ?_))))
            have f118 := frm_c f102 f113 rfl
            have t119 := ivf_at j112 12 rfl
            have t120 : A110 54 (fd 3) = A91 54 (fd 3) := (frm_f f113 rfl)
            have t121 : A110 54 (fd 2) = A91 54 (fd 2) := (frm_f f113 rfl)
            have pf122 := PF_tr pf106 g115 (by omega)
            refine fun v123 e124 => ?_
            obtain ⟨v125, e126⟩ : ∃ v, v = A110 54 (fd 0) := ⟨_, rfl⟩
            have q127 : v39 = v125 := (e126.trans ((Eq.trans (frm_f f113 rfl) (frm_f f94 rfl)).trans e86.symm)).symm
            subst q127
            obtain ⟨v128, e129⟩ : ∃ v, v = A110 54 (fd 1) := ⟨_, rfl⟩
            have q130 : v41 = v128 := (e129.trans ((frm_f f113 rfl).trans e108.symm)).symm
            subst q130
            exact And.intro (by omega) (Exists.intro (200 - v123 : Int).toNat (And.intro (by omega) (And.intro i111 (And.intro j112 (And.intro f118 (And.intro rfl (And.intro (by rw [← e126]; omega) (And.intro (by rw [← e129]; omega) (And.intro (by omega) (And.intro (by omega) (And.intro (by omega) (And.intro (by omega) (And.intro (by omega) (And.intro g114 (And.intro pf122 (And.intro (by omega) (And.intro (by omega) (by omega))))))))))))))))))
  · obtain ⟨v11, e12⟩ : ∃ v, v = A 54 (fd 0) := ⟨_, rfl⟩
    have q13 : v7 = v11 := (e12.trans e8.symm).symm
    subst q13
    obtain ⟨v14, e15⟩ : ∃ v, v = A 54 (fd 1) := ⟨_, rfl⟩
    have q16 : v9 = v14 := (e15.trans e10.symm).symm
    subst q16
    refine Exists.intro d (And.intro rfl (And.intro (And.intro i0 (And.intro j0 (And.intro (by omega) (And.intro (by omega) (And.intro (by rw [← e12]; omega) (And.intro (by rw [← e15]; omega) (And.intro p5 (by first | assumption | omega | simp_all)))))))) (fun A17 i18 j19 f20 r21 g26 g27 g22 g23 g24 g25 => ?_)))
    have f28 := frm_c f0 f20 rfl
    have t29 := ivf_at j19 12 rfl
    have t30 := ivf_at j19 1 rfl
    have t31 : A17 54 (fd 2) = A 54 (fd 2) := (frm_f f20 rfl)
    have pf32 := PF_tr pf0 g23 (by omega)
    obtain ⟨v33, e34⟩ : ∃ v, v = A17 54 (fd 0) := ⟨_, rfl⟩
    have q35 : v7 = v33 := (e34.trans ((frm_f f20 rfl).trans e12.symm)).symm
    subst q35
    obtain ⟨v36, e37⟩ : ∃ v, v = A17 54 (fd 1) := ⟨_, rfl⟩
    have q38 : v9 = v36 := (e37.trans ((frm_f f20 rfl).trans e15.symm)).symm
    subst q38
    exact Exists.intro (200 - 0 : Int).toNat (And.intro i18 (And.intro j19 (And.intro f28 (And.intro rfl (And.intro (by rw [← e34]; omega) (And.intro (by rw [← e37]; omega) (And.intro (by omega) (And.intro (by omega) (And.intro (by omega) (And.intro (by omega) (And.intro (by omega) (And.intro g22 (And.intro pf32 (And.intro (by omega) (And.intro (by omega) (by omega))))))))))))))))
def sC_readComparison6_71 : qS := fun as A K => ∃ d : Int, as = [rf 54, ni d] ∧ (iva IC A ∧ ivf JC A ∧ 6 ≤ d ∧ d ≤ 6 ∧ (52 ≤ A 54 (fd 0) ∧ A 54 (fd 0) ≤ 52) ∧ (71 ≤ A 54 (fd 1) ∧ A 54 (fd 1) ≤ 71) ∧ (KO A) ∧ (A 71 (fd 8) ≤ A 54 (fd 3))) ∧ (∀ A' : qA, iva IC A' → ivf JC A' → frm [72, 73] [(71, 8), (54, 3), (54, 4)] A A' → ∀ r : Int, 0 ≤ r → r ≤ 1 → (KO A') → (PF 71 A A') → (A 71 (fd 8) ≤ A' 71 (fd 8)) → (A' 71 (fd 8) + A 54 (fd 3) ≤ A 71 (fd 8) + A' 54 (fd 3)) → K (some (ni r)) A')
theorem okC_readComparison6_71 : okM LC 6 56 sC_readComparison6_71 := by
  refine qmeth [(54, 0, 52), (54, 1, 71)] false [(57, sC_readSum6_71), (46, sC_look_71), (75, sC_putr71), (47, sC_fail_71)] 42 rfl ⟨okC_readSum6_71.le (by decide), ⟨okC_look_71.le (by decide), ⟨okC_putr71.le (by decide), ⟨okC_fail_71.le (by decide), trivial⟩⟩⟩⟩ ?_
  rintro _ A K hA has ⟨d, rfl, ⟨i0, j0, p1, p2, p3, p4, p5, p6⟩, hK⟩
  have rg_d : rng d := has (ni d) (by simp)
  have f0 := frm_0 [72, 73] [(71, 8), (54, 3), (54, 4)] A
  obtain ⟨v7, e8⟩ : ∃ v, v = A 54 (fd 0) := ⟨_, rfl⟩
  rw [← e8] at p3
  obtain ⟨v9, e10⟩ : ∃ v, v = A 54 (fd 1) := ⟨_, rfl⟩
  rw [← e10] at p4
  have pf0 := PF_rf 71 A
  have hb_71_8 := ivf_at j0 12 rfl
  have hb_54_3 := ivf_at j0 1 rfl
  have hb_54_2 := ivf_at j0 0 rfl
  refine ⟨Nat.le_of_ble_eq_true rfl, [], trivial, ?_⟩
  obtain ⟨v11, e12⟩ : ∃ v, v = A 54 (fd 0) := ⟨_, rfl⟩
  have q13 : v7 = v11 := (e12.trans e8.symm).symm
  subst q13
  obtain ⟨v14, e15⟩ : ∃ v, v = A 54 (fd 1) := ⟨_, rfl⟩
  have q16 : v9 = v14 := (e15.trans e10.symm).symm
  subst q16
  refine Exists.intro d (And.intro rfl (And.intro (And.intro i0 (And.intro j0 (And.intro (by omega) (And.intro (by omega) (And.intro (by rw [← e12]; omega) (And.intro (by rw [← e15]; omega) (And.intro p5 (by first | assumption | omega | simp_all)))))))) (fun A17 i18 j19 f20 r21 g26 g27 g22 g23 g24 g25 => ?_)))
  have f28 := frm_c f0 f20 rfl
  have t29 := ivf_at j19 12 rfl
  have t30 := ivf_at j19 1 rfl
  have t31 : A17 54 (fd 2) = A 54 (fd 2) := (frm_f f20 rfl)
  have pf32 := PF_tr pf0 g23 (by omega)
  refine And.intro (fun h33 => ?_) (fun h33 => ?_)
  · obtain ⟨v34, e35⟩ : ∃ v, v = A17 54 (fd 0) := ⟨_, rfl⟩
    have q36 : v7 = v34 := (e35.trans ((frm_f f20 rfl).trans e12.symm)).symm
    subst q36
    obtain ⟨v37, e38⟩ : ∃ v, v = A17 54 (fd 1) := ⟨_, rfl⟩
    have q39 : v9 = v37 := (e38.trans ((frm_f f20 rfl).trans e15.symm)).symm
    subst q39
    refine And.intro rfl (And.intro (And.intro i18 (And.intro j19 (And.intro (by rw [← e35]; omega) (by rw [← e38]; omega)))) (fun r40 g42 g43 g41 => ?_))
    refine fun v44 e45 => ?_
    have h46 := qone_bd 2 r40
    rw [← e45] at h46
    have h47 := qone_p (s := 2) (x := r40) (by omega)
    refine And.intro (fun h48 => ?_) (fun h48 => ?_)
    · refine fun v49 gv49 e50 => ?_
      have b51 := ivf_at j19 1 rfl
      refine fun v52 e53 => ?_
      refine And.intro (by omega) (fun A54 e55 => ?_)
      have i56 := iva_sf i18 e55 rfl
      have j57 := ivf_st j19 e55 (And.intro (by omega) trivial)
      have f58 := frm_sf f28 e55 rfl
      have t59 : A54 71 (fd 8) = A17 71 (fd 8) := (congrFun (st_a e55 rfl) _)
      have t60 := st_v e55
      have t61 : A54 54 (fd 2) = A17 54 (fd 2) := (st_f e55 rfl)
      have kk62 := KO_k g22 (st_a e55 rfl) (st_a e55 rfl) (st_a e55 rfl) (st_a e55 rfl)
      have pf63 := PF_k pf32 (st_a e55 rfl)
      obtain ⟨v64, e65⟩ : ∃ v, v = A54 54 (fd 0) := ⟨_, rfl⟩
      have q66 : v7 = v64 := (e65.trans ((st_f e55 rfl).trans e35.symm)).symm
      subst q66
      obtain ⟨v67, e68⟩ : ∃ v, v = A54 54 (fd 1) := ⟨_, rfl⟩
      have q69 : v9 = v67 := (e68.trans ((st_f e55 rfl).trans e38.symm)).symm
      subst q69
      refine Exists.intro d (And.intro rfl (And.intro (And.intro i56 (And.intro j57 (And.intro (by omega) (And.intro (by omega) (And.intro (by rw [← e65]; omega) (And.intro (by rw [← e68]; omega) (And.intro kk62 (by first | assumption | omega | simp_all)))))))) (fun A70 i71 j72 f73 r74 g79 g80 g75 g76 g77 g78 => ?_)))
      have f81 := frm_c f58 f73 rfl
      have t82 := ivf_at j72 12 rfl
      have t83 := ivf_at j72 1 rfl
      have t84 : A70 54 (fd 2) = A54 54 (fd 2) := (frm_f f73 rfl)
      have pf85 := PF_tr pf63 g76 (by omega)
      refine And.intro (fun h86 => ?_) (fun h86 => ?_)
      · obtain ⟨v87, e88⟩ : ∃ v, v = A70 54 (fd 1) := ⟨_, rfl⟩
        have q89 : v9 = v87 := (e88.trans ((frm_f f73 rfl).trans e68.symm)).symm
        subst q89
        refine And.intro (show A70 54 (fd 1) = ((71 : Nat) : Int) by omega) ?_
        refine Exists.intro r40 (Exists.intro 0 (And.intro rfl (And.intro (And.intro i71 (And.intro j72 (And.intro (by omega) (And.intro (by omega) (And.intro g75 (And.intro (by first | assumption | omega | simp_all) (by first | assumption | omega | simp_all))))))) (fun A90 i91 j92 f93 g94 g95 g96 g97 => ?_))))
        have f98 := frm_c f81 f93 rfl
        have t99 := ivf_at j92 12 rfl
        have t100 : A90 54 (fd 3) = A70 54 (fd 3) := (frm_f f93 rfl)
        have t101 : A90 54 (fd 2) = A70 54 (fd 2) := (frm_f f93 rfl)
        have pf102 := PF_tr pf85 g95 (by omega)
        exact And.intro (by omega) (hK _ i91 j92 f98 _ (by omega) (by omega) g94 pf102 (by first | assumption | omega | simp_all) (by first | assumption | omega | simp_all))
      · exact And.intro (by omega) (hK _ i71 j72 f81 _ (by omega) (by omega) g75 pf85 (by first | assumption | omega | simp_all) (by first | assumption | omega | simp_all))
    · obtain ⟨v103, e104⟩ : ∃ v, v = A17 54 (fd 0) := ⟨_, rfl⟩
      have q105 : v7 = v103 := (e104.trans e35.symm).symm
      subst q105
      obtain ⟨v106, e107⟩ : ∃ v, v = A17 54 (fd 1) := ⟨_, rfl⟩
      have q108 : v9 = v106 := (e107.trans e38.symm).symm
      subst q108
      refine Exists.intro 1 (And.intro rfl (And.intro (And.intro i18 (And.intro j19 (And.intro (by omega) (And.intro (by omega) (And.intro (by rw [← e104]; omega) (by rw [← e107]; omega)))))) (fun A109 i110 j111 f112 => (fun h113 => ?_))))
      · have f114 := frm_c f28 f112 rfl
        have t115 : A109 71 (fd 8) = A17 71 (fd 8) := (frm_f f112 rfl)
        have t116 : A109 54 (fd 3) = A17 54 (fd 3) := (frm_f f112 rfl)
        have t117 : A109 54 (fd 2) = A17 54 (fd 2) := (frm_f f112 rfl)
        have kk118 := KO_fr g22 f112 rfl
        have pf119 := PF_k pf32 (frm_a f112 rfl)
        exact And.intro (by omega) (hK _ i110 j111 f114 _ (by omega) (by omega) kk118 pf119 (by first | assumption | omega | simp_all) (by first | assumption | omega | simp_all))
  · exact And.intro (by omega) (hK _ i18 j19 f28 _ (by omega) (by omega) g22 pf32 (by first | assumption | omega | simp_all) (by first | assumption | omega | simp_all))
def sC_readPiece6_71 : qS := fun as A K => ∃ d : Int, as = [rf 54, ni d] ∧ (iva IC A ∧ ivf JC A ∧ 6 ≤ d ∧ d ≤ 6 ∧ (52 ≤ A 54 (fd 0) ∧ A 54 (fd 0) ≤ 52) ∧ (71 ≤ A 54 (fd 1) ∧ A 54 (fd 1) ≤ 71) ∧ (KO A) ∧ (A 71 (fd 8) ≤ A 54 (fd 3))) ∧ (∀ A' : qA, iva IC A' → ivf JC A' → frm [72, 73] [(71, 8), (54, 3), (54, 4)] A A' → ∀ r : Int, 0 ≤ r → r ≤ 1 → (KO A') → (PF 71 A A') → (A 71 (fd 8) ≤ A' 71 (fd 8)) → (A' 71 (fd 8) + A 54 (fd 3) ≤ A 71 (fd 8) + A' 54 (fd 3)) → K (some (ni r)) A')
theorem okC_readPiece6_71 : okM LC 7 55 sC_readPiece6_71 := by
  refine qmeth [(54, 0, 52), (54, 1, 71)] false [(46, sC_look_71), (56, sC_readComparison6_71), (49, sC_enter_71)] 56 rfl ⟨okC_look_71.le (by decide), ⟨okC_readComparison6_71.le (by decide), ⟨okC_enter_71.le (by decide), trivial⟩⟩⟩ ?_
  rintro _ A K hA has ⟨d, rfl, ⟨i0, j0, p1, p2, p3, p4, p5, p6⟩, hK⟩
  have rg_d : rng d := has (ni d) (by simp)
  have f0 := frm_0 [72, 73] [(71, 8), (54, 3), (54, 4)] A
  obtain ⟨v7, e8⟩ : ∃ v, v = A 54 (fd 0) := ⟨_, rfl⟩
  rw [← e8] at p3
  obtain ⟨v9, e10⟩ : ∃ v, v = A 54 (fd 1) := ⟨_, rfl⟩
  rw [← e10] at p4
  have pf0 := PF_rf 71 A
  have hb_71_8 := ivf_at j0 12 rfl
  have hb_54_3 := ivf_at j0 1 rfl
  have hb_54_2 := ivf_at j0 0 rfl
  refine ⟨Nat.le_of_ble_eq_true rfl, [], trivial, ?_⟩
  obtain ⟨v11, e12⟩ : ∃ v, v = A 54 (fd 0) := ⟨_, rfl⟩
  have q13 : v7 = v11 := (e12.trans e8.symm).symm
  subst q13
  obtain ⟨v14, e15⟩ : ∃ v, v = A 54 (fd 1) := ⟨_, rfl⟩
  have q16 : v9 = v14 := (e15.trans e10.symm).symm
  subst q16
  refine And.intro rfl (And.intro (And.intro i0 (And.intro j0 (And.intro (by rw [← e12]; omega) (by rw [← e15]; omega)))) (fun r17 g19 g20 g18 => ?_))
  refine And.intro (fun h21 => ?_) (fun h21 => ?_)
  · refine And.intro (fun h22 => ?_) (fun h22 => ?_)
    · obtain ⟨v23, e24⟩ : ∃ v, v = A 54 (fd 0) := ⟨_, rfl⟩
      have q25 : v7 = v23 := (e24.trans e12.symm).symm
      subst q25
      obtain ⟨v26, e27⟩ : ∃ v, v = A 54 (fd 1) := ⟨_, rfl⟩
      have q28 : v9 = v26 := (e27.trans e15.symm).symm
      subst q28
      refine Exists.intro d (And.intro rfl (And.intro (And.intro i0 (And.intro j0 (And.intro (by omega) (And.intro (by omega) (And.intro (by rw [← e24]; omega) (And.intro (by rw [← e27]; omega) (And.intro p5 (by first | assumption | omega | simp_all)))))))) (fun A29 i30 j31 f32 r33 g38 g39 g34 g35 g36 g37 => ?_)))
      have f40 := frm_c f0 f32 rfl
      have t41 := ivf_at j31 12 rfl
      have t42 := ivf_at j31 1 rfl
      have t43 : A29 54 (fd 2) = A 54 (fd 2) := (frm_f f32 rfl)
      have pf44 := PF_tr pf0 g35 (by omega)
      exact And.intro (by omega) (hK _ i30 j31 f40 _ (by omega) (by omega) g34 pf44 (by first | assumption | omega | simp_all) (by first | assumption | omega | simp_all))
    · obtain ⟨v45, e46⟩ : ∃ v, v = A 54 (fd 0) := ⟨_, rfl⟩
      have q47 : v7 = v45 := (e46.trans e12.symm).symm
      subst q47
      obtain ⟨v48, e49⟩ : ∃ v, v = A 54 (fd 1) := ⟨_, rfl⟩
      have q50 : v9 = v48 := (e49.trans e15.symm).symm
      subst q50
      refine Exists.intro d (And.intro rfl (And.intro (And.intro i0 (And.intro j0 (And.intro (by omega) (And.intro (by omega) (And.intro (by rw [← e46]; omega) (And.intro (by rw [← e49]; omega) (And.intro p5 (by first | assumption | omega | simp_all)))))))) (fun A51 i52 j53 f54 g55 g56 => (And.intro (fun h57 => by exfalso; omega) (fun h57 => ?_)))))
      · have f58 := frm_c f0 f54 rfl
        have t59 : A51 71 (fd 8) = A 71 (fd 8) := (frm_f f54 rfl)
        have t60 := ivf_at j53 1 rfl
        have t61 : A51 54 (fd 2) = A 54 (fd 2) := (frm_f f54 rfl)
        have kk62 := KO_fr p5 f54 rfl
        have pf63 := PF_k pf0 (frm_a f54 rfl)
        refine And.intro (fun h64 => ?_) (fun h64 => by exfalso; omega)
        exact And.intro (by omega) (hK _ i52 j53 f58 _ (by omega) (by omega) kk62 pf63 (by first | assumption | omega | simp_all) (by first | assumption | omega | simp_all))
  · obtain ⟨v65, e66⟩ : ∃ v, v = A 54 (fd 0) := ⟨_, rfl⟩
    have q67 : v7 = v65 := (e66.trans e12.symm).symm
    subst q67
    obtain ⟨v68, e69⟩ : ∃ v, v = A 54 (fd 1) := ⟨_, rfl⟩
    have q70 : v9 = v68 := (e69.trans e15.symm).symm
    subst q70
    refine Exists.intro d (And.intro rfl (And.intro (And.intro i0 (And.intro j0 (And.intro (by omega) (And.intro (by omega) (And.intro (by rw [← e66]; omega) (And.intro (by rw [← e69]; omega) (And.intro p5 (by first | assumption | omega | simp_all)))))))) (fun A71 i72 j73 f74 g75 g76 => (And.intro (fun h77 => by exfalso; omega) (fun h77 => ?_)))))
    · have f78 := frm_c f0 f74 rfl
      have t79 : A71 71 (fd 8) = A 71 (fd 8) := (frm_f f74 rfl)
      have t80 := ivf_at j73 1 rfl
      have t81 : A71 54 (fd 2) = A 54 (fd 2) := (frm_f f74 rfl)
      have kk82 := KO_fr p5 f74 rfl
      have pf83 := PF_k pf0 (frm_a f74 rfl)
      refine And.intro (fun h84 => ?_) (fun h84 => by exfalso; omega)
      exact And.intro (by omega) (hK _ i72 j73 f78 _ (by omega) (by omega) kk82 pf83 (by first | assumption | omega | simp_all) (by first | assumption | omega | simp_all))
def sC_readPart6_71 : qS := fun as A K => ∃ d : Int, as = [rf 54, ni d] ∧ (iva IC A ∧ ivf JC A ∧ 6 ≤ d ∧ d ≤ 6 ∧ (52 ≤ A 54 (fd 0) ∧ A 54 (fd 0) ≤ 52) ∧ (71 ≤ A 54 (fd 1) ∧ A 54 (fd 1) ≤ 71) ∧ (KO A) ∧ (A 71 (fd 8) ≤ A 54 (fd 3))) ∧ (∀ A' : qA, iva IC A' → ivf JC A' → frm [72, 73] [(71, 8), (54, 3), (54, 4)] A A' → ∀ r : Int, 0 ≤ r → r ≤ 1 → (KO A') → (PF 71 A A') → (A 71 (fd 8) ≤ A' 71 (fd 8)) → (A' 71 (fd 8) + A 54 (fd 3) ≤ A 71 (fd 8) + A' 54 (fd 3)) → K (some (ni r)) A')
theorem okC_readPart6_71 : okM LC 8 53 sC_readPart6_71 := by
  refine qmeth [(54, 0, 52), (54, 1, 71)] false [(55, sC_readPiece6_71), (46, sC_look_71), (54, sC_readJump_71)] 40 rfl ⟨okC_readPiece6_71.le (by decide), ⟨okC_look_71.le (by decide), ⟨okC_readJump_71.le (by decide), trivial⟩⟩⟩ ?_
  rintro _ A K hA has ⟨d, rfl, ⟨i0, j0, p1, p2, p3, p4, p5, p6⟩, hK⟩
  have rg_d : rng d := has (ni d) (by simp)
  have f0 := frm_0 [72, 73] [(71, 8), (54, 3), (54, 4)] A
  obtain ⟨v7, e8⟩ : ∃ v, v = A 54 (fd 0) := ⟨_, rfl⟩
  rw [← e8] at p3
  obtain ⟨v9, e10⟩ : ∃ v, v = A 54 (fd 1) := ⟨_, rfl⟩
  rw [← e10] at p4
  have pf0 := PF_rf 71 A
  have hb_71_8 := ivf_at j0 12 rfl
  have hb_54_3 := ivf_at j0 1 rfl
  have hb_54_2 := ivf_at j0 0 rfl
  refine ⟨Nat.le_of_ble_eq_true rfl, [(6, [(0, 2, 54), (1, 0, 0), (2, 0, 0), (3, 0, 0)], fun zs B nn => match zs with | [l1, w, i] => iva IC B ∧ ivf JC B ∧ frm [72, 73] [(71, 8), (54, 3), (54, 4)] A B ∧ nn = (200 - i : Int).toNat ∧ (52 ≤ B 54 (fd 0) ∧ B 54 (fd 0) ≤ 52) ∧ (71 ≤ B 54 (fd 1) ∧ B 54 (fd 1) ≤ 71) ∧ (l1 = d) ∧ (0 ≤ i) ∧ (i ≤ 200) ∧ (0 ≤ w) ∧ (w ≤ 1) ∧ (KO B) ∧ (PF 71 A B) ∧ (A 71 (fd 8) ≤ B 71 (fd 8)) ∧ (B 71 (fd 8) + A 54 (fd 3) ≤ A 71 (fd 8) + B 54 (fd 3)) ∧ (B 71 (fd 8) ≤ B 54 (fd 3)) | _ => False)], ?_, ?_⟩
  · refine ⟨⟨rfl, ?_⟩, trivial⟩
    · refine fun l1 w i B mm hB hz hI => ?_
      obtain ⟨i1, j1, f1, hm, d0, d1, c0, c1, c2, c3, c4, c5, c6, c7, c8, c9⟩ := hI
      obtain ⟨hz_l1, hz_w, hz_i, _⟩ := hz
      obtain ⟨v39, e40⟩ : ∃ v, v = B 54 (fd 0) := ⟨_, rfl⟩
      rw [← e40] at d0
      obtain ⟨v41, e42⟩ : ∃ v, v = B 54 (fd 1) := ⟨_, rfl⟩
      rw [← e42] at d1
      have hc_71_8 := ivf_at j1 12 rfl
      have hc_54_3 := ivf_at j1 1 rfl
      have hc_54_2 := ivf_at j1 0 rfl
      have hc_t : B 54 (fd 2) = A 54 (fd 2) := frm_f f1 rfl
      have hc_w : B 53 = A 53 := frm_a f1 rfl
      refine And.intro (fun h43 => ?_) (fun h43 => ?_)
      · exact And.intro (by omega) (hK _ i1 j1 f1 _ (by omega) (by omega) c5 c6 (by first | assumption | omega | simp_all) (by first | assumption | omega | simp_all))
      · refine And.intro (fun h44 => ?_) (fun h44 => ?_)
        · exact And.intro (by omega) (hK _ i1 j1 f1 _ (by omega) (by omega) c5 c6 (by first | assumption | omega | simp_all) (by first | assumption | omega | simp_all))
        · obtain ⟨v45, e46⟩ : ∃ v, v = B 54 (fd 0) := ⟨_, rfl⟩
          have q47 : v39 = v45 := (e46.trans e40.symm).symm
          subst q47
          obtain ⟨v48, e49⟩ : ∃ v, v = B 54 (fd 1) := ⟨_, rfl⟩
          have q50 : v41 = v48 := (e49.trans e42.symm).symm
          subst q50
          refine And.intro rfl (And.intro (And.intro i1 (And.intro j1 (And.intro (by rw [← e46]; omega) (by rw [← e49]; omega)))) (fun r51 g53 g54 g52 => ?_))
          refine And.intro (fun h55 => ?_) (fun h55 => ?_)
          · exact And.intro (by omega) (hK _ i1 j1 f1 _ (by omega) (by omega) c5 c6 (by first | assumption | omega | simp_all) (by first | assumption | omega | simp_all))
          · obtain ⟨v56, e57⟩ : ∃ v, v = B 54 (fd 0) := ⟨_, rfl⟩
            have q58 : v39 = v56 := (e57.trans e46.symm).symm
            subst q58
            obtain ⟨v59, e60⟩ : ∃ v, v = B 54 (fd 1) := ⟨_, rfl⟩
            have q61 : v41 = v59 := (e60.trans e49.symm).symm
            subst q61
            refine And.intro rfl (And.intro (And.intro i1 (And.intro j1 (And.intro (by rw [← e57]; omega) (And.intro (by rw [← e60]; omega) (And.intro c5 (And.intro (by first | assumption | omega | simp_all) (And.intro (by first | assumption | omega | simp_all) (by first | assumption | omega | simp_all)))))))) (fun A62 i63 j64 f65 r66 g73 g74 g67 g68 g69 g70 g71 g72 => ?_))
            have f75 := frm_c f1 f65 rfl
            have t76 := ivf_at j64 12 rfl
            have t77 := ivf_at j64 1 rfl
            have t78 : A62 54 (fd 2) = B 54 (fd 2) := (frm_f f65 rfl)
            have pf79 := PF_tr c6 g68 (by omega)
            obtain ⟨v80, e81⟩ : ∃ v, v = A62 54 (fd 0) := ⟨_, rfl⟩
            have q82 : v39 = v80 := (e81.trans ((frm_f f65 rfl).trans e57.symm)).symm
            subst q82
            obtain ⟨v83, e84⟩ : ∃ v, v = A62 54 (fd 1) := ⟨_, rfl⟩
            have q85 : v41 = v83 := (e84.trans ((frm_f f65 rfl).trans e60.symm)).symm
            subst q85
            refine Exists.intro l1 (And.intro rfl (And.intro (And.intro i63 (And.intro j64 (And.intro (by omega) (And.intro (by omega) (And.intro (by rw [← e81]; omega) (And.intro (by rw [← e84]; omega) (And.intro g67 (by first | assumption | omega | simp_all)))))))) (fun A86 i87 j88 f89 r90 g95 g96 g91 g92 g93 g94 => ?_)))
            have f97 := frm_c f75 f89 rfl
            have t98 := ivf_at j88 12 rfl
            have t99 := ivf_at j88 1 rfl
            have t100 : A86 54 (fd 2) = A62 54 (fd 2) := (frm_f f89 rfl)
            have pf101 := PF_tr pf79 g92 (by omega)
            obtain ⟨v102, e103⟩ : ∃ v, v = A86 54 (fd 1) := ⟨_, rfl⟩
            have q104 : v41 = v102 := (e103.trans ((frm_f f89 rfl).trans e84.symm)).symm
            subst q104
            refine And.intro (show A86 54 (fd 1) = ((71 : Nat) : Int) by omega) ?_
            obtain ⟨v105, e106⟩ : ∃ v, v = A86 54 (fd 1) := ⟨_, rfl⟩
            have q107 : v41 = v105 := (e106.trans e103.symm).symm
            subst q107
            refine And.intro (show A86 54 (fd 1) = ((71 : Nat) : Int) by omega) ?_
            refine fun v108 gv108 e109 => ?_
            have b110 := ivf_at j88 12 rfl
            have hjump : A86 72 r66 ≠ 107 := by have q1 := g92 r66 (by omega) (by omega); simp only [Nat.reduceAdd] at q1; have q2 := g72; omega
            refine And.intro (by omega) (fun A111 e112 => ?_)
            have i113 := iva_st i87 e112 (And.intro (by omega) trivial)
            have j114 := ivf_sa j88 e112 rfl
            have f115 := frm_s f97 e112 rfl
            have t116 : A111 71 (fd 8) = A86 71 (fd 8) := (congrFun (st_a e112 rfl) _)
            have t117 : A111 54 (fd 3) = A86 54 (fd 3) := (congrFun (st_a e112 rfl) _)
            have t118 : A111 54 (fd 2) = A86 54 (fd 2) := (congrFun (st_a e112 rfl) _)
            have kk119 := KO_o73 g91 e112 hjump
            have pf120 := PF_k pf101 (st_a e112 rfl)
            refine fun v121 e122 => ?_
            obtain ⟨v123, e124⟩ : ∃ v, v = A111 54 (fd 0) := ⟨_, rfl⟩
            have q125 : v39 = v123 := (e124.trans ((Eq.trans (congrFun (st_a e112 rfl) _) (frm_f f89 rfl)).trans e81.symm)).symm
            subst q125
            obtain ⟨v126, e127⟩ : ∃ v, v = A111 54 (fd 1) := ⟨_, rfl⟩
            have q128 : v41 = v126 := (e127.trans ((congrFun (st_a e112 rfl) _).trans e106.symm)).symm
            subst q128
            exact And.intro (by omega) (Exists.intro (200 - v121 : Int).toNat (And.intro (by omega) (And.intro i113 (And.intro j114 (And.intro f115 (And.intro rfl (And.intro (by rw [← e124]; omega) (And.intro (by rw [← e127]; omega) (And.intro (by omega) (And.intro (by omega) (And.intro (by omega) (And.intro (by omega) (And.intro (by omega) (And.intro kk119 (And.intro pf120 (And.intro (by omega) (And.intro (by omega) (by omega))))))))))))))))))
  · obtain ⟨v11, e12⟩ : ∃ v, v = A 54 (fd 0) := ⟨_, rfl⟩
    have q13 : v7 = v11 := (e12.trans e8.symm).symm
    subst q13
    obtain ⟨v14, e15⟩ : ∃ v, v = A 54 (fd 1) := ⟨_, rfl⟩
    have q16 : v9 = v14 := (e15.trans e10.symm).symm
    subst q16
    refine Exists.intro d (And.intro rfl (And.intro (And.intro i0 (And.intro j0 (And.intro (by omega) (And.intro (by omega) (And.intro (by rw [← e12]; omega) (And.intro (by rw [← e15]; omega) (And.intro p5 (by first | assumption | omega | simp_all)))))))) (fun A17 i18 j19 f20 r21 g26 g27 g22 g23 g24 g25 => ?_)))
    have f28 := frm_c f0 f20 rfl
    have t29 := ivf_at j19 12 rfl
    have t30 := ivf_at j19 1 rfl
    have t31 : A17 54 (fd 2) = A 54 (fd 2) := (frm_f f20 rfl)
    have pf32 := PF_tr pf0 g23 (by omega)
    obtain ⟨v33, e34⟩ : ∃ v, v = A17 54 (fd 0) := ⟨_, rfl⟩
    have q35 : v7 = v33 := (e34.trans ((frm_f f20 rfl).trans e12.symm)).symm
    subst q35
    obtain ⟨v36, e37⟩ : ∃ v, v = A17 54 (fd 1) := ⟨_, rfl⟩
    have q38 : v9 = v36 := (e37.trans ((frm_f f20 rfl).trans e15.symm)).symm
    subst q38
    exact Exists.intro (200 - 0 : Int).toNat (And.intro i18 (And.intro j19 (And.intro f28 (And.intro rfl (And.intro (by rw [← e34]; omega) (And.intro (by rw [← e37]; omega) (And.intro (by omega) (And.intro (by omega) (And.intro (by omega) (And.intro (by omega) (And.intro (by omega) (And.intro g22 (And.intro pf32 (And.intro (by omega) (And.intro (by omega) (by omega))))))))))))))))
def sC_readCondition6_71 : qS := fun as A K => ∃ d : Int, as = [rf 54, ni d] ∧ (iva IC A ∧ ivf JC A ∧ 6 ≤ d ∧ d ≤ 6 ∧ (52 ≤ A 54 (fd 0) ∧ A 54 (fd 0) ≤ 52) ∧ (71 ≤ A 54 (fd 1) ∧ A 54 (fd 1) ≤ 71) ∧ (KO A) ∧ (A 71 (fd 8) ≤ A 54 (fd 3))) ∧ (∀ A' : qA, iva IC A' → ivf JC A' → frm [72, 73] [(71, 8), (54, 3), (54, 4)] A A' → ∀ r : Int, 0 ≤ r → r ≤ 1 → (KO A') → (PF 71 A A') → (A 71 (fd 8) ≤ A' 71 (fd 8)) → (A' 71 (fd 8) + A 54 (fd 3) ≤ A 71 (fd 8) + A' 54 (fd 3)) → K (some (ni r)) A')
theorem okC_readCondition6_71 : okM LC 9 52 sC_readCondition6_71 := by
  refine qmeth [(54, 0, 52), (54, 1, 71)] false [(53, sC_readPart6_71), (46, sC_look_71), (54, sC_readJump_71)] 40 rfl ⟨okC_readPart6_71.le (by decide), ⟨okC_look_71.le (by decide), ⟨okC_readJump_71.le (by decide), trivial⟩⟩⟩ ?_
  rintro _ A K hA has ⟨d, rfl, ⟨i0, j0, p1, p2, p3, p4, p5, p6⟩, hK⟩
  have rg_d : rng d := has (ni d) (by simp)
  have f0 := frm_0 [72, 73] [(71, 8), (54, 3), (54, 4)] A
  obtain ⟨v7, e8⟩ : ∃ v, v = A 54 (fd 0) := ⟨_, rfl⟩
  rw [← e8] at p3
  obtain ⟨v9, e10⟩ : ∃ v, v = A 54 (fd 1) := ⟨_, rfl⟩
  rw [← e10] at p4
  have pf0 := PF_rf 71 A
  have hb_71_8 := ivf_at j0 12 rfl
  have hb_54_3 := ivf_at j0 1 rfl
  have hb_54_2 := ivf_at j0 0 rfl
  refine ⟨Nat.le_of_ble_eq_true rfl, [(6, [(0, 2, 54), (1, 0, 0), (2, 0, 0), (3, 0, 0)], fun zs B nn => match zs with | [l1, w, i] => iva IC B ∧ ivf JC B ∧ frm [72, 73] [(71, 8), (54, 3), (54, 4)] A B ∧ nn = (200 - i : Int).toNat ∧ (52 ≤ B 54 (fd 0) ∧ B 54 (fd 0) ≤ 52) ∧ (71 ≤ B 54 (fd 1) ∧ B 54 (fd 1) ≤ 71) ∧ (l1 = d) ∧ (0 ≤ i) ∧ (i ≤ 200) ∧ (0 ≤ w) ∧ (w ≤ 1) ∧ (KO B) ∧ (PF 71 A B) ∧ (A 71 (fd 8) ≤ B 71 (fd 8)) ∧ (B 71 (fd 8) + A 54 (fd 3) ≤ A 71 (fd 8) + B 54 (fd 3)) ∧ (B 71 (fd 8) ≤ B 54 (fd 3)) | _ => False)], ?_, ?_⟩
  · refine ⟨⟨rfl, ?_⟩, trivial⟩
    · refine fun l1 w i B mm hB hz hI => ?_
      obtain ⟨i1, j1, f1, hm, d0, d1, c0, c1, c2, c3, c4, c5, c6, c7, c8, c9⟩ := hI
      obtain ⟨hz_l1, hz_w, hz_i, _⟩ := hz
      obtain ⟨v39, e40⟩ : ∃ v, v = B 54 (fd 0) := ⟨_, rfl⟩
      rw [← e40] at d0
      obtain ⟨v41, e42⟩ : ∃ v, v = B 54 (fd 1) := ⟨_, rfl⟩
      rw [← e42] at d1
      have hc_71_8 := ivf_at j1 12 rfl
      have hc_54_3 := ivf_at j1 1 rfl
      have hc_54_2 := ivf_at j1 0 rfl
      have hc_t : B 54 (fd 2) = A 54 (fd 2) := frm_f f1 rfl
      have hc_w : B 53 = A 53 := frm_a f1 rfl
      refine And.intro (fun h43 => ?_) (fun h43 => ?_)
      · exact And.intro (by omega) (hK _ i1 j1 f1 _ (by omega) (by omega) c5 c6 (by first | assumption | omega | simp_all) (by first | assumption | omega | simp_all))
      · refine And.intro (fun h44 => ?_) (fun h44 => ?_)
        · exact And.intro (by omega) (hK _ i1 j1 f1 _ (by omega) (by omega) c5 c6 (by first | assumption | omega | simp_all) (by first | assumption | omega | simp_all))
        · obtain ⟨v45, e46⟩ : ∃ v, v = B 54 (fd 0) := ⟨_, rfl⟩
          have q47 : v39 = v45 := (e46.trans e40.symm).symm
          subst q47
          obtain ⟨v48, e49⟩ : ∃ v, v = B 54 (fd 1) := ⟨_, rfl⟩
          have q50 : v41 = v48 := (e49.trans e42.symm).symm
          subst q50
          refine And.intro rfl (And.intro (And.intro i1 (And.intro j1 (And.intro (by rw [← e46]; omega) (by rw [← e49]; omega)))) (fun r51 g53 g54 g52 => ?_))
          refine And.intro (fun h55 => ?_) (fun h55 => ?_)
          · exact And.intro (by omega) (hK _ i1 j1 f1 _ (by omega) (by omega) c5 c6 (by first | assumption | omega | simp_all) (by first | assumption | omega | simp_all))
          · obtain ⟨v56, e57⟩ : ∃ v, v = B 54 (fd 0) := ⟨_, rfl⟩
            have q58 : v39 = v56 := (e57.trans e46.symm).symm
            subst q58
            obtain ⟨v59, e60⟩ : ∃ v, v = B 54 (fd 1) := ⟨_, rfl⟩
            have q61 : v41 = v59 := (e60.trans e49.symm).symm
            subst q61
            refine And.intro rfl (And.intro (And.intro i1 (And.intro j1 (And.intro (by rw [← e57]; omega) (And.intro (by rw [← e60]; omega) (And.intro c5 (And.intro (by first | assumption | omega | simp_all) (And.intro (by first | assumption | omega | simp_all) (by first | assumption | omega | simp_all)))))))) (fun A62 i63 j64 f65 r66 g73 g74 g67 g68 g69 g70 g71 g72 => ?_))
            have f75 := frm_c f1 f65 rfl
            have t76 := ivf_at j64 12 rfl
            have t77 := ivf_at j64 1 rfl
            have t78 : A62 54 (fd 2) = B 54 (fd 2) := (frm_f f65 rfl)
            have pf79 := PF_tr c6 g68 (by omega)
            obtain ⟨v80, e81⟩ : ∃ v, v = A62 54 (fd 0) := ⟨_, rfl⟩
            have q82 : v39 = v80 := (e81.trans ((frm_f f65 rfl).trans e57.symm)).symm
            subst q82
            obtain ⟨v83, e84⟩ : ∃ v, v = A62 54 (fd 1) := ⟨_, rfl⟩
            have q85 : v41 = v83 := (e84.trans ((frm_f f65 rfl).trans e60.symm)).symm
            subst q85
            refine Exists.intro l1 (And.intro rfl (And.intro (And.intro i63 (And.intro j64 (And.intro (by omega) (And.intro (by omega) (And.intro (by rw [← e81]; omega) (And.intro (by rw [← e84]; omega) (And.intro g67 (by first | assumption | omega | simp_all)))))))) (fun A86 i87 j88 f89 r90 g95 g96 g91 g92 g93 g94 => ?_)))
            have f97 := frm_c f75 f89 rfl
            have t98 := ivf_at j88 12 rfl
            have t99 := ivf_at j88 1 rfl
            have t100 : A86 54 (fd 2) = A62 54 (fd 2) := (frm_f f89 rfl)
            have pf101 := PF_tr pf79 g92 (by omega)
            obtain ⟨v102, e103⟩ : ∃ v, v = A86 54 (fd 1) := ⟨_, rfl⟩
            have q104 : v41 = v102 := (e103.trans ((frm_f f89 rfl).trans e84.symm)).symm
            subst q104
            refine And.intro (show A86 54 (fd 1) = ((71 : Nat) : Int) by omega) ?_
            obtain ⟨v105, e106⟩ : ∃ v, v = A86 54 (fd 1) := ⟨_, rfl⟩
            have q107 : v41 = v105 := (e106.trans e103.symm).symm
            subst q107
            refine And.intro (show A86 54 (fd 1) = ((71 : Nat) : Int) by omega) ?_
            refine fun v108 gv108 e109 => ?_
            have b110 := ivf_at j88 12 rfl
            have hjump : A86 72 r66 ≠ 107 := by have q1 := g92 r66 (by omega) (by omega); simp only [Nat.reduceAdd] at q1; have q2 := g72; omega
            refine And.intro (by omega) (fun A111 e112 => ?_)
            have i113 := iva_st i87 e112 (And.intro (by omega) trivial)
            have j114 := ivf_sa j88 e112 rfl
            have f115 := frm_s f97 e112 rfl
            have t116 : A111 71 (fd 8) = A86 71 (fd 8) := (congrFun (st_a e112 rfl) _)
            have t117 : A111 54 (fd 3) = A86 54 (fd 3) := (congrFun (st_a e112 rfl) _)
            have t118 : A111 54 (fd 2) = A86 54 (fd 2) := (congrFun (st_a e112 rfl) _)
            have kk119 := KO_o73 g91 e112 hjump
            have pf120 := PF_k pf101 (st_a e112 rfl)
            refine fun v121 e122 => ?_
            obtain ⟨v123, e124⟩ : ∃ v, v = A111 54 (fd 0) := ⟨_, rfl⟩
            have q125 : v39 = v123 := (e124.trans ((Eq.trans (congrFun (st_a e112 rfl) _) (frm_f f89 rfl)).trans e81.symm)).symm
            subst q125
            obtain ⟨v126, e127⟩ : ∃ v, v = A111 54 (fd 1) := ⟨_, rfl⟩
            have q128 : v41 = v126 := (e127.trans ((congrFun (st_a e112 rfl) _).trans e106.symm)).symm
            subst q128
            exact And.intro (by omega) (Exists.intro (200 - v121 : Int).toNat (And.intro (by omega) (And.intro i113 (And.intro j114 (And.intro f115 (And.intro rfl (And.intro (by rw [← e124]; omega) (And.intro (by rw [← e127]; omega) (And.intro (by omega) (And.intro (by omega) (And.intro (by omega) (And.intro (by omega) (And.intro (by omega) (And.intro kk119 (And.intro pf120 (And.intro (by omega) (And.intro (by omega) (by omega))))))))))))))))))
  · obtain ⟨v11, e12⟩ : ∃ v, v = A 54 (fd 0) := ⟨_, rfl⟩
    have q13 : v7 = v11 := (e12.trans e8.symm).symm
    subst q13
    obtain ⟨v14, e15⟩ : ∃ v, v = A 54 (fd 1) := ⟨_, rfl⟩
    have q16 : v9 = v14 := (e15.trans e10.symm).symm
    subst q16
    refine Exists.intro d (And.intro rfl (And.intro (And.intro i0 (And.intro j0 (And.intro (by omega) (And.intro (by omega) (And.intro (by rw [← e12]; omega) (And.intro (by rw [← e15]; omega) (And.intro p5 (by first | assumption | omega | simp_all)))))))) (fun A17 i18 j19 f20 r21 g26 g27 g22 g23 g24 g25 => ?_)))
    have f28 := frm_c f0 f20 rfl
    have t29 := ivf_at j19 12 rfl
    have t30 := ivf_at j19 1 rfl
    have t31 : A17 54 (fd 2) = A 54 (fd 2) := (frm_f f20 rfl)
    have pf32 := PF_tr pf0 g23 (by omega)
    obtain ⟨v33, e34⟩ : ∃ v, v = A17 54 (fd 0) := ⟨_, rfl⟩
    have q35 : v7 = v33 := (e34.trans ((frm_f f20 rfl).trans e12.symm)).symm
    subst q35
    obtain ⟨v36, e37⟩ : ∃ v, v = A17 54 (fd 1) := ⟨_, rfl⟩
    have q38 : v9 = v36 := (e37.trans ((frm_f f20 rfl).trans e15.symm)).symm
    subst q38
    exact Exists.intro (200 - 0 : Int).toNat (And.intro i18 (And.intro j19 (And.intro f28 (And.intro rfl (And.intro (by rw [← e34]; omega) (And.intro (by rw [← e37]; omega) (And.intro (by omega) (And.intro (by omega) (And.intro (by omega) (And.intro (by omega) (And.intro (by omega) (And.intro g22 (And.intro pf32 (And.intro (by omega) (And.intro (by omega) (by omega))))))))))))))))
def sC_readFactor5_71 : qS := fun as A K => ∃ d : Int, as = [rf 54, ni d] ∧ (iva IC A ∧ ivf JC A ∧ 5 ≤ d ∧ d ≤ 5 ∧ (52 ≤ A 54 (fd 0) ∧ A 54 (fd 0) ≤ 52) ∧ (71 ≤ A 54 (fd 1) ∧ A 54 (fd 1) ≤ 71) ∧ (KO A) ∧ (A 71 (fd 8) ≤ A 54 (fd 3))) ∧ (∀ A' : qA, iva IC A' → ivf JC A' → frm [72, 73] [(71, 8), (54, 3), (54, 4)] A A' → ∀ r : Int, 0 ≤ r → r ≤ 1 → (KO A') → (PF 71 A A') → (A 71 (fd 8) ≤ A' 71 (fd 8)) → (A' 71 (fd 8) + A 54 (fd 3) ≤ A 71 (fd 8) + A' 54 (fd 3)) → K (some (ni r)) A')
theorem okC_readFactor5_71 : okM LC 6 59 sC_readFactor5_71 := by
  refine qmeth [(54, 0, 52), (54, 1, 71)] false [(46, sC_look_71), (60, sC_isDigit), (61, sC_readNumber_71), (75, sC_putr71), (47, sC_fail_71), (49, sC_enter_71), (57, sC_readSum6_71), (48, sC_expect_71)] 60 rfl ⟨okC_look_71.le (by decide), ⟨okC_isDigit.le (by decide), ⟨okC_readNumber_71.le (by decide), ⟨okC_putr71.le (by decide), ⟨okC_fail_71.le (by decide), ⟨okC_enter_71.le (by decide), ⟨okC_readSum6_71.le (by decide), ⟨okC_expect_71.le (by decide), trivial⟩⟩⟩⟩⟩⟩⟩⟩ ?_
  rintro _ A K hA has ⟨d, rfl, ⟨i0, j0, p1, p2, p3, p4, p5, p6⟩, hK⟩
  have rg_d : rng d := has (ni d) (by simp)
  have f0 := frm_0 [72, 73] [(71, 8), (54, 3), (54, 4)] A
  obtain ⟨v7, e8⟩ : ∃ v, v = A 54 (fd 0) := ⟨_, rfl⟩
  rw [← e8] at p3
  obtain ⟨v9, e10⟩ : ∃ v, v = A 54 (fd 1) := ⟨_, rfl⟩
  rw [← e10] at p4
  have pf0 := PF_rf 71 A
  have hb_71_8 := ivf_at j0 12 rfl
  have hb_54_3 := ivf_at j0 1 rfl
  have hb_54_2 := ivf_at j0 0 rfl
  refine ⟨Nat.le_of_ble_eq_true rfl, [], trivial, ?_⟩
  obtain ⟨v11, e12⟩ : ∃ v, v = A 54 (fd 0) := ⟨_, rfl⟩
  have q13 : v7 = v11 := (e12.trans e8.symm).symm
  subst q13
  obtain ⟨v14, e15⟩ : ∃ v, v = A 54 (fd 1) := ⟨_, rfl⟩
  have q16 : v9 = v14 := (e15.trans e10.symm).symm
  subst q16
  refine And.intro rfl (And.intro (And.intro i0 (And.intro j0 (And.intro (by rw [← e12]; omega) (by rw [← e15]; omega)))) (fun r17 g19 g20 g18 => ?_))
  refine And.intro (fun h21 => ?_) (fun h21 => ?_)
  · refine Exists.intro r17 (And.intro rfl (And.intro (fun h22 => ?_) (fun h22 => ?_)))
    · refine And.intro (fun h23 => by exfalso; omega) (fun h23 => ?_)
      obtain ⟨v24, e25⟩ : ∃ v, v = A 54 (fd 0) := ⟨_, rfl⟩
      have q26 : v7 = v24 := (e25.trans e12.symm).symm
      subst q26
      obtain ⟨v27, e28⟩ : ∃ v, v = A 54 (fd 1) := ⟨_, rfl⟩
      have q29 : v9 = v27 := (e28.trans e15.symm).symm
      subst q29
      refine And.intro rfl (And.intro (And.intro i0 (And.intro j0 (And.intro (by rw [← e25]; omega) (And.intro (by rw [← e28]; omega) (And.intro p5 (And.intro (by first | assumption | omega | simp_all) (And.intro (by first | assumption | omega | simp_all) (And.intro (by first | assumption | omega | simp_all) (by first | assumption | omega | simp_all))))))))) (fun A30 i31 j32 f33 r34 g39 g40 g35 g36 g37 g38 => ?_))
      have f41 := frm_c f0 f33 rfl
      have t42 := ivf_at j32 12 rfl
      have t43 := ivf_at j32 1 rfl
      have t44 : A30 54 (fd 2) = A 54 (fd 2) := (frm_f f33 rfl)
      have pf45 := PF_tr pf0 g36 (by omega)
      exact And.intro (by omega) (hK _ i31 j32 f41 _ (by omega) (by omega) g35 pf45 (by first | assumption | omega | simp_all) (by first | assumption | omega | simp_all))
    · refine And.intro (fun h46 => ?_) (fun h46 => by exfalso; omega)
      refine fun v47 e48 => ?_
      have h49 := qone_bd 0 r17
      rw [← e48] at h49
      have h50 := qone_p (s := 0) (x := r17) (by omega)
      refine And.intro (fun h51 => ?_) (fun h51 => ?_)
      · obtain ⟨v52, e53⟩ : ∃ v, v = A 54 (fd 1) := ⟨_, rfl⟩
        have q54 : v9 = v52 := (e53.trans e15.symm).symm
        subst q54
        refine And.intro (show A 54 (fd 1) = ((71 : Nat) : Int) by omega) ?_
        refine fun v55 e56 => ?_
        have h57 := qix_bd 0 r17
        rw [← e56] at h57
        refine Exists.intro 107 (Exists.intro v55 (And.intro rfl (And.intro (And.intro i0 (And.intro j0 (And.intro (by omega) (And.intro (by omega) (And.intro p5 (And.intro (by first | assumption | omega | simp_all) (by first | assumption | omega | simp_all))))))) (fun A58 i59 j60 f61 g62 g63 g64 g65 => ?_))))
        have f66 := frm_c f0 f61 rfl
        have t67 := ivf_at j60 12 rfl
        have t68 : A58 54 (fd 3) = A 54 (fd 3) := (frm_f f61 rfl)
        have t69 : A58 54 (fd 2) = A 54 (fd 2) := (frm_f f61 rfl)
        have pf70 := PF_tr pf0 g63 (by omega)
        refine fun v71 gv71 e72 => ?_
        have b73 := ivf_at j60 1 rfl
        refine fun v74 e75 => ?_
        refine And.intro (by omega) (fun A76 e77 => ?_)
        have i78 := iva_sf i59 e77 rfl
        have j79 := ivf_st j60 e77 (And.intro (by omega) trivial)
        have f80 := frm_sf f66 e77 rfl
        have t81 : A76 71 (fd 8) = A58 71 (fd 8) := (congrFun (st_a e77 rfl) _)
        have t82 := st_v e77
        have t83 : A76 54 (fd 2) = A58 54 (fd 2) := (st_f e77 rfl)
        have kk84 := KO_k g62 (st_a e77 rfl) (st_a e77 rfl) (st_a e77 rfl) (st_a e77 rfl)
        have pf85 := PF_k pf70 (st_a e77 rfl)
        exact And.intro (by omega) (hK _ i78 j79 f80 _ (by omega) (by omega) kk84 pf85 (by first | assumption | omega | simp_all) (by first | assumption | omega | simp_all))
      · obtain ⟨v86, e87⟩ : ∃ v, v = A 54 (fd 0) := ⟨_, rfl⟩
        have q88 : v7 = v86 := (e87.trans e12.symm).symm
        subst q88
        obtain ⟨v89, e90⟩ : ∃ v, v = A 54 (fd 1) := ⟨_, rfl⟩
        have q91 : v9 = v89 := (e90.trans e15.symm).symm
        subst q91
        refine Exists.intro 1 (And.intro rfl (And.intro (And.intro i0 (And.intro j0 (And.intro (by omega) (And.intro (by omega) (And.intro (by rw [← e87]; omega) (by rw [← e90]; omega)))))) (fun A92 i93 j94 f95 => (fun h96 => ?_))))
        · have f97 := frm_c f0 f95 rfl
          have t98 : A92 71 (fd 8) = A 71 (fd 8) := (frm_f f95 rfl)
          have t99 : A92 54 (fd 3) = A 54 (fd 3) := (frm_f f95 rfl)
          have t100 : A92 54 (fd 2) = A 54 (fd 2) := (frm_f f95 rfl)
          have kk101 := KO_fr p5 f95 rfl
          have pf102 := PF_k pf0 (frm_a f95 rfl)
          exact And.intro (by omega) (hK _ i93 j94 f97 _ (by omega) (by omega) kk101 pf102 (by first | assumption | omega | simp_all) (by first | assumption | omega | simp_all))
  · obtain ⟨v103, e104⟩ : ∃ v, v = A 54 (fd 0) := ⟨_, rfl⟩
    have q105 : v7 = v103 := (e104.trans e12.symm).symm
    subst q105
    obtain ⟨v106, e107⟩ : ∃ v, v = A 54 (fd 1) := ⟨_, rfl⟩
    have q108 : v9 = v106 := (e107.trans e15.symm).symm
    subst q108
    refine Exists.intro d (And.intro rfl (And.intro (And.intro i0 (And.intro j0 (And.intro (by omega) (And.intro (by omega) (And.intro (by rw [← e104]; omega) (And.intro (by rw [← e107]; omega) (And.intro p5 (by first | assumption | omega | simp_all)))))))) (fun A109 i110 j111 f112 g113 g114 => (And.intro (fun h115 => ?_) (fun h115 => by exfalso; omega)))))
    · have f116 := frm_c f0 f112 rfl
      have t117 : A109 71 (fd 8) = A 71 (fd 8) := (frm_f f112 rfl)
      have t118 := ivf_at j111 1 rfl
      have t119 : A109 54 (fd 2) = A 54 (fd 2) := (frm_f f112 rfl)
      have kk120 := KO_fr p5 f112 rfl
      have pf121 := PF_k pf0 (frm_a f112 rfl)
      refine And.intro (fun h122 => by exfalso; omega) (fun h122 => ?_)
      refine fun v123 e124 => ?_
      obtain ⟨v125, e126⟩ : ∃ v, v = A109 54 (fd 0) := ⟨_, rfl⟩
      have q127 : v7 = v125 := (e126.trans ((frm_f f112 rfl).trans e104.symm)).symm
      subst q127
      obtain ⟨v128, e129⟩ : ∃ v, v = A109 54 (fd 1) := ⟨_, rfl⟩
      have q130 : v9 = v128 := (e129.trans ((frm_f f112 rfl).trans e107.symm)).symm
      subst q130
      refine And.intro (by omega) (Exists.intro v123 (And.intro rfl (And.intro (And.intro i110 (And.intro j111 (And.intro (by omega) (And.intro (by omega) (And.intro (by rw [← e126]; omega) (And.intro (by rw [← e129]; omega) (And.intro kk120 (by first | assumption | omega | simp_all)))))))) (fun A131 i132 j133 f134 r135 g140 g141 g136 g137 g138 g139 => ?_))))
      have f142 := frm_c f116 f134 rfl
      have t143 := ivf_at j133 12 rfl
      have t144 := ivf_at j133 1 rfl
      have t145 : A131 54 (fd 2) = A109 54 (fd 2) := (frm_f f134 rfl)
      have pf146 := PF_tr pf121 g137 (by omega)
      refine And.intro (fun h147 => ?_) (fun h147 => ?_)
      · exact And.intro (by omega) (hK _ i132 j133 f142 _ (by omega) (by omega) g136 pf146 (by first | assumption | omega | simp_all) (by first | assumption | omega | simp_all))
      · obtain ⟨v148, e149⟩ : ∃ v, v = A131 54 (fd 0) := ⟨_, rfl⟩
        have q150 : v7 = v148 := (e149.trans ((frm_f f134 rfl).trans e126.symm)).symm
        subst q150
        obtain ⟨v151, e152⟩ : ∃ v, v = A131 54 (fd 1) := ⟨_, rfl⟩
        have q153 : v9 = v151 := (e152.trans ((frm_f f134 rfl).trans e129.symm)).symm
        subst q153
        refine Exists.intro 93 (And.intro rfl (And.intro (And.intro i132 (And.intro j133 (And.intro (by omega) (And.intro (by omega) (And.intro (by rw [← e149]; omega) (And.intro (by rw [← e152]; omega) (And.intro g136 (by first | assumption | omega | simp_all)))))))) (fun A154 i155 j156 f157 r158 g160 g161 g159 => ?_)))
        have f162 := frm_c f142 f157 rfl
        have t163 : A154 71 (fd 8) = A131 71 (fd 8) := (frm_f f157 rfl)
        have t164 := ivf_at j156 1 rfl
        have t165 : A154 54 (fd 2) = A131 54 (fd 2) := (frm_f f157 rfl)
        have kk166 := KO_fr g136 f157 rfl
        have pf167 := PF_k pf146 (frm_a f157 rfl)
        refine And.intro (fun h168 => ?_) (fun h168 => ?_)
        · exact And.intro (by omega) (hK _ i155 j156 f162 _ (by omega) (by omega) kk166 pf167 (by first | assumption | omega | simp_all) (by first | assumption | omega | simp_all))
        · exact And.intro (by omega) (hK _ i155 j156 f162 _ (by omega) (by omega) kk166 pf167 (by first | assumption | omega | simp_all) (by first | assumption | omega | simp_all))
def sC_readTerm5_71 : qS := fun as A K => ∃ d : Int, as = [rf 54, ni d] ∧ (iva IC A ∧ ivf JC A ∧ 5 ≤ d ∧ d ≤ 5 ∧ (52 ≤ A 54 (fd 0) ∧ A 54 (fd 0) ≤ 52) ∧ (71 ≤ A 54 (fd 1) ∧ A 54 (fd 1) ≤ 71) ∧ (KO A) ∧ (A 71 (fd 8) ≤ A 54 (fd 3))) ∧ (∀ A' : qA, iva IC A' → ivf JC A' → frm [72, 73] [(71, 8), (54, 3), (54, 4)] A A' → ∀ r : Int, 0 ≤ r → r ≤ 1 → (KO A') → (PF 71 A A') → (A 71 (fd 8) ≤ A' 71 (fd 8)) → (A' 71 (fd 8) + A 54 (fd 3) ≤ A 71 (fd 8) + A' 54 (fd 3)) → K (some (ni r)) A')
theorem okC_readTerm5_71 : okM LC 7 58 sC_readTerm5_71 := by
  refine qmeth [(54, 0, 52), (54, 1, 71)] false [(59, sC_readFactor5_71), (46, sC_look_71), (75, sC_putr71)] 44 rfl ⟨okC_readFactor5_71.le (by decide), ⟨okC_look_71.le (by decide), ⟨okC_putr71.le (by decide), trivial⟩⟩⟩ ?_
  rintro _ A K hA has ⟨d, rfl, ⟨i0, j0, p1, p2, p3, p4, p5, p6⟩, hK⟩
  have rg_d : rng d := has (ni d) (by simp)
  have f0 := frm_0 [72, 73] [(71, 8), (54, 3), (54, 4)] A
  obtain ⟨v7, e8⟩ : ∃ v, v = A 54 (fd 0) := ⟨_, rfl⟩
  rw [← e8] at p3
  obtain ⟨v9, e10⟩ : ∃ v, v = A 54 (fd 1) := ⟨_, rfl⟩
  rw [← e10] at p4
  have pf0 := PF_rf 71 A
  have hb_71_8 := ivf_at j0 12 rfl
  have hb_54_3 := ivf_at j0 1 rfl
  have hb_54_2 := ivf_at j0 0 rfl
  refine ⟨Nat.le_of_ble_eq_true rfl, [(6, [(0, 2, 54), (1, 0, 0), (2, 0, 0), (3, 0, 0)], fun zs B nn => match zs with | [l1, w, i] => iva IC B ∧ ivf JC B ∧ frm [72, 73] [(71, 8), (54, 3), (54, 4)] A B ∧ nn = (200 - i : Int).toNat ∧ (52 ≤ B 54 (fd 0) ∧ B 54 (fd 0) ≤ 52) ∧ (71 ≤ B 54 (fd 1) ∧ B 54 (fd 1) ≤ 71) ∧ (l1 = d) ∧ (0 ≤ i) ∧ (i ≤ 200) ∧ (0 ≤ w) ∧ (w ≤ 1) ∧ (KO B) ∧ (PF 71 A B) ∧ (A 71 (fd 8) ≤ B 71 (fd 8)) ∧ (B 71 (fd 8) + A 54 (fd 3) ≤ A 71 (fd 8) + B 54 (fd 3)) ∧ (B 71 (fd 8) ≤ B 54 (fd 3)) | _ => False)], ?_, ?_⟩
  · refine ⟨⟨rfl, ?_⟩, trivial⟩
    · refine fun l1 w i B mm hB hz hI => ?_
      obtain ⟨i1, j1, f1, hm, d0, d1, c0, c1, c2, c3, c4, c5, c6, c7, c8, c9⟩ := hI
      obtain ⟨hz_l1, hz_w, hz_i, _⟩ := hz
      obtain ⟨v39, e40⟩ : ∃ v, v = B 54 (fd 0) := ⟨_, rfl⟩
      rw [← e40] at d0
      obtain ⟨v41, e42⟩ : ∃ v, v = B 54 (fd 1) := ⟨_, rfl⟩
      rw [← e42] at d1
      have hc_71_8 := ivf_at j1 12 rfl
      have hc_54_3 := ivf_at j1 1 rfl
      have hc_54_2 := ivf_at j1 0 rfl
      have hc_t : B 54 (fd 2) = A 54 (fd 2) := frm_f f1 rfl
      have hc_w : B 53 = A 53 := frm_a f1 rfl
      refine And.intro (fun h43 => ?_) (fun h43 => ?_)
      · exact And.intro (by omega) (hK _ i1 j1 f1 _ (by omega) (by omega) c5 c6 (by first | assumption | omega | simp_all) (by first | assumption | omega | simp_all))
      · refine And.intro (fun h44 => ?_) (fun h44 => ?_)
        · exact And.intro (by omega) (hK _ i1 j1 f1 _ (by omega) (by omega) c5 c6 (by first | assumption | omega | simp_all) (by first | assumption | omega | simp_all))
        · obtain ⟨v45, e46⟩ : ∃ v, v = B 54 (fd 0) := ⟨_, rfl⟩
          have q47 : v39 = v45 := (e46.trans e40.symm).symm
          subst q47
          obtain ⟨v48, e49⟩ : ∃ v, v = B 54 (fd 1) := ⟨_, rfl⟩
          have q50 : v41 = v48 := (e49.trans e42.symm).symm
          subst q50
          refine And.intro rfl (And.intro (And.intro i1 (And.intro j1 (And.intro (by rw [← e46]; omega) (by rw [← e49]; omega)))) (fun r51 g53 g54 g52 => ?_))
          refine fun v55 e56 => ?_
          have h57 := qone_bd 4 r51
          rw [← e56] at h57
          have h58 := qone_p (s := 4) (x := r51) (by omega)
          refine And.intro (fun h59 => ?_) (fun h59 => ?_)
          · exact And.intro (by omega) (hK _ i1 j1 f1 _ (by omega) (by omega) c5 c6 (by first | assumption | omega | simp_all) (by first | assumption | omega | simp_all))
          · obtain ⟨v60, e61⟩ : ∃ v, v = B 54 (fd 0) := ⟨_, rfl⟩
            have q62 : v39 = v60 := (e61.trans e46.symm).symm
            subst q62
            obtain ⟨v63, e64⟩ : ∃ v, v = B 54 (fd 1) := ⟨_, rfl⟩
            have q65 : v41 = v63 := (e64.trans e49.symm).symm
            subst q65
            refine And.intro rfl (And.intro (And.intro i1 (And.intro j1 (And.intro (by rw [← e61]; omega) (by rw [← e64]; omega)))) (fun r66 g68 g69 g67 => ?_))
            refine fun v70 gv70 e71 => ?_
            have b72 := ivf_at j1 1 rfl
            refine fun v73 e74 => ?_
            refine And.intro (by omega) (fun A75 e76 => ?_)
            have i77 := iva_sf i1 e76 rfl
            have j78 := ivf_st j1 e76 (And.intro (by omega) trivial)
            have f79 := frm_sf f1 e76 rfl
            have t80 : A75 71 (fd 8) = B 71 (fd 8) := (congrFun (st_a e76 rfl) _)
            have t81 := st_v e76
            have t82 : A75 54 (fd 2) = B 54 (fd 2) := (st_f e76 rfl)
            have kk83 := KO_k c5 (st_a e76 rfl) (st_a e76 rfl) (st_a e76 rfl) (st_a e76 rfl)
            have pf84 := PF_k c6 (st_a e76 rfl)
            obtain ⟨v85, e86⟩ : ∃ v, v = A75 54 (fd 0) := ⟨_, rfl⟩
            have q87 : v39 = v85 := (e86.trans ((st_f e76 rfl).trans e61.symm)).symm
            subst q87
            obtain ⟨v88, e89⟩ : ∃ v, v = A75 54 (fd 1) := ⟨_, rfl⟩
            have q90 : v41 = v88 := (e89.trans ((st_f e76 rfl).trans e64.symm)).symm
            subst q90
            refine Exists.intro l1 (And.intro rfl (And.intro (And.intro i77 (And.intro j78 (And.intro (by omega) (And.intro (by omega) (And.intro (by rw [← e86]; omega) (And.intro (by rw [← e89]; omega) (And.intro kk83 (by first | assumption | omega | simp_all)))))))) (fun A91 i92 j93 f94 r95 g100 g101 g96 g97 g98 g99 => ?_)))
            have f102 := frm_c f79 f94 rfl
            have t103 := ivf_at j93 12 rfl
            have t104 := ivf_at j93 1 rfl
            have t105 : A91 54 (fd 2) = A75 54 (fd 2) := (frm_f f94 rfl)
            have pf106 := PF_tr pf84 g97 (by omega)
            obtain ⟨v107, e108⟩ : ∃ v, v = A91 54 (fd 1) := ⟨_, rfl⟩
            have q109 : v41 = v107 := (e108.trans ((frm_f f94 rfl).trans e89.symm)).symm
            subst q109
            refine And.intro (show A91 54 (fd 1) = ((71 : Nat) : Int) by omega) ?_
            refine Exists.intro r66 (Exists.intro 0 (And.intro rfl (And.intro (And.intro i92 (And.intro j93 (And.intro (by omega) (And.intro (by omega) (And.intro g96 (And.intro (by first | assumption | omega | simp_all) (by first | assumption | omega | simp_all))))))) (fun A110 i111 j112 f113 g114 g115 g116 g117 => ?_))))
            have f118 := frm_c f102 f113 rfl
            have t119 := ivf_at j112 12 rfl
            have t120 : A110 54 (fd 3) = A91 54 (fd 3) := (frm_f f113 rfl)
            have t121 : A110 54 (fd 2) = A91 54 (fd 2) := (frm_f f113 rfl)
            have pf122 := PF_tr pf106 g115 (by omega)
            refine fun v123 e124 => ?_
            obtain ⟨v125, e126⟩ : ∃ v, v = A110 54 (fd 0) := ⟨_, rfl⟩
            have q127 : v39 = v125 := (e126.trans ((Eq.trans (frm_f f113 rfl) (frm_f f94 rfl)).trans e86.symm)).symm
            subst q127
            obtain ⟨v128, e129⟩ : ∃ v, v = A110 54 (fd 1) := ⟨_, rfl⟩
            have q130 : v41 = v128 := (e129.trans ((frm_f f113 rfl).trans e108.symm)).symm
            subst q130
            exact And.intro (by omega) (Exists.intro (200 - v123 : Int).toNat (And.intro (by omega) (And.intro i111 (And.intro j112 (And.intro f118 (And.intro rfl (And.intro (by rw [← e126]; omega) (And.intro (by rw [← e129]; omega) (And.intro (by omega) (And.intro (by omega) (And.intro (by omega) (And.intro (by omega) (And.intro (by omega) (And.intro g114 (And.intro pf122 (And.intro (by omega) (And.intro (by omega) (by omega))))))))))))))))))
  · obtain ⟨v11, e12⟩ : ∃ v, v = A 54 (fd 0) := ⟨_, rfl⟩
    have q13 : v7 = v11 := (e12.trans e8.symm).symm
    subst q13
    obtain ⟨v14, e15⟩ : ∃ v, v = A 54 (fd 1) := ⟨_, rfl⟩
    have q16 : v9 = v14 := (e15.trans e10.symm).symm
    subst q16
    refine Exists.intro d (And.intro rfl (And.intro (And.intro i0 (And.intro j0 (And.intro (by omega) (And.intro (by omega) (And.intro (by rw [← e12]; omega) (And.intro (by rw [← e15]; omega) (And.intro p5 (by first | assumption | omega | simp_all)))))))) (fun A17 i18 j19 f20 r21 g26 g27 g22 g23 g24 g25 => ?_)))
    have f28 := frm_c f0 f20 rfl
    have t29 := ivf_at j19 12 rfl
    have t30 := ivf_at j19 1 rfl
    have t31 : A17 54 (fd 2) = A 54 (fd 2) := (frm_f f20 rfl)
    have pf32 := PF_tr pf0 g23 (by omega)
    obtain ⟨v33, e34⟩ : ∃ v, v = A17 54 (fd 0) := ⟨_, rfl⟩
    have q35 : v7 = v33 := (e34.trans ((frm_f f20 rfl).trans e12.symm)).symm
    subst q35
    obtain ⟨v36, e37⟩ : ∃ v, v = A17 54 (fd 1) := ⟨_, rfl⟩
    have q38 : v9 = v36 := (e37.trans ((frm_f f20 rfl).trans e15.symm)).symm
    subst q38
    exact Exists.intro (200 - 0 : Int).toNat (And.intro i18 (And.intro j19 (And.intro f28 (And.intro rfl (And.intro (by rw [← e34]; omega) (And.intro (by rw [← e37]; omega) (And.intro (by omega) (And.intro (by omega) (And.intro (by omega) (And.intro (by omega) (And.intro (by omega) (And.intro g22 (And.intro pf32 (And.intro (by omega) (And.intro (by omega) (by omega))))))))))))))))
def sC_readSum5_71 : qS := fun as A K => ∃ d : Int, as = [rf 54, ni d] ∧ (iva IC A ∧ ivf JC A ∧ 5 ≤ d ∧ d ≤ 5 ∧ (52 ≤ A 54 (fd 0) ∧ A 54 (fd 0) ≤ 52) ∧ (71 ≤ A 54 (fd 1) ∧ A 54 (fd 1) ≤ 71) ∧ (KO A) ∧ (A 71 (fd 8) ≤ A 54 (fd 3))) ∧ (∀ A' : qA, iva IC A' → ivf JC A' → frm [72, 73] [(71, 8), (54, 3), (54, 4)] A A' → ∀ r : Int, 0 ≤ r → r ≤ 1 → (KO A') → (PF 71 A A') → (A 71 (fd 8) ≤ A' 71 (fd 8)) → (A' 71 (fd 8) + A 54 (fd 3) ≤ A 71 (fd 8) + A' 54 (fd 3)) → K (some (ni r)) A')
theorem okC_readSum5_71 : okM LC 8 57 sC_readSum5_71 := by
  refine qmeth [(54, 0, 52), (54, 1, 71)] false [(58, sC_readTerm5_71), (46, sC_look_71), (75, sC_putr71)] 44 rfl ⟨okC_readTerm5_71.le (by decide), ⟨okC_look_71.le (by decide), ⟨okC_putr71.le (by decide), trivial⟩⟩⟩ ?_
  rintro _ A K hA has ⟨d, rfl, ⟨i0, j0, p1, p2, p3, p4, p5, p6⟩, hK⟩
  have rg_d : rng d := has (ni d) (by simp)
  have f0 := frm_0 [72, 73] [(71, 8), (54, 3), (54, 4)] A
  obtain ⟨v7, e8⟩ : ∃ v, v = A 54 (fd 0) := ⟨_, rfl⟩
  rw [← e8] at p3
  obtain ⟨v9, e10⟩ : ∃ v, v = A 54 (fd 1) := ⟨_, rfl⟩
  rw [← e10] at p4
  have pf0 := PF_rf 71 A
  have hb_71_8 := ivf_at j0 12 rfl
  have hb_54_3 := ivf_at j0 1 rfl
  have hb_54_2 := ivf_at j0 0 rfl
  refine ⟨Nat.le_of_ble_eq_true rfl, [(6, [(0, 2, 54), (1, 0, 0), (2, 0, 0), (3, 0, 0)], fun zs B nn => match zs with | [l1, w, i] => iva IC B ∧ ivf JC B ∧ frm [72, 73] [(71, 8), (54, 3), (54, 4)] A B ∧ nn = (200 - i : Int).toNat ∧ (52 ≤ B 54 (fd 0) ∧ B 54 (fd 0) ≤ 52) ∧ (71 ≤ B 54 (fd 1) ∧ B 54 (fd 1) ≤ 71) ∧ (l1 = d) ∧ (0 ≤ i) ∧ (i ≤ 200) ∧ (0 ≤ w) ∧ (w ≤ 1) ∧ (KO B) ∧ (PF 71 A B) ∧ (A 71 (fd 8) ≤ B 71 (fd 8)) ∧ (B 71 (fd 8) + A 54 (fd 3) ≤ A 71 (fd 8) + B 54 (fd 3)) ∧ (B 71 (fd 8) ≤ B 54 (fd 3)) | _ => False)], ?_, ?_⟩
  · refine ⟨⟨rfl, ?_⟩, trivial⟩
    · refine fun l1 w i B mm hB hz hI => ?_
      obtain ⟨i1, j1, f1, hm, d0, d1, c0, c1, c2, c3, c4, c5, c6, c7, c8, c9⟩ := hI
      obtain ⟨hz_l1, hz_w, hz_i, _⟩ := hz
      obtain ⟨v39, e40⟩ : ∃ v, v = B 54 (fd 0) := ⟨_, rfl⟩
      rw [← e40] at d0
      obtain ⟨v41, e42⟩ : ∃ v, v = B 54 (fd 1) := ⟨_, rfl⟩
      rw [← e42] at d1
      have hc_71_8 := ivf_at j1 12 rfl
      have hc_54_3 := ivf_at j1 1 rfl
      have hc_54_2 := ivf_at j1 0 rfl
      have hc_t : B 54 (fd 2) = A 54 (fd 2) := frm_f f1 rfl
      have hc_w : B 53 = A 53 := frm_a f1 rfl
      refine And.intro (fun h43 => ?_) (fun h43 => ?_)
      · exact And.intro (by omega) (hK _ i1 j1 f1 _ (by omega) (by omega) c5 c6 (by first | assumption | omega | simp_all) (by first | assumption | omega | simp_all))
      · refine And.intro (fun h44 => ?_) (fun h44 => ?_)
        · exact And.intro (by omega) (hK _ i1 j1 f1 _ (by omega) (by omega) c5 c6 (by first | assumption | omega | simp_all) (by first | assumption | omega | simp_all))
        · obtain ⟨v45, e46⟩ : ∃ v, v = B 54 (fd 0) := ⟨_, rfl⟩
          have q47 : v39 = v45 := (e46.trans e40.symm).symm
          subst q47
          obtain ⟨v48, e49⟩ : ∃ v, v = B 54 (fd 1) := ⟨_, rfl⟩
          have q50 : v41 = v48 := (e49.trans e42.symm).symm
          subst q50
          refine And.intro rfl (And.intro (And.intro i1 (And.intro j1 (And.intro (by rw [← e46]; omega) (by rw [← e49]; omega)))) (fun r51 g53 g54 g52 => ?_))
          refine fun v55 e56 => ?_
          have h57 := qone_bd 3 r51
          rw [← e56] at h57
          have h58 := qone_p (s := 3) (x := r51) (by omega)
          refine And.intro (fun h59 => ?_) (fun h59 => ?_)
          · exact And.intro (by omega) (hK _ i1 j1 f1 _ (by omega) (by omega) c5 c6 (by first | assumption | omega | simp_all) (by first | assumption | omega | simp_all))
          · obtain ⟨v60, e61⟩ : ∃ v, v = B 54 (fd 0) := ⟨_, rfl⟩
            have q62 : v39 = v60 := (e61.trans e46.symm).symm
            subst q62
            obtain ⟨v63, e64⟩ : ∃ v, v = B 54 (fd 1) := ⟨_, rfl⟩
            have q65 : v41 = v63 := (e64.trans e49.symm).symm
            subst q65
            refine And.intro rfl (And.intro (And.intro i1 (And.intro j1 (And.intro (by rw [← e61]; omega) (by rw [← e64]; omega)))) (fun r66 g68 g69 g67 => ?_))
            refine fun v70 gv70 e71 => ?_
            have b72 := ivf_at j1 1 rfl
            refine fun v73 e74 => ?_
            refine And.intro (by omega) (fun A75 e76 => ?_)
            have i77 := iva_sf i1 e76 rfl
            have j78 := ivf_st j1 e76 (And.intro (by omega) trivial)
            have f79 := frm_sf f1 e76 rfl
            have t80 : A75 71 (fd 8) = B 71 (fd 8) := (congrFun (st_a e76 rfl) _)
            have t81 := st_v e76
            have t82 : A75 54 (fd 2) = B 54 (fd 2) := (st_f e76 rfl)
            have kk83 := KO_k c5 (st_a e76 rfl) (st_a e76 rfl) (st_a e76 rfl) (st_a e76 rfl)
            have pf84 := PF_k c6 (st_a e76 rfl)
            obtain ⟨v85, e86⟩ : ∃ v, v = A75 54 (fd 0) := ⟨_, rfl⟩
            have q87 : v39 = v85 := (e86.trans ((st_f e76 rfl).trans e61.symm)).symm
            subst q87
            obtain ⟨v88, e89⟩ : ∃ v, v = A75 54 (fd 1) := ⟨_, rfl⟩
            have q90 : v41 = v88 := (e89.trans ((st_f e76 rfl).trans e64.symm)).symm
            subst q90
            refine Exists.intro l1 (And.intro rfl (And.intro (And.intro i77 (And.intro j78 (And.intro (by omega) (And.intro (by omega) (And.intro (by rw [← e86]; omega) (And.intro (by rw [← e89]; omega) (And.intro kk83 (by first | assumption | omega | simp_all)))))))) (fun A91 i92 j93 f94 r95 g100 g101 g96 g97 g98 g99 => ?_)))
            have f102 := frm_c f79 f94 rfl
            have t103 := ivf_at j93 12 rfl
            have t104 := ivf_at j93 1 rfl
            have t105 : A91 54 (fd 2) = A75 54 (fd 2) := (frm_f f94 rfl)
            have pf106 := PF_tr pf84 g97 (by omega)
            obtain ⟨v107, e108⟩ : ∃ v, v = A91 54 (fd 1) := ⟨_, rfl⟩
            have q109 : v41 = v107 := (e108.trans ((frm_f f94 rfl).trans e89.symm)).symm
            subst q109
            refine And.intro (show A91 54 (fd 1) = ((71 : Nat) : Int) by omega) ?_
            refine Exists.intro r66 (Exists.intro 0 (And.intro rfl (And.intro (And.intro i92 (And.intro j93 (And.intro (by omega) (And.intro (by omega) (And.intro g96 (And.intro (by first | assumption | omega | simp_all) (by first | assumption | omega | simp_all))))))) (fun A110 i111 j112 f113 g114 g115 g116 g117 => ?_))))
            have f118 := frm_c f102 f113 rfl
            have t119 := ivf_at j112 12 rfl
            have t120 : A110 54 (fd 3) = A91 54 (fd 3) := (frm_f f113 rfl)
            have t121 : A110 54 (fd 2) = A91 54 (fd 2) := (frm_f f113 rfl)
            have pf122 := PF_tr pf106 g115 (by omega)
            refine fun v123 e124 => ?_
            obtain ⟨v125, e126⟩ : ∃ v, v = A110 54 (fd 0) := ⟨_, rfl⟩
            have q127 : v39 = v125 := (e126.trans ((Eq.trans (frm_f f113 rfl) (frm_f f94 rfl)).trans e86.symm)).symm
            subst q127
            obtain ⟨v128, e129⟩ : ∃ v, v = A110 54 (fd 1) := ⟨_, rfl⟩
            have q130 : v41 = v128 := (e129.trans ((frm_f f113 rfl).trans e108.symm)).symm
            subst q130
            exact And.intro (by omega) (Exists.intro (200 - v123 : Int).toNat (And.intro (by omega) (And.intro i111 (And.intro j112 (And.intro f118 (And.intro rfl (And.intro (by rw [← e126]; omega) (And.intro (by rw [← e129]; omega) (And.intro (by omega) (And.intro (by omega) (And.intro (by omega) (And.intro (by omega) (And.intro (by omega) (And.intro g114 (And.intro pf122 (And.intro (by omega) (And.intro (by omega) (by omega))))))))))))))))))
  · obtain ⟨v11, e12⟩ : ∃ v, v = A 54 (fd 0) := ⟨_, rfl⟩
    have q13 : v7 = v11 := (e12.trans e8.symm).symm
    subst q13
    obtain ⟨v14, e15⟩ : ∃ v, v = A 54 (fd 1) := ⟨_, rfl⟩
    have q16 : v9 = v14 := (e15.trans e10.symm).symm
    subst q16
    refine Exists.intro d (And.intro rfl (And.intro (And.intro i0 (And.intro j0 (And.intro (by omega) (And.intro (by omega) (And.intro (by rw [← e12]; omega) (And.intro (by rw [← e15]; omega) (And.intro p5 (by first | assumption | omega | simp_all)))))))) (fun A17 i18 j19 f20 r21 g26 g27 g22 g23 g24 g25 => ?_)))
    have f28 := frm_c f0 f20 rfl
    have t29 := ivf_at j19 12 rfl
    have t30 := ivf_at j19 1 rfl
    have t31 : A17 54 (fd 2) = A 54 (fd 2) := (frm_f f20 rfl)
    have pf32 := PF_tr pf0 g23 (by omega)
    obtain ⟨v33, e34⟩ : ∃ v, v = A17 54 (fd 0) := ⟨_, rfl⟩
    have q35 : v7 = v33 := (e34.trans ((frm_f f20 rfl).trans e12.symm)).symm
    subst q35
    obtain ⟨v36, e37⟩ : ∃ v, v = A17 54 (fd 1) := ⟨_, rfl⟩
    have q38 : v9 = v36 := (e37.trans ((frm_f f20 rfl).trans e15.symm)).symm
    subst q38
    exact Exists.intro (200 - 0 : Int).toNat (And.intro i18 (And.intro j19 (And.intro f28 (And.intro rfl (And.intro (by rw [← e34]; omega) (And.intro (by rw [← e37]; omega) (And.intro (by omega) (And.intro (by omega) (And.intro (by omega) (And.intro (by omega) (And.intro (by omega) (And.intro g22 (And.intro pf32 (And.intro (by omega) (And.intro (by omega) (by omega))))))))))))))))
def sC_readComparison5_71 : qS := fun as A K => ∃ d : Int, as = [rf 54, ni d] ∧ (iva IC A ∧ ivf JC A ∧ 5 ≤ d ∧ d ≤ 5 ∧ (52 ≤ A 54 (fd 0) ∧ A 54 (fd 0) ≤ 52) ∧ (71 ≤ A 54 (fd 1) ∧ A 54 (fd 1) ≤ 71) ∧ (KO A) ∧ (A 71 (fd 8) ≤ A 54 (fd 3))) ∧ (∀ A' : qA, iva IC A' → ivf JC A' → frm [72, 73] [(71, 8), (54, 3), (54, 4)] A A' → ∀ r : Int, 0 ≤ r → r ≤ 1 → (KO A') → (PF 71 A A') → (A 71 (fd 8) ≤ A' 71 (fd 8)) → (A' 71 (fd 8) + A 54 (fd 3) ≤ A 71 (fd 8) + A' 54 (fd 3)) → K (some (ni r)) A')
theorem okC_readComparison5_71 : okM LC 9 56 sC_readComparison5_71 := by
  refine qmeth [(54, 0, 52), (54, 1, 71)] false [(57, sC_readSum5_71), (46, sC_look_71), (75, sC_putr71), (47, sC_fail_71)] 42 rfl ⟨okC_readSum5_71.le (by decide), ⟨okC_look_71.le (by decide), ⟨okC_putr71.le (by decide), ⟨okC_fail_71.le (by decide), trivial⟩⟩⟩⟩ ?_
  rintro _ A K hA has ⟨d, rfl, ⟨i0, j0, p1, p2, p3, p4, p5, p6⟩, hK⟩
  have rg_d : rng d := has (ni d) (by simp)
  have f0 := frm_0 [72, 73] [(71, 8), (54, 3), (54, 4)] A
  obtain ⟨v7, e8⟩ : ∃ v, v = A 54 (fd 0) := ⟨_, rfl⟩
  rw [← e8] at p3
  obtain ⟨v9, e10⟩ : ∃ v, v = A 54 (fd 1) := ⟨_, rfl⟩
  rw [← e10] at p4
  have pf0 := PF_rf 71 A
  have hb_71_8 := ivf_at j0 12 rfl
  have hb_54_3 := ivf_at j0 1 rfl
  have hb_54_2 := ivf_at j0 0 rfl
  refine ⟨Nat.le_of_ble_eq_true rfl, [], trivial, ?_⟩
  obtain ⟨v11, e12⟩ : ∃ v, v = A 54 (fd 0) := ⟨_, rfl⟩
  have q13 : v7 = v11 := (e12.trans e8.symm).symm
  subst q13
  obtain ⟨v14, e15⟩ : ∃ v, v = A 54 (fd 1) := ⟨_, rfl⟩
  have q16 : v9 = v14 := (e15.trans e10.symm).symm
  subst q16
  refine Exists.intro d (And.intro rfl (And.intro (And.intro i0 (And.intro j0 (And.intro (by omega) (And.intro (by omega) (And.intro (by rw [← e12]; omega) (And.intro (by rw [← e15]; omega) (And.intro p5 (by first | assumption | omega | simp_all)))))))) (fun A17 i18 j19 f20 r21 g26 g27 g22 g23 g24 g25 => ?_)))
  have f28 := frm_c f0 f20 rfl
  have t29 := ivf_at j19 12 rfl
  have t30 := ivf_at j19 1 rfl
  have t31 : A17 54 (fd 2) = A 54 (fd 2) := (frm_f f20 rfl)
  have pf32 := PF_tr pf0 g23 (by omega)
  refine And.intro (fun h33 => ?_) (fun h33 => ?_)
  · obtain ⟨v34, e35⟩ : ∃ v, v = A17 54 (fd 0) := ⟨_, rfl⟩
    have q36 : v7 = v34 := (e35.trans ((frm_f f20 rfl).trans e12.symm)).symm
    subst q36
    obtain ⟨v37, e38⟩ : ∃ v, v = A17 54 (fd 1) := ⟨_, rfl⟩
    have q39 : v9 = v37 := (e38.trans ((frm_f f20 rfl).trans e15.symm)).symm
    subst q39
    refine And.intro rfl (And.intro (And.intro i18 (And.intro j19 (And.intro (by rw [← e35]; omega) (by rw [← e38]; omega)))) (fun r40 g42 g43 g41 => ?_))
    refine fun v44 e45 => ?_
    have h46 := qone_bd 2 r40
    rw [← e45] at h46
    have h47 := qone_p (s := 2) (x := r40) (by omega)
    refine And.intro (fun h48 => ?_) (fun h48 => ?_)
    · refine fun v49 gv49 e50 => ?_
      have b51 := ivf_at j19 1 rfl
      refine fun v52 e53 => ?_
      refine And.intro (by omega) (fun A54 e55 => ?_)
      have i56 := iva_sf i18 e55 rfl
      have j57 := ivf_st j19 e55 (And.intro (by omega) trivial)
      have f58 := frm_sf f28 e55 rfl
      have t59 : A54 71 (fd 8) = A17 71 (fd 8) := (congrFun (st_a e55 rfl) _)
      have t60 := st_v e55
      have t61 : A54 54 (fd 2) = A17 54 (fd 2) := (st_f e55 rfl)
      have kk62 := KO_k g22 (st_a e55 rfl) (st_a e55 rfl) (st_a e55 rfl) (st_a e55 rfl)
      have pf63 := PF_k pf32 (st_a e55 rfl)
      obtain ⟨v64, e65⟩ : ∃ v, v = A54 54 (fd 0) := ⟨_, rfl⟩
      have q66 : v7 = v64 := (e65.trans ((st_f e55 rfl).trans e35.symm)).symm
      subst q66
      obtain ⟨v67, e68⟩ : ∃ v, v = A54 54 (fd 1) := ⟨_, rfl⟩
      have q69 : v9 = v67 := (e68.trans ((st_f e55 rfl).trans e38.symm)).symm
      subst q69
      refine Exists.intro d (And.intro rfl (And.intro (And.intro i56 (And.intro j57 (And.intro (by omega) (And.intro (by omega) (And.intro (by rw [← e65]; omega) (And.intro (by rw [← e68]; omega) (And.intro kk62 (by first | assumption | omega | simp_all)))))))) (fun A70 i71 j72 f73 r74 g79 g80 g75 g76 g77 g78 => ?_)))
      have f81 := frm_c f58 f73 rfl
      have t82 := ivf_at j72 12 rfl
      have t83 := ivf_at j72 1 rfl
      have t84 : A70 54 (fd 2) = A54 54 (fd 2) := (frm_f f73 rfl)
      have pf85 := PF_tr pf63 g76 (by omega)
      refine And.intro (fun h86 => ?_) (fun h86 => ?_)
      · obtain ⟨v87, e88⟩ : ∃ v, v = A70 54 (fd 1) := ⟨_, rfl⟩
        have q89 : v9 = v87 := (e88.trans ((frm_f f73 rfl).trans e68.symm)).symm
        subst q89
        refine And.intro (show A70 54 (fd 1) = ((71 : Nat) : Int) by omega) ?_
        refine Exists.intro r40 (Exists.intro 0 (And.intro rfl (And.intro (And.intro i71 (And.intro j72 (And.intro (by omega) (And.intro (by omega) (And.intro g75 (And.intro (by first | assumption | omega | simp_all) (by first | assumption | omega | simp_all))))))) (fun A90 i91 j92 f93 g94 g95 g96 g97 => ?_))))
        have f98 := frm_c f81 f93 rfl
        have t99 := ivf_at j92 12 rfl
        have t100 : A90 54 (fd 3) = A70 54 (fd 3) := (frm_f f93 rfl)
        have t101 : A90 54 (fd 2) = A70 54 (fd 2) := (frm_f f93 rfl)
        have pf102 := PF_tr pf85 g95 (by omega)
        exact And.intro (by omega) (hK _ i91 j92 f98 _ (by omega) (by omega) g94 pf102 (by first | assumption | omega | simp_all) (by first | assumption | omega | simp_all))
      · exact And.intro (by omega) (hK _ i71 j72 f81 _ (by omega) (by omega) g75 pf85 (by first | assumption | omega | simp_all) (by first | assumption | omega | simp_all))
    · obtain ⟨v103, e104⟩ : ∃ v, v = A17 54 (fd 0) := ⟨_, rfl⟩
      have q105 : v7 = v103 := (e104.trans e35.symm).symm
      subst q105
      obtain ⟨v106, e107⟩ : ∃ v, v = A17 54 (fd 1) := ⟨_, rfl⟩
      have q108 : v9 = v106 := (e107.trans e38.symm).symm
      subst q108
      refine Exists.intro 1 (And.intro rfl (And.intro (And.intro i18 (And.intro j19 (And.intro (by omega) (And.intro (by omega) (And.intro (by rw [← e104]; omega) (by rw [← e107]; omega)))))) (fun A109 i110 j111 f112 => (fun h113 => ?_))))
      · have f114 := frm_c f28 f112 rfl
        have t115 : A109 71 (fd 8) = A17 71 (fd 8) := (frm_f f112 rfl)
        have t116 : A109 54 (fd 3) = A17 54 (fd 3) := (frm_f f112 rfl)
        have t117 : A109 54 (fd 2) = A17 54 (fd 2) := (frm_f f112 rfl)
        have kk118 := KO_fr g22 f112 rfl
        have pf119 := PF_k pf32 (frm_a f112 rfl)
        exact And.intro (by omega) (hK _ i110 j111 f114 _ (by omega) (by omega) kk118 pf119 (by first | assumption | omega | simp_all) (by first | assumption | omega | simp_all))
  · exact And.intro (by omega) (hK _ i18 j19 f28 _ (by omega) (by omega) g22 pf32 (by first | assumption | omega | simp_all) (by first | assumption | omega | simp_all))
def sC_readPiece5_71 : qS := fun as A K => ∃ d : Int, as = [rf 54, ni d] ∧ (iva IC A ∧ ivf JC A ∧ 5 ≤ d ∧ d ≤ 5 ∧ (52 ≤ A 54 (fd 0) ∧ A 54 (fd 0) ≤ 52) ∧ (71 ≤ A 54 (fd 1) ∧ A 54 (fd 1) ≤ 71) ∧ (KO A) ∧ (A 71 (fd 8) ≤ A 54 (fd 3))) ∧ (∀ A' : qA, iva IC A' → ivf JC A' → frm [72, 73] [(71, 8), (54, 3), (54, 4)] A A' → ∀ r : Int, 0 ≤ r → r ≤ 1 → (KO A') → (PF 71 A A') → (A 71 (fd 8) ≤ A' 71 (fd 8)) → (A' 71 (fd 8) + A 54 (fd 3) ≤ A 71 (fd 8) + A' 54 (fd 3)) → K (some (ni r)) A')
theorem okC_readPiece5_71 : okM LC 10 55 sC_readPiece5_71 := by
  refine qmeth [(54, 0, 52), (54, 1, 71)] false [(46, sC_look_71), (56, sC_readComparison5_71), (49, sC_enter_71), (55, sC_readPiece6_71), (75, sC_putr71), (52, sC_readCondition6_71), (48, sC_expect_71)] 56 rfl ⟨okC_look_71.le (by decide), ⟨okC_readComparison5_71.le (by decide), ⟨okC_enter_71.le (by decide), ⟨okC_readPiece6_71.le (by decide), ⟨okC_putr71.le (by decide), ⟨okC_readCondition6_71.le (by decide), ⟨okC_expect_71.le (by decide), trivial⟩⟩⟩⟩⟩⟩⟩ ?_
  rintro _ A K hA has ⟨d, rfl, ⟨i0, j0, p1, p2, p3, p4, p5, p6⟩, hK⟩
  have rg_d : rng d := has (ni d) (by simp)
  have f0 := frm_0 [72, 73] [(71, 8), (54, 3), (54, 4)] A
  obtain ⟨v7, e8⟩ : ∃ v, v = A 54 (fd 0) := ⟨_, rfl⟩
  rw [← e8] at p3
  obtain ⟨v9, e10⟩ : ∃ v, v = A 54 (fd 1) := ⟨_, rfl⟩
  rw [← e10] at p4
  have pf0 := PF_rf 71 A
  have hb_71_8 := ivf_at j0 12 rfl
  have hb_54_3 := ivf_at j0 1 rfl
  have hb_54_2 := ivf_at j0 0 rfl
  refine ⟨Nat.le_of_ble_eq_true rfl, [], trivial, ?_⟩
  obtain ⟨v11, e12⟩ : ∃ v, v = A 54 (fd 0) := ⟨_, rfl⟩
  have q13 : v7 = v11 := (e12.trans e8.symm).symm
  subst q13
  obtain ⟨v14, e15⟩ : ∃ v, v = A 54 (fd 1) := ⟨_, rfl⟩
  have q16 : v9 = v14 := (e15.trans e10.symm).symm
  subst q16
  refine And.intro rfl (And.intro (And.intro i0 (And.intro j0 (And.intro (by rw [← e12]; omega) (by rw [← e15]; omega)))) (fun r17 g19 g20 g18 => ?_))
  refine And.intro (fun h21 => ?_) (fun h21 => ?_)
  · refine And.intro (fun h22 => ?_) (fun h22 => ?_)
    · obtain ⟨v23, e24⟩ : ∃ v, v = A 54 (fd 0) := ⟨_, rfl⟩
      have q25 : v7 = v23 := (e24.trans e12.symm).symm
      subst q25
      obtain ⟨v26, e27⟩ : ∃ v, v = A 54 (fd 1) := ⟨_, rfl⟩
      have q28 : v9 = v26 := (e27.trans e15.symm).symm
      subst q28
      refine Exists.intro d (And.intro rfl (And.intro (And.intro i0 (And.intro j0 (And.intro (by omega) (And.intro (by omega) (And.intro (by rw [← e24]; omega) (And.intro (by rw [← e27]; omega) (And.intro p5 (by first | assumption | omega | simp_all)))))))) (fun A29 i30 j31 f32 r33 g38 g39 g34 g35 g36 g37 => ?_)))
      have f40 := frm_c f0 f32 rfl
      have t41 := ivf_at j31 12 rfl
      have t42 := ivf_at j31 1 rfl
      have t43 : A29 54 (fd 2) = A 54 (fd 2) := (frm_f f32 rfl)
      have pf44 := PF_tr pf0 g35 (by omega)
      exact And.intro (by omega) (hK _ i30 j31 f40 _ (by omega) (by omega) g34 pf44 (by first | assumption | omega | simp_all) (by first | assumption | omega | simp_all))
    · obtain ⟨v45, e46⟩ : ∃ v, v = A 54 (fd 0) := ⟨_, rfl⟩
      have q47 : v7 = v45 := (e46.trans e12.symm).symm
      subst q47
      obtain ⟨v48, e49⟩ : ∃ v, v = A 54 (fd 1) := ⟨_, rfl⟩
      have q50 : v9 = v48 := (e49.trans e15.symm).symm
      subst q50
      refine Exists.intro d (And.intro rfl (And.intro (And.intro i0 (And.intro j0 (And.intro (by omega) (And.intro (by omega) (And.intro (by rw [← e46]; omega) (And.intro (by rw [← e49]; omega) (And.intro p5 (by first | assumption | omega | simp_all)))))))) (fun A51 i52 j53 f54 g55 g56 => (And.intro (fun h57 => ?_) (fun h57 => by exfalso; omega)))))
      · have f58 := frm_c f0 f54 rfl
        have t59 : A51 71 (fd 8) = A 71 (fd 8) := (frm_f f54 rfl)
        have t60 := ivf_at j53 1 rfl
        have t61 : A51 54 (fd 2) = A 54 (fd 2) := (frm_f f54 rfl)
        have kk62 := KO_fr p5 f54 rfl
        have pf63 := PF_k pf0 (frm_a f54 rfl)
        refine And.intro (fun h64 => by exfalso; omega) (fun h64 => ?_)
        refine fun v65 e66 => ?_
        obtain ⟨v67, e68⟩ : ∃ v, v = A51 54 (fd 0) := ⟨_, rfl⟩
        have q69 : v7 = v67 := (e68.trans ((frm_f f54 rfl).trans e46.symm)).symm
        subst q69
        obtain ⟨v70, e71⟩ : ∃ v, v = A51 54 (fd 1) := ⟨_, rfl⟩
        have q72 : v9 = v70 := (e71.trans ((frm_f f54 rfl).trans e49.symm)).symm
        subst q72
        refine And.intro (by omega) (Exists.intro v65 (And.intro rfl (And.intro (And.intro i52 (And.intro j53 (And.intro (by omega) (And.intro (by omega) (And.intro (by rw [← e68]; omega) (And.intro (by rw [← e71]; omega) (And.intro kk62 (by first | assumption | omega | simp_all)))))))) (fun A73 i74 j75 f76 r77 g82 g83 g78 g79 g80 g81 => ?_))))
        have f84 := frm_c f58 f76 rfl
        have t85 := ivf_at j75 12 rfl
        have t86 := ivf_at j75 1 rfl
        have t87 : A73 54 (fd 2) = A51 54 (fd 2) := (frm_f f76 rfl)
        have pf88 := PF_tr pf63 g79 (by omega)
        refine And.intro (fun h89 => ?_) (fun h89 => ?_)
        · obtain ⟨v90, e91⟩ : ∃ v, v = A73 54 (fd 1) := ⟨_, rfl⟩
          have q92 : v9 = v90 := (e91.trans ((frm_f f76 rfl).trans e71.symm)).symm
          subst q92
          refine And.intro (show A73 54 (fd 1) = ((71 : Nat) : Int) by omega) ?_
          refine Exists.intro 33 (Exists.intro 0 (And.intro rfl (And.intro (And.intro i74 (And.intro j75 (And.intro (by omega) (And.intro (by omega) (And.intro g78 (And.intro (by first | assumption | omega | simp_all) (by first | assumption | omega | simp_all))))))) (fun A93 i94 j95 f96 g97 g98 g99 g100 => ?_))))
          have f101 := frm_c f84 f96 rfl
          have t102 := ivf_at j95 12 rfl
          have t103 : A93 54 (fd 3) = A73 54 (fd 3) := (frm_f f96 rfl)
          have t104 : A93 54 (fd 2) = A73 54 (fd 2) := (frm_f f96 rfl)
          have pf105 := PF_tr pf88 g98 (by omega)
          exact And.intro (by omega) (hK _ i94 j95 f101 _ (by omega) (by omega) g97 pf105 (by first | assumption | omega | simp_all) (by first | assumption | omega | simp_all))
        · exact And.intro (by omega) (hK _ i74 j75 f84 _ (by omega) (by omega) g78 pf88 (by first | assumption | omega | simp_all) (by first | assumption | omega | simp_all))
  · obtain ⟨v106, e107⟩ : ∃ v, v = A 54 (fd 0) := ⟨_, rfl⟩
    have q108 : v7 = v106 := (e107.trans e12.symm).symm
    subst q108
    obtain ⟨v109, e110⟩ : ∃ v, v = A 54 (fd 1) := ⟨_, rfl⟩
    have q111 : v9 = v109 := (e110.trans e15.symm).symm
    subst q111
    refine Exists.intro d (And.intro rfl (And.intro (And.intro i0 (And.intro j0 (And.intro (by omega) (And.intro (by omega) (And.intro (by rw [← e107]; omega) (And.intro (by rw [← e110]; omega) (And.intro p5 (by first | assumption | omega | simp_all)))))))) (fun A112 i113 j114 f115 g116 g117 => (And.intro (fun h118 => ?_) (fun h118 => by exfalso; omega)))))
    · have f119 := frm_c f0 f115 rfl
      have t120 : A112 71 (fd 8) = A 71 (fd 8) := (frm_f f115 rfl)
      have t121 := ivf_at j114 1 rfl
      have t122 : A112 54 (fd 2) = A 54 (fd 2) := (frm_f f115 rfl)
      have kk123 := KO_fr p5 f115 rfl
      have pf124 := PF_k pf0 (frm_a f115 rfl)
      refine And.intro (fun h125 => by exfalso; omega) (fun h125 => ?_)
      refine fun v126 e127 => ?_
      obtain ⟨v128, e129⟩ : ∃ v, v = A112 54 (fd 0) := ⟨_, rfl⟩
      have q130 : v7 = v128 := (e129.trans ((frm_f f115 rfl).trans e107.symm)).symm
      subst q130
      obtain ⟨v131, e132⟩ : ∃ v, v = A112 54 (fd 1) := ⟨_, rfl⟩
      have q133 : v9 = v131 := (e132.trans ((frm_f f115 rfl).trans e110.symm)).symm
      subst q133
      refine And.intro (by omega) (Exists.intro v126 (And.intro rfl (And.intro (And.intro i113 (And.intro j114 (And.intro (by omega) (And.intro (by omega) (And.intro (by rw [← e129]; omega) (And.intro (by rw [← e132]; omega) (And.intro kk123 (by first | assumption | omega | simp_all)))))))) (fun A134 i135 j136 f137 r138 g143 g144 g139 g140 g141 g142 => ?_))))
      have f145 := frm_c f119 f137 rfl
      have t146 := ivf_at j136 12 rfl
      have t147 := ivf_at j136 1 rfl
      have t148 : A134 54 (fd 2) = A112 54 (fd 2) := (frm_f f137 rfl)
      have pf149 := PF_tr pf124 g140 (by omega)
      refine And.intro (fun h150 => ?_) (fun h150 => ?_)
      · exact And.intro (by omega) (hK _ i135 j136 f145 _ (by omega) (by omega) g139 pf149 (by first | assumption | omega | simp_all) (by first | assumption | omega | simp_all))
      · obtain ⟨v151, e152⟩ : ∃ v, v = A134 54 (fd 0) := ⟨_, rfl⟩
        have q153 : v7 = v151 := (e152.trans ((frm_f f137 rfl).trans e129.symm)).symm
        subst q153
        obtain ⟨v154, e155⟩ : ∃ v, v = A134 54 (fd 1) := ⟨_, rfl⟩
        have q156 : v9 = v154 := (e155.trans ((frm_f f137 rfl).trans e132.symm)).symm
        subst q156
        refine Exists.intro 41 (And.intro rfl (And.intro (And.intro i135 (And.intro j136 (And.intro (by omega) (And.intro (by omega) (And.intro (by rw [← e152]; omega) (And.intro (by rw [← e155]; omega) (And.intro g139 (by first | assumption | omega | simp_all)))))))) (fun A157 i158 j159 f160 r161 g163 g164 g162 => ?_)))
        have f165 := frm_c f145 f160 rfl
        have t166 : A157 71 (fd 8) = A134 71 (fd 8) := (frm_f f160 rfl)
        have t167 := ivf_at j159 1 rfl
        have t168 : A157 54 (fd 2) = A134 54 (fd 2) := (frm_f f160 rfl)
        have kk169 := KO_fr g139 f160 rfl
        have pf170 := PF_k pf149 (frm_a f160 rfl)
        refine And.intro (fun h171 => ?_) (fun h171 => ?_)
        · exact And.intro (by omega) (hK _ i158 j159 f165 _ (by omega) (by omega) kk169 pf170 (by first | assumption | omega | simp_all) (by first | assumption | omega | simp_all))
        · exact And.intro (by omega) (hK _ i158 j159 f165 _ (by omega) (by omega) kk169 pf170 (by first | assumption | omega | simp_all) (by first | assumption | omega | simp_all))
def sC_readPart5_71 : qS := fun as A K => ∃ d : Int, as = [rf 54, ni d] ∧ (iva IC A ∧ ivf JC A ∧ 5 ≤ d ∧ d ≤ 5 ∧ (52 ≤ A 54 (fd 0) ∧ A 54 (fd 0) ≤ 52) ∧ (71 ≤ A 54 (fd 1) ∧ A 54 (fd 1) ≤ 71) ∧ (KO A) ∧ (A 71 (fd 8) ≤ A 54 (fd 3))) ∧ (∀ A' : qA, iva IC A' → ivf JC A' → frm [72, 73] [(71, 8), (54, 3), (54, 4)] A A' → ∀ r : Int, 0 ≤ r → r ≤ 1 → (KO A') → (PF 71 A A') → (A 71 (fd 8) ≤ A' 71 (fd 8)) → (A' 71 (fd 8) + A 54 (fd 3) ≤ A 71 (fd 8) + A' 54 (fd 3)) → K (some (ni r)) A')
theorem okC_readPart5_71 : okM LC 11 53 sC_readPart5_71 := by
  refine qmeth [(54, 0, 52), (54, 1, 71)] false [(55, sC_readPiece5_71), (46, sC_look_71), (54, sC_readJump_71)] 40 rfl ⟨okC_readPiece5_71.le (by decide), ⟨okC_look_71.le (by decide), ⟨okC_readJump_71.le (by decide), trivial⟩⟩⟩ ?_
  rintro _ A K hA has ⟨d, rfl, ⟨i0, j0, p1, p2, p3, p4, p5, p6⟩, hK⟩
  have rg_d : rng d := has (ni d) (by simp)
  have f0 := frm_0 [72, 73] [(71, 8), (54, 3), (54, 4)] A
  obtain ⟨v7, e8⟩ : ∃ v, v = A 54 (fd 0) := ⟨_, rfl⟩
  rw [← e8] at p3
  obtain ⟨v9, e10⟩ : ∃ v, v = A 54 (fd 1) := ⟨_, rfl⟩
  rw [← e10] at p4
  have pf0 := PF_rf 71 A
  have hb_71_8 := ivf_at j0 12 rfl
  have hb_54_3 := ivf_at j0 1 rfl
  have hb_54_2 := ivf_at j0 0 rfl
  refine ⟨Nat.le_of_ble_eq_true rfl, [(6, [(0, 2, 54), (1, 0, 0), (2, 0, 0), (3, 0, 0)], fun zs B nn => match zs with | [l1, w, i] => iva IC B ∧ ivf JC B ∧ frm [72, 73] [(71, 8), (54, 3), (54, 4)] A B ∧ nn = (200 - i : Int).toNat ∧ (52 ≤ B 54 (fd 0) ∧ B 54 (fd 0) ≤ 52) ∧ (71 ≤ B 54 (fd 1) ∧ B 54 (fd 1) ≤ 71) ∧ (l1 = d) ∧ (0 ≤ i) ∧ (i ≤ 200) ∧ (0 ≤ w) ∧ (w ≤ 1) ∧ (KO B) ∧ (PF 71 A B) ∧ (A 71 (fd 8) ≤ B 71 (fd 8)) ∧ (B 71 (fd 8) + A 54 (fd 3) ≤ A 71 (fd 8) + B 54 (fd 3)) ∧ (B 71 (fd 8) ≤ B 54 (fd 3)) | _ => False)], ?_, ?_⟩
  · refine ⟨⟨rfl, ?_⟩, trivial⟩
    · refine fun l1 w i B mm hB hz hI => ?_
      obtain ⟨i1, j1, f1, hm, d0, d1, c0, c1, c2, c3, c4, c5, c6, c7, c8, c9⟩ := hI
      obtain ⟨hz_l1, hz_w, hz_i, _⟩ := hz
      obtain ⟨v39, e40⟩ : ∃ v, v = B 54 (fd 0) := ⟨_, rfl⟩
      rw [← e40] at d0
      obtain ⟨v41, e42⟩ : ∃ v, v = B 54 (fd 1) := ⟨_, rfl⟩
      rw [← e42] at d1
      have hc_71_8 := ivf_at j1 12 rfl
      have hc_54_3 := ivf_at j1 1 rfl
      have hc_54_2 := ivf_at j1 0 rfl
      have hc_t : B 54 (fd 2) = A 54 (fd 2) := frm_f f1 rfl
      have hc_w : B 53 = A 53 := frm_a f1 rfl
      refine And.intro (fun h43 => ?_) (fun h43 => ?_)
      · exact And.intro (by omega) (hK _ i1 j1 f1 _ (by omega) (by omega) c5 c6 (by first | assumption | omega | simp_all) (by first | assumption | omega | simp_all))
      · refine And.intro (fun h44 => ?_) (fun h44 => ?_)
        · exact And.intro (by omega) (hK _ i1 j1 f1 _ (by omega) (by omega) c5 c6 (by first | assumption | omega | simp_all) (by first | assumption | omega | simp_all))
        · obtain ⟨v45, e46⟩ : ∃ v, v = B 54 (fd 0) := ⟨_, rfl⟩
          have q47 : v39 = v45 := (e46.trans e40.symm).symm
          subst q47
          obtain ⟨v48, e49⟩ : ∃ v, v = B 54 (fd 1) := ⟨_, rfl⟩
          have q50 : v41 = v48 := (e49.trans e42.symm).symm
          subst q50
          refine And.intro rfl (And.intro (And.intro i1 (And.intro j1 (And.intro (by rw [← e46]; omega) (by rw [← e49]; omega)))) (fun r51 g53 g54 g52 => ?_))
          refine And.intro (fun h55 => ?_) (fun h55 => ?_)
          · exact And.intro (by omega) (hK _ i1 j1 f1 _ (by omega) (by omega) c5 c6 (by first | assumption | omega | simp_all) (by first | assumption | omega | simp_all))
          · obtain ⟨v56, e57⟩ : ∃ v, v = B 54 (fd 0) := ⟨_, rfl⟩
            have q58 : v39 = v56 := (e57.trans e46.symm).symm
            subst q58
            obtain ⟨v59, e60⟩ : ∃ v, v = B 54 (fd 1) := ⟨_, rfl⟩
            have q61 : v41 = v59 := (e60.trans e49.symm).symm
            subst q61
            refine And.intro rfl (And.intro (And.intro i1 (And.intro j1 (And.intro (by rw [← e57]; omega) (And.intro (by rw [← e60]; omega) (And.intro c5 (And.intro (by first | assumption | omega | simp_all) (And.intro (by first | assumption | omega | simp_all) (by first | assumption | omega | simp_all)))))))) (fun A62 i63 j64 f65 r66 g73 g74 g67 g68 g69 g70 g71 g72 => ?_))
            have f75 := frm_c f1 f65 rfl
            have t76 := ivf_at j64 12 rfl
            have t77 := ivf_at j64 1 rfl
            have t78 : A62 54 (fd 2) = B 54 (fd 2) := (frm_f f65 rfl)
            have pf79 := PF_tr c6 g68 (by omega)
            obtain ⟨v80, e81⟩ : ∃ v, v = A62 54 (fd 0) := ⟨_, rfl⟩
            have q82 : v39 = v80 := (e81.trans ((frm_f f65 rfl).trans e57.symm)).symm
            subst q82
            obtain ⟨v83, e84⟩ : ∃ v, v = A62 54 (fd 1) := ⟨_, rfl⟩
            have q85 : v41 = v83 := (e84.trans ((frm_f f65 rfl).trans e60.symm)).symm
            subst q85
            refine Exists.intro l1 (And.intro rfl (And.intro (And.intro i63 (And.intro j64 (And.intro (by omega) (And.intro (by omega) (And.intro (by rw [← e81]; omega) (And.intro (by rw [← e84]; omega) (And.intro g67 (by first | assumption | omega | simp_all)))))))) (fun A86 i87 j88 f89 r90 g95 g96 g91 g92 g93 g94 => ?_)))
            have f97 := frm_c f75 f89 rfl
            have t98 := ivf_at j88 12 rfl
            have t99 := ivf_at j88 1 rfl
            have t100 : A86 54 (fd 2) = A62 54 (fd 2) := (frm_f f89 rfl)
            have pf101 := PF_tr pf79 g92 (by omega)
            obtain ⟨v102, e103⟩ : ∃ v, v = A86 54 (fd 1) := ⟨_, rfl⟩
            have q104 : v41 = v102 := (e103.trans ((frm_f f89 rfl).trans e84.symm)).symm
            subst q104
            refine And.intro (show A86 54 (fd 1) = ((71 : Nat) : Int) by omega) ?_
            obtain ⟨v105, e106⟩ : ∃ v, v = A86 54 (fd 1) := ⟨_, rfl⟩
            have q107 : v41 = v105 := (e106.trans e103.symm).symm
            subst q107
            refine And.intro (show A86 54 (fd 1) = ((71 : Nat) : Int) by omega) ?_
            refine fun v108 gv108 e109 => ?_
            have b110 := ivf_at j88 12 rfl
            have hjump : A86 72 r66 ≠ 107 := by have q1 := g92 r66 (by omega) (by omega); simp only [Nat.reduceAdd] at q1; have q2 := g72; omega
            refine And.intro (by omega) (fun A111 e112 => ?_)
            have i113 := iva_st i87 e112 (And.intro (by omega) trivial)
            have j114 := ivf_sa j88 e112 rfl
            have f115 := frm_s f97 e112 rfl
            have t116 : A111 71 (fd 8) = A86 71 (fd 8) := (congrFun (st_a e112 rfl) _)
            have t117 : A111 54 (fd 3) = A86 54 (fd 3) := (congrFun (st_a e112 rfl) _)
            have t118 : A111 54 (fd 2) = A86 54 (fd 2) := (congrFun (st_a e112 rfl) _)
            have kk119 := KO_o73 g91 e112 hjump
            have pf120 := PF_k pf101 (st_a e112 rfl)
            refine fun v121 e122 => ?_
            obtain ⟨v123, e124⟩ : ∃ v, v = A111 54 (fd 0) := ⟨_, rfl⟩
            have q125 : v39 = v123 := (e124.trans ((Eq.trans (congrFun (st_a e112 rfl) _) (frm_f f89 rfl)).trans e81.symm)).symm
            subst q125
            obtain ⟨v126, e127⟩ : ∃ v, v = A111 54 (fd 1) := ⟨_, rfl⟩
            have q128 : v41 = v126 := (e127.trans ((congrFun (st_a e112 rfl) _).trans e106.symm)).symm
            subst q128
            exact And.intro (by omega) (Exists.intro (200 - v121 : Int).toNat (And.intro (by omega) (And.intro i113 (And.intro j114 (And.intro f115 (And.intro rfl (And.intro (by rw [← e124]; omega) (And.intro (by rw [← e127]; omega) (And.intro (by omega) (And.intro (by omega) (And.intro (by omega) (And.intro (by omega) (And.intro (by omega) (And.intro kk119 (And.intro pf120 (And.intro (by omega) (And.intro (by omega) (by omega))))))))))))))))))
  · obtain ⟨v11, e12⟩ : ∃ v, v = A 54 (fd 0) := ⟨_, rfl⟩
    have q13 : v7 = v11 := (e12.trans e8.symm).symm
    subst q13
    obtain ⟨v14, e15⟩ : ∃ v, v = A 54 (fd 1) := ⟨_, rfl⟩
    have q16 : v9 = v14 := (e15.trans e10.symm).symm
    subst q16
    refine Exists.intro d (And.intro rfl (And.intro (And.intro i0 (And.intro j0 (And.intro (by omega) (And.intro (by omega) (And.intro (by rw [← e12]; omega) (And.intro (by rw [← e15]; omega) (And.intro p5 (by first | assumption | omega | simp_all)))))))) (fun A17 i18 j19 f20 r21 g26 g27 g22 g23 g24 g25 => ?_)))
    have f28 := frm_c f0 f20 rfl
    have t29 := ivf_at j19 12 rfl
    have t30 := ivf_at j19 1 rfl
    have t31 : A17 54 (fd 2) = A 54 (fd 2) := (frm_f f20 rfl)
    have pf32 := PF_tr pf0 g23 (by omega)
    obtain ⟨v33, e34⟩ : ∃ v, v = A17 54 (fd 0) := ⟨_, rfl⟩
    have q35 : v7 = v33 := (e34.trans ((frm_f f20 rfl).trans e12.symm)).symm
    subst q35
    obtain ⟨v36, e37⟩ : ∃ v, v = A17 54 (fd 1) := ⟨_, rfl⟩
    have q38 : v9 = v36 := (e37.trans ((frm_f f20 rfl).trans e15.symm)).symm
    subst q38
    exact Exists.intro (200 - 0 : Int).toNat (And.intro i18 (And.intro j19 (And.intro f28 (And.intro rfl (And.intro (by rw [← e34]; omega) (And.intro (by rw [← e37]; omega) (And.intro (by omega) (And.intro (by omega) (And.intro (by omega) (And.intro (by omega) (And.intro (by omega) (And.intro g22 (And.intro pf32 (And.intro (by omega) (And.intro (by omega) (by omega))))))))))))))))
def sC_readCondition5_71 : qS := fun as A K => ∃ d : Int, as = [rf 54, ni d] ∧ (iva IC A ∧ ivf JC A ∧ 5 ≤ d ∧ d ≤ 5 ∧ (52 ≤ A 54 (fd 0) ∧ A 54 (fd 0) ≤ 52) ∧ (71 ≤ A 54 (fd 1) ∧ A 54 (fd 1) ≤ 71) ∧ (KO A) ∧ (A 71 (fd 8) ≤ A 54 (fd 3))) ∧ (∀ A' : qA, iva IC A' → ivf JC A' → frm [72, 73] [(71, 8), (54, 3), (54, 4)] A A' → ∀ r : Int, 0 ≤ r → r ≤ 1 → (KO A') → (PF 71 A A') → (A 71 (fd 8) ≤ A' 71 (fd 8)) → (A' 71 (fd 8) + A 54 (fd 3) ≤ A 71 (fd 8) + A' 54 (fd 3)) → K (some (ni r)) A')
theorem okC_readCondition5_71 : okM LC 12 52 sC_readCondition5_71 := by
  refine qmeth [(54, 0, 52), (54, 1, 71)] false [(53, sC_readPart5_71), (46, sC_look_71), (54, sC_readJump_71)] 40 rfl ⟨okC_readPart5_71.le (by decide), ⟨okC_look_71.le (by decide), ⟨okC_readJump_71.le (by decide), trivial⟩⟩⟩ ?_
  rintro _ A K hA has ⟨d, rfl, ⟨i0, j0, p1, p2, p3, p4, p5, p6⟩, hK⟩
  have rg_d : rng d := has (ni d) (by simp)
  have f0 := frm_0 [72, 73] [(71, 8), (54, 3), (54, 4)] A
  obtain ⟨v7, e8⟩ : ∃ v, v = A 54 (fd 0) := ⟨_, rfl⟩
  rw [← e8] at p3
  obtain ⟨v9, e10⟩ : ∃ v, v = A 54 (fd 1) := ⟨_, rfl⟩
  rw [← e10] at p4
  have pf0 := PF_rf 71 A
  have hb_71_8 := ivf_at j0 12 rfl
  have hb_54_3 := ivf_at j0 1 rfl
  have hb_54_2 := ivf_at j0 0 rfl
  refine ⟨Nat.le_of_ble_eq_true rfl, [(6, [(0, 2, 54), (1, 0, 0), (2, 0, 0), (3, 0, 0)], fun zs B nn => match zs with | [l1, w, i] => iva IC B ∧ ivf JC B ∧ frm [72, 73] [(71, 8), (54, 3), (54, 4)] A B ∧ nn = (200 - i : Int).toNat ∧ (52 ≤ B 54 (fd 0) ∧ B 54 (fd 0) ≤ 52) ∧ (71 ≤ B 54 (fd 1) ∧ B 54 (fd 1) ≤ 71) ∧ (l1 = d) ∧ (0 ≤ i) ∧ (i ≤ 200) ∧ (0 ≤ w) ∧ (w ≤ 1) ∧ (KO B) ∧ (PF 71 A B) ∧ (A 71 (fd 8) ≤ B 71 (fd 8)) ∧ (B 71 (fd 8) + A 54 (fd 3) ≤ A 71 (fd 8) + B 54 (fd 3)) ∧ (B 71 (fd 8) ≤ B 54 (fd 3)) | _ => False)], ?_, ?_⟩
  · refine ⟨⟨rfl, ?_⟩, trivial⟩
    · refine fun l1 w i B mm hB hz hI => ?_
      obtain ⟨i1, j1, f1, hm, d0, d1, c0, c1, c2, c3, c4, c5, c6, c7, c8, c9⟩ := hI
      obtain ⟨hz_l1, hz_w, hz_i, _⟩ := hz
      obtain ⟨v39, e40⟩ : ∃ v, v = B 54 (fd 0) := ⟨_, rfl⟩
      rw [← e40] at d0
      obtain ⟨v41, e42⟩ : ∃ v, v = B 54 (fd 1) := ⟨_, rfl⟩
      rw [← e42] at d1
      have hc_71_8 := ivf_at j1 12 rfl
      have hc_54_3 := ivf_at j1 1 rfl
      have hc_54_2 := ivf_at j1 0 rfl
      have hc_t : B 54 (fd 2) = A 54 (fd 2) := frm_f f1 rfl
      have hc_w : B 53 = A 53 := frm_a f1 rfl
      refine And.intro (fun h43 => ?_) (fun h43 => ?_)
      · exact And.intro (by omega) (hK _ i1 j1 f1 _ (by omega) (by omega) c5 c6 (by first | assumption | omega | simp_all) (by first | assumption | omega | simp_all))
      · refine And.intro (fun h44 => ?_) (fun h44 => ?_)
        · exact And.intro (by omega) (hK _ i1 j1 f1 _ (by omega) (by omega) c5 c6 (by first | assumption | omega | simp_all) (by first | assumption | omega | simp_all))
        · obtain ⟨v45, e46⟩ : ∃ v, v = B 54 (fd 0) := ⟨_, rfl⟩
          have q47 : v39 = v45 := (e46.trans e40.symm).symm
          subst q47
          obtain ⟨v48, e49⟩ : ∃ v, v = B 54 (fd 1) := ⟨_, rfl⟩
          have q50 : v41 = v48 := (e49.trans e42.symm).symm
          subst q50
          refine And.intro rfl (And.intro (And.intro i1 (And.intro j1 (And.intro (by rw [← e46]; omega) (by rw [← e49]; omega)))) (fun r51 g53 g54 g52 => ?_))
          refine And.intro (fun h55 => ?_) (fun h55 => ?_)
          · exact And.intro (by omega) (hK _ i1 j1 f1 _ (by omega) (by omega) c5 c6 (by first | assumption | omega | simp_all) (by first | assumption | omega | simp_all))
          · obtain ⟨v56, e57⟩ : ∃ v, v = B 54 (fd 0) := ⟨_, rfl⟩
            have q58 : v39 = v56 := (e57.trans e46.symm).symm
            subst q58
            obtain ⟨v59, e60⟩ : ∃ v, v = B 54 (fd 1) := ⟨_, rfl⟩
            have q61 : v41 = v59 := (e60.trans e49.symm).symm
            subst q61
            refine And.intro rfl (And.intro (And.intro i1 (And.intro j1 (And.intro (by rw [← e57]; omega) (And.intro (by rw [← e60]; omega) (And.intro c5 (And.intro (by first | assumption | omega | simp_all) (And.intro (by first | assumption | omega | simp_all) (by first | assumption | omega | simp_all)))))))) (fun A62 i63 j64 f65 r66 g73 g74 g67 g68 g69 g70 g71 g72 => ?_))
            have f75 := frm_c f1 f65 rfl
            have t76 := ivf_at j64 12 rfl
            have t77 := ivf_at j64 1 rfl
            have t78 : A62 54 (fd 2) = B 54 (fd 2) := (frm_f f65 rfl)
            have pf79 := PF_tr c6 g68 (by omega)
            obtain ⟨v80, e81⟩ : ∃ v, v = A62 54 (fd 0) := ⟨_, rfl⟩
            have q82 : v39 = v80 := (e81.trans ((frm_f f65 rfl).trans e57.symm)).symm
            subst q82
            obtain ⟨v83, e84⟩ : ∃ v, v = A62 54 (fd 1) := ⟨_, rfl⟩
            have q85 : v41 = v83 := (e84.trans ((frm_f f65 rfl).trans e60.symm)).symm
            subst q85
            refine Exists.intro l1 (And.intro rfl (And.intro (And.intro i63 (And.intro j64 (And.intro (by omega) (And.intro (by omega) (And.intro (by rw [← e81]; omega) (And.intro (by rw [← e84]; omega) (And.intro g67 (by first | assumption | omega | simp_all)))))))) (fun A86 i87 j88 f89 r90 g95 g96 g91 g92 g93 g94 => ?_)))
            have f97 := frm_c f75 f89 rfl
            have t98 := ivf_at j88 12 rfl
            have t99 := ivf_at j88 1 rfl
            have t100 : A86 54 (fd 2) = A62 54 (fd 2) := (frm_f f89 rfl)
            have pf101 := PF_tr pf79 g92 (by omega)
            obtain ⟨v102, e103⟩ : ∃ v, v = A86 54 (fd 1) := ⟨_, rfl⟩
            have q104 : v41 = v102 := (e103.trans ((frm_f f89 rfl).trans e84.symm)).symm
            subst q104
            refine And.intro (show A86 54 (fd 1) = ((71 : Nat) : Int) by omega) ?_
            obtain ⟨v105, e106⟩ : ∃ v, v = A86 54 (fd 1) := ⟨_, rfl⟩
            have q107 : v41 = v105 := (e106.trans e103.symm).symm
            subst q107
            refine And.intro (show A86 54 (fd 1) = ((71 : Nat) : Int) by omega) ?_
            refine fun v108 gv108 e109 => ?_
            have b110 := ivf_at j88 12 rfl
            have hjump : A86 72 r66 ≠ 107 := by have q1 := g92 r66 (by omega) (by omega); simp only [Nat.reduceAdd] at q1; have q2 := g72; omega
            refine And.intro (by omega) (fun A111 e112 => ?_)
            have i113 := iva_st i87 e112 (And.intro (by omega) trivial)
            have j114 := ivf_sa j88 e112 rfl
            have f115 := frm_s f97 e112 rfl
            have t116 : A111 71 (fd 8) = A86 71 (fd 8) := (congrFun (st_a e112 rfl) _)
            have t117 : A111 54 (fd 3) = A86 54 (fd 3) := (congrFun (st_a e112 rfl) _)
            have t118 : A111 54 (fd 2) = A86 54 (fd 2) := (congrFun (st_a e112 rfl) _)
            have kk119 := KO_o73 g91 e112 hjump
            have pf120 := PF_k pf101 (st_a e112 rfl)
            refine fun v121 e122 => ?_
            obtain ⟨v123, e124⟩ : ∃ v, v = A111 54 (fd 0) := ⟨_, rfl⟩
            have q125 : v39 = v123 := (e124.trans ((Eq.trans (congrFun (st_a e112 rfl) _) (frm_f f89 rfl)).trans e81.symm)).symm
            subst q125
            obtain ⟨v126, e127⟩ : ∃ v, v = A111 54 (fd 1) := ⟨_, rfl⟩
            have q128 : v41 = v126 := (e127.trans ((congrFun (st_a e112 rfl) _).trans e106.symm)).symm
            subst q128
            exact And.intro (by omega) (Exists.intro (200 - v121 : Int).toNat (And.intro (by omega) (And.intro i113 (And.intro j114 (And.intro f115 (And.intro rfl (And.intro (by rw [← e124]; omega) (And.intro (by rw [← e127]; omega) (And.intro (by omega) (And.intro (by omega) (And.intro (by omega) (And.intro (by omega) (And.intro (by omega) (And.intro kk119 (And.intro pf120 (And.intro (by omega) (And.intro (by omega) (by omega))))))))))))))))))
  · obtain ⟨v11, e12⟩ : ∃ v, v = A 54 (fd 0) := ⟨_, rfl⟩
    have q13 : v7 = v11 := (e12.trans e8.symm).symm
    subst q13
    obtain ⟨v14, e15⟩ : ∃ v, v = A 54 (fd 1) := ⟨_, rfl⟩
    have q16 : v9 = v14 := (e15.trans e10.symm).symm
    subst q16
    refine Exists.intro d (And.intro rfl (And.intro (And.intro i0 (And.intro j0 (And.intro (by omega) (And.intro (by omega) (And.intro (by rw [← e12]; omega) (And.intro (by rw [← e15]; omega) (And.intro p5 (by first | assumption | omega | simp_all)))))))) (fun A17 i18 j19 f20 r21 g26 g27 g22 g23 g24 g25 => ?_)))
    have f28 := frm_c f0 f20 rfl
    have t29 := ivf_at j19 12 rfl
    have t30 := ivf_at j19 1 rfl
    have t31 : A17 54 (fd 2) = A 54 (fd 2) := (frm_f f20 rfl)
    have pf32 := PF_tr pf0 g23 (by omega)
    obtain ⟨v33, e34⟩ : ∃ v, v = A17 54 (fd 0) := ⟨_, rfl⟩
    have q35 : v7 = v33 := (e34.trans ((frm_f f20 rfl).trans e12.symm)).symm
    subst q35
    obtain ⟨v36, e37⟩ : ∃ v, v = A17 54 (fd 1) := ⟨_, rfl⟩
    have q38 : v9 = v36 := (e37.trans ((frm_f f20 rfl).trans e15.symm)).symm
    subst q38
    exact Exists.intro (200 - 0 : Int).toNat (And.intro i18 (And.intro j19 (And.intro f28 (And.intro rfl (And.intro (by rw [← e34]; omega) (And.intro (by rw [← e37]; omega) (And.intro (by omega) (And.intro (by omega) (And.intro (by omega) (And.intro (by omega) (And.intro (by omega) (And.intro g22 (And.intro pf32 (And.intro (by omega) (And.intro (by omega) (by omega))))))))))))))))
def sC_readFactor4_71 : qS := fun as A K => ∃ d : Int, as = [rf 54, ni d] ∧ (iva IC A ∧ ivf JC A ∧ 4 ≤ d ∧ d ≤ 4 ∧ (52 ≤ A 54 (fd 0) ∧ A 54 (fd 0) ≤ 52) ∧ (71 ≤ A 54 (fd 1) ∧ A 54 (fd 1) ≤ 71) ∧ (KO A) ∧ (A 71 (fd 8) ≤ A 54 (fd 3))) ∧ (∀ A' : qA, iva IC A' → ivf JC A' → frm [72, 73] [(71, 8), (54, 3), (54, 4)] A A' → ∀ r : Int, 0 ≤ r → r ≤ 1 → (KO A') → (PF 71 A A') → (A 71 (fd 8) ≤ A' 71 (fd 8)) → (A' 71 (fd 8) + A 54 (fd 3) ≤ A 71 (fd 8) + A' 54 (fd 3)) → K (some (ni r)) A')
theorem okC_readFactor4_71 : okM LC 9 59 sC_readFactor4_71 := by
  refine qmeth [(54, 0, 52), (54, 1, 71)] false [(46, sC_look_71), (60, sC_isDigit), (61, sC_readNumber_71), (75, sC_putr71), (47, sC_fail_71), (49, sC_enter_71), (57, sC_readSum5_71), (48, sC_expect_71)] 60 rfl ⟨okC_look_71.le (by decide), ⟨okC_isDigit.le (by decide), ⟨okC_readNumber_71.le (by decide), ⟨okC_putr71.le (by decide), ⟨okC_fail_71.le (by decide), ⟨okC_enter_71.le (by decide), ⟨okC_readSum5_71.le (by decide), ⟨okC_expect_71.le (by decide), trivial⟩⟩⟩⟩⟩⟩⟩⟩ ?_
  rintro _ A K hA has ⟨d, rfl, ⟨i0, j0, p1, p2, p3, p4, p5, p6⟩, hK⟩
  have rg_d : rng d := has (ni d) (by simp)
  have f0 := frm_0 [72, 73] [(71, 8), (54, 3), (54, 4)] A
  obtain ⟨v7, e8⟩ : ∃ v, v = A 54 (fd 0) := ⟨_, rfl⟩
  rw [← e8] at p3
  obtain ⟨v9, e10⟩ : ∃ v, v = A 54 (fd 1) := ⟨_, rfl⟩
  rw [← e10] at p4
  have pf0 := PF_rf 71 A
  have hb_71_8 := ivf_at j0 12 rfl
  have hb_54_3 := ivf_at j0 1 rfl
  have hb_54_2 := ivf_at j0 0 rfl
  refine ⟨Nat.le_of_ble_eq_true rfl, [], trivial, ?_⟩
  obtain ⟨v11, e12⟩ : ∃ v, v = A 54 (fd 0) := ⟨_, rfl⟩
  have q13 : v7 = v11 := (e12.trans e8.symm).symm
  subst q13
  obtain ⟨v14, e15⟩ : ∃ v, v = A 54 (fd 1) := ⟨_, rfl⟩
  have q16 : v9 = v14 := (e15.trans e10.symm).symm
  subst q16
  refine And.intro rfl (And.intro (And.intro i0 (And.intro j0 (And.intro (by rw [← e12]; omega) (by rw [← e15]; omega)))) (fun r17 g19 g20 g18 => ?_))
  refine And.intro (fun h21 => ?_) (fun h21 => ?_)
  · refine Exists.intro r17 (And.intro rfl (And.intro (fun h22 => ?_) (fun h22 => ?_)))
    · refine And.intro (fun h23 => by exfalso; omega) (fun h23 => ?_)
      obtain ⟨v24, e25⟩ : ∃ v, v = A 54 (fd 0) := ⟨_, rfl⟩
      have q26 : v7 = v24 := (e25.trans e12.symm).symm
      subst q26
      obtain ⟨v27, e28⟩ : ∃ v, v = A 54 (fd 1) := ⟨_, rfl⟩
      have q29 : v9 = v27 := (e28.trans e15.symm).symm
      subst q29
      refine And.intro rfl (And.intro (And.intro i0 (And.intro j0 (And.intro (by rw [← e25]; omega) (And.intro (by rw [← e28]; omega) (And.intro p5 (And.intro (by first | assumption | omega | simp_all) (And.intro (by first | assumption | omega | simp_all) (And.intro (by first | assumption | omega | simp_all) (by first | assumption | omega | simp_all))))))))) (fun A30 i31 j32 f33 r34 g39 g40 g35 g36 g37 g38 => ?_))
      have f41 := frm_c f0 f33 rfl
      have t42 := ivf_at j32 12 rfl
      have t43 := ivf_at j32 1 rfl
      have t44 : A30 54 (fd 2) = A 54 (fd 2) := (frm_f f33 rfl)
      have pf45 := PF_tr pf0 g36 (by omega)
      exact And.intro (by omega) (hK _ i31 j32 f41 _ (by omega) (by omega) g35 pf45 (by first | assumption | omega | simp_all) (by first | assumption | omega | simp_all))
    · refine And.intro (fun h46 => ?_) (fun h46 => by exfalso; omega)
      refine fun v47 e48 => ?_
      have h49 := qone_bd 0 r17
      rw [← e48] at h49
      have h50 := qone_p (s := 0) (x := r17) (by omega)
      refine And.intro (fun h51 => ?_) (fun h51 => ?_)
      · obtain ⟨v52, e53⟩ : ∃ v, v = A 54 (fd 1) := ⟨_, rfl⟩
        have q54 : v9 = v52 := (e53.trans e15.symm).symm
        subst q54
        refine And.intro (show A 54 (fd 1) = ((71 : Nat) : Int) by omega) ?_
        refine fun v55 e56 => ?_
        have h57 := qix_bd 0 r17
        rw [← e56] at h57
        refine Exists.intro 107 (Exists.intro v55 (And.intro rfl (And.intro (And.intro i0 (And.intro j0 (And.intro (by omega) (And.intro (by omega) (And.intro p5 (And.intro (by first | assumption | omega | simp_all) (by first | assumption | omega | simp_all))))))) (fun A58 i59 j60 f61 g62 g63 g64 g65 => ?_))))
        have f66 := frm_c f0 f61 rfl
        have t67 := ivf_at j60 12 rfl
        have t68 : A58 54 (fd 3) = A 54 (fd 3) := (frm_f f61 rfl)
        have t69 : A58 54 (fd 2) = A 54 (fd 2) := (frm_f f61 rfl)
        have pf70 := PF_tr pf0 g63 (by omega)
        refine fun v71 gv71 e72 => ?_
        have b73 := ivf_at j60 1 rfl
        refine fun v74 e75 => ?_
        refine And.intro (by omega) (fun A76 e77 => ?_)
        have i78 := iva_sf i59 e77 rfl
        have j79 := ivf_st j60 e77 (And.intro (by omega) trivial)
        have f80 := frm_sf f66 e77 rfl
        have t81 : A76 71 (fd 8) = A58 71 (fd 8) := (congrFun (st_a e77 rfl) _)
        have t82 := st_v e77
        have t83 : A76 54 (fd 2) = A58 54 (fd 2) := (st_f e77 rfl)
        have kk84 := KO_k g62 (st_a e77 rfl) (st_a e77 rfl) (st_a e77 rfl) (st_a e77 rfl)
        have pf85 := PF_k pf70 (st_a e77 rfl)
        exact And.intro (by omega) (hK _ i78 j79 f80 _ (by omega) (by omega) kk84 pf85 (by first | assumption | omega | simp_all) (by first | assumption | omega | simp_all))
      · obtain ⟨v86, e87⟩ : ∃ v, v = A 54 (fd 0) := ⟨_, rfl⟩
        have q88 : v7 = v86 := (e87.trans e12.symm).symm
        subst q88
        obtain ⟨v89, e90⟩ : ∃ v, v = A 54 (fd 1) := ⟨_, rfl⟩
        have q91 : v9 = v89 := (e90.trans e15.symm).symm
        subst q91
        refine Exists.intro 1 (And.intro rfl (And.intro (And.intro i0 (And.intro j0 (And.intro (by omega) (And.intro (by omega) (And.intro (by rw [← e87]; omega) (by rw [← e90]; omega)))))) (fun A92 i93 j94 f95 => (fun h96 => ?_))))
        · have f97 := frm_c f0 f95 rfl
          have t98 : A92 71 (fd 8) = A 71 (fd 8) := (frm_f f95 rfl)
          have t99 : A92 54 (fd 3) = A 54 (fd 3) := (frm_f f95 rfl)
          have t100 : A92 54 (fd 2) = A 54 (fd 2) := (frm_f f95 rfl)
          have kk101 := KO_fr p5 f95 rfl
          have pf102 := PF_k pf0 (frm_a f95 rfl)
          exact And.intro (by omega) (hK _ i93 j94 f97 _ (by omega) (by omega) kk101 pf102 (by first | assumption | omega | simp_all) (by first | assumption | omega | simp_all))
  · obtain ⟨v103, e104⟩ : ∃ v, v = A 54 (fd 0) := ⟨_, rfl⟩
    have q105 : v7 = v103 := (e104.trans e12.symm).symm
    subst q105
    obtain ⟨v106, e107⟩ : ∃ v, v = A 54 (fd 1) := ⟨_, rfl⟩
    have q108 : v9 = v106 := (e107.trans e15.symm).symm
    subst q108
    refine Exists.intro d (And.intro rfl (And.intro (And.intro i0 (And.intro j0 (And.intro (by omega) (And.intro (by omega) (And.intro (by rw [← e104]; omega) (And.intro (by rw [← e107]; omega) (And.intro p5 (by first | assumption | omega | simp_all)))))))) (fun A109 i110 j111 f112 g113 g114 => (And.intro (fun h115 => ?_) (fun h115 => by exfalso; omega)))))
    · have f116 := frm_c f0 f112 rfl
      have t117 : A109 71 (fd 8) = A 71 (fd 8) := (frm_f f112 rfl)
      have t118 := ivf_at j111 1 rfl
      have t119 : A109 54 (fd 2) = A 54 (fd 2) := (frm_f f112 rfl)
      have kk120 := KO_fr p5 f112 rfl
      have pf121 := PF_k pf0 (frm_a f112 rfl)
      refine And.intro (fun h122 => by exfalso; omega) (fun h122 => ?_)
      refine fun v123 e124 => ?_
      obtain ⟨v125, e126⟩ : ∃ v, v = A109 54 (fd 0) := ⟨_, rfl⟩
      have q127 : v7 = v125 := (e126.trans ((frm_f f112 rfl).trans e104.symm)).symm
      subst q127
      obtain ⟨v128, e129⟩ : ∃ v, v = A109 54 (fd 1) := ⟨_, rfl⟩
      have q130 : v9 = v128 := (e129.trans ((frm_f f112 rfl).trans e107.symm)).symm
      subst q130
      refine And.intro (by omega) (Exists.intro v123 (And.intro rfl (And.intro (And.intro i110 (And.intro j111 (And.intro (by omega) (And.intro (by omega) (And.intro (by rw [← e126]; omega) (And.intro (by rw [← e129]; omega) (And.intro kk120 (by first | assumption | omega | simp_all)))))))) (fun A131 i132 j133 f134 r135 g140 g141 g136 g137 g138 g139 => ?_))))
      have f142 := frm_c f116 f134 rfl
      have t143 := ivf_at j133 12 rfl
      have t144 := ivf_at j133 1 rfl
      have t145 : A131 54 (fd 2) = A109 54 (fd 2) := (frm_f f134 rfl)
      have pf146 := PF_tr pf121 g137 (by omega)
      refine And.intro (fun h147 => ?_) (fun h147 => ?_)
      · exact And.intro (by omega) (hK _ i132 j133 f142 _ (by omega) (by omega) g136 pf146 (by first | assumption | omega | simp_all) (by first | assumption | omega | simp_all))
      · obtain ⟨v148, e149⟩ : ∃ v, v = A131 54 (fd 0) := ⟨_, rfl⟩
        have q150 : v7 = v148 := (e149.trans ((frm_f f134 rfl).trans e126.symm)).symm
        subst q150
        obtain ⟨v151, e152⟩ : ∃ v, v = A131 54 (fd 1) := ⟨_, rfl⟩
        have q153 : v9 = v151 := (e152.trans ((frm_f f134 rfl).trans e129.symm)).symm
        subst q153
        refine Exists.intro 93 (And.intro rfl (And.intro (And.intro i132 (And.intro j133 (And.intro (by omega) (And.intro (by omega) (And.intro (by rw [← e149]; omega) (And.intro (by rw [← e152]; omega) (And.intro g136 (by first | assumption | omega | simp_all)))))))) (fun A154 i155 j156 f157 r158 g160 g161 g159 => ?_)))
        have f162 := frm_c f142 f157 rfl
        have t163 : A154 71 (fd 8) = A131 71 (fd 8) := (frm_f f157 rfl)
        have t164 := ivf_at j156 1 rfl
        have t165 : A154 54 (fd 2) = A131 54 (fd 2) := (frm_f f157 rfl)
        have kk166 := KO_fr g136 f157 rfl
        have pf167 := PF_k pf146 (frm_a f157 rfl)
        refine And.intro (fun h168 => ?_) (fun h168 => ?_)
        · exact And.intro (by omega) (hK _ i155 j156 f162 _ (by omega) (by omega) kk166 pf167 (by first | assumption | omega | simp_all) (by first | assumption | omega | simp_all))
        · exact And.intro (by omega) (hK _ i155 j156 f162 _ (by omega) (by omega) kk166 pf167 (by first | assumption | omega | simp_all) (by first | assumption | omega | simp_all))
def sC_readTerm4_71 : qS := fun as A K => ∃ d : Int, as = [rf 54, ni d] ∧ (iva IC A ∧ ivf JC A ∧ 4 ≤ d ∧ d ≤ 4 ∧ (52 ≤ A 54 (fd 0) ∧ A 54 (fd 0) ≤ 52) ∧ (71 ≤ A 54 (fd 1) ∧ A 54 (fd 1) ≤ 71) ∧ (KO A) ∧ (A 71 (fd 8) ≤ A 54 (fd 3))) ∧ (∀ A' : qA, iva IC A' → ivf JC A' → frm [72, 73] [(71, 8), (54, 3), (54, 4)] A A' → ∀ r : Int, 0 ≤ r → r ≤ 1 → (KO A') → (PF 71 A A') → (A 71 (fd 8) ≤ A' 71 (fd 8)) → (A' 71 (fd 8) + A 54 (fd 3) ≤ A 71 (fd 8) + A' 54 (fd 3)) → K (some (ni r)) A')
theorem okC_readTerm4_71 : okM LC 10 58 sC_readTerm4_71 := by
  refine qmeth [(54, 0, 52), (54, 1, 71)] false [(59, sC_readFactor4_71), (46, sC_look_71), (75, sC_putr71)] 44 rfl ⟨okC_readFactor4_71.le (by decide), ⟨okC_look_71.le (by decide), ⟨okC_putr71.le (by decide), trivial⟩⟩⟩ ?_
  rintro _ A K hA has ⟨d, rfl, ⟨i0, j0, p1, p2, p3, p4, p5, p6⟩, hK⟩
  have rg_d : rng d := has (ni d) (by simp)
  have f0 := frm_0 [72, 73] [(71, 8), (54, 3), (54, 4)] A
  obtain ⟨v7, e8⟩ : ∃ v, v = A 54 (fd 0) := ⟨_, rfl⟩
  rw [← e8] at p3
  obtain ⟨v9, e10⟩ : ∃ v, v = A 54 (fd 1) := ⟨_, rfl⟩
  rw [← e10] at p4
  have pf0 := PF_rf 71 A
  have hb_71_8 := ivf_at j0 12 rfl
  have hb_54_3 := ivf_at j0 1 rfl
  have hb_54_2 := ivf_at j0 0 rfl
  refine ⟨Nat.le_of_ble_eq_true rfl, [(6, [(0, 2, 54), (1, 0, 0), (2, 0, 0), (3, 0, 0)], fun zs B nn => match zs with | [l1, w, i] => iva IC B ∧ ivf JC B ∧ frm [72, 73] [(71, 8), (54, 3), (54, 4)] A B ∧ nn = (200 - i : Int).toNat ∧ (52 ≤ B 54 (fd 0) ∧ B 54 (fd 0) ≤ 52) ∧ (71 ≤ B 54 (fd 1) ∧ B 54 (fd 1) ≤ 71) ∧ (l1 = d) ∧ (0 ≤ i) ∧ (i ≤ 200) ∧ (0 ≤ w) ∧ (w ≤ 1) ∧ (KO B) ∧ (PF 71 A B) ∧ (A 71 (fd 8) ≤ B 71 (fd 8)) ∧ (B 71 (fd 8) + A 54 (fd 3) ≤ A 71 (fd 8) + B 54 (fd 3)) ∧ (B 71 (fd 8) ≤ B 54 (fd 3)) | _ => False)], ?_, ?_⟩
  · refine ⟨⟨rfl, ?_⟩, trivial⟩
    · refine fun l1 w i B mm hB hz hI => ?_
      obtain ⟨i1, j1, f1, hm, d0, d1, c0, c1, c2, c3, c4, c5, c6, c7, c8, c9⟩ := hI
      obtain ⟨hz_l1, hz_w, hz_i, _⟩ := hz
      obtain ⟨v39, e40⟩ : ∃ v, v = B 54 (fd 0) := ⟨_, rfl⟩
      rw [← e40] at d0
      obtain ⟨v41, e42⟩ : ∃ v, v = B 54 (fd 1) := ⟨_, rfl⟩
      rw [← e42] at d1
      have hc_71_8 := ivf_at j1 12 rfl
      have hc_54_3 := ivf_at j1 1 rfl
      have hc_54_2 := ivf_at j1 0 rfl
      have hc_t : B 54 (fd 2) = A 54 (fd 2) := frm_f f1 rfl
      have hc_w : B 53 = A 53 := frm_a f1 rfl
      refine And.intro (fun h43 => ?_) (fun h43 => ?_)
      · exact And.intro (by omega) (hK _ i1 j1 f1 _ (by omega) (by omega) c5 c6 (by first | assumption | omega | simp_all) (by first | assumption | omega | simp_all))
      · refine And.intro (fun h44 => ?_) (fun h44 => ?_)
        · exact And.intro (by omega) (hK _ i1 j1 f1 _ (by omega) (by omega) c5 c6 (by first | assumption | omega | simp_all) (by first | assumption | omega | simp_all))
        · obtain ⟨v45, e46⟩ : ∃ v, v = B 54 (fd 0) := ⟨_, rfl⟩
          have q47 : v39 = v45 := (e46.trans e40.symm).symm
          subst q47
          obtain ⟨v48, e49⟩ : ∃ v, v = B 54 (fd 1) := ⟨_, rfl⟩
          have q50 : v41 = v48 := (e49.trans e42.symm).symm
          subst q50
          refine And.intro rfl (And.intro (And.intro i1 (And.intro j1 (And.intro (by rw [← e46]; omega) (by rw [← e49]; omega)))) (fun r51 g53 g54 g52 => ?_))
          refine fun v55 e56 => ?_
          have h57 := qone_bd 4 r51
          rw [← e56] at h57
          have h58 := qone_p (s := 4) (x := r51) (by omega)
          refine And.intro (fun h59 => ?_) (fun h59 => ?_)
          · exact And.intro (by omega) (hK _ i1 j1 f1 _ (by omega) (by omega) c5 c6 (by first | assumption | omega | simp_all) (by first | assumption | omega | simp_all))
          · obtain ⟨v60, e61⟩ : ∃ v, v = B 54 (fd 0) := ⟨_, rfl⟩
            have q62 : v39 = v60 := (e61.trans e46.symm).symm
            subst q62
            obtain ⟨v63, e64⟩ : ∃ v, v = B 54 (fd 1) := ⟨_, rfl⟩
            have q65 : v41 = v63 := (e64.trans e49.symm).symm
            subst q65
            refine And.intro rfl (And.intro (And.intro i1 (And.intro j1 (And.intro (by rw [← e61]; omega) (by rw [← e64]; omega)))) (fun r66 g68 g69 g67 => ?_))
            refine fun v70 gv70 e71 => ?_
            have b72 := ivf_at j1 1 rfl
            refine fun v73 e74 => ?_
            refine And.intro (by omega) (fun A75 e76 => ?_)
            have i77 := iva_sf i1 e76 rfl
            have j78 := ivf_st j1 e76 (And.intro (by omega) trivial)
            have f79 := frm_sf f1 e76 rfl
            have t80 : A75 71 (fd 8) = B 71 (fd 8) := (congrFun (st_a e76 rfl) _)
            have t81 := st_v e76
            have t82 : A75 54 (fd 2) = B 54 (fd 2) := (st_f e76 rfl)
            have kk83 := KO_k c5 (st_a e76 rfl) (st_a e76 rfl) (st_a e76 rfl) (st_a e76 rfl)
            have pf84 := PF_k c6 (st_a e76 rfl)
            obtain ⟨v85, e86⟩ : ∃ v, v = A75 54 (fd 0) := ⟨_, rfl⟩
            have q87 : v39 = v85 := (e86.trans ((st_f e76 rfl).trans e61.symm)).symm
            subst q87
            obtain ⟨v88, e89⟩ : ∃ v, v = A75 54 (fd 1) := ⟨_, rfl⟩
            have q90 : v41 = v88 := (e89.trans ((st_f e76 rfl).trans e64.symm)).symm
            subst q90
            refine Exists.intro l1 (And.intro rfl (And.intro (And.intro i77 (And.intro j78 (And.intro (by omega) (And.intro (by omega) (And.intro (by rw [← e86]; omega) (And.intro (by rw [← e89]; omega) (And.intro kk83 (by first | assumption | omega | simp_all)))))))) (fun A91 i92 j93 f94 r95 g100 g101 g96 g97 g98 g99 => ?_)))
            have f102 := frm_c f79 f94 rfl
            have t103 := ivf_at j93 12 rfl
            have t104 := ivf_at j93 1 rfl
            have t105 : A91 54 (fd 2) = A75 54 (fd 2) := (frm_f f94 rfl)
            have pf106 := PF_tr pf84 g97 (by omega)
            obtain ⟨v107, e108⟩ : ∃ v, v = A91 54 (fd 1) := ⟨_, rfl⟩
            have q109 : v41 = v107 := (e108.trans ((frm_f f94 rfl).trans e89.symm)).symm
            subst q109
            refine And.intro (show A91 54 (fd 1) = ((71 : Nat) : Int) by omega) ?_
            refine Exists.intro r66 (Exists.intro 0 (And.intro rfl (And.intro (And.intro i92 (And.intro j93 (And.intro (by omega) (And.intro (by omega) (And.intro g96 (And.intro (by first | assumption | omega | simp_all) (by first | assumption | omega | simp_all))))))) (fun A110 i111 j112 f113 g114 g115 g116 g117 => ?_))))
            have f118 := frm_c f102 f113 rfl
            have t119 := ivf_at j112 12 rfl
            have t120 : A110 54 (fd 3) = A91 54 (fd 3) := (frm_f f113 rfl)
            have t121 : A110 54 (fd 2) = A91 54 (fd 2) := (frm_f f113 rfl)
            have pf122 := PF_tr pf106 g115 (by omega)
            refine fun v123 e124 => ?_
            obtain ⟨v125, e126⟩ : ∃ v, v = A110 54 (fd 0) := ⟨_, rfl⟩
            have q127 : v39 = v125 := (e126.trans ((Eq.trans (frm_f f113 rfl) (frm_f f94 rfl)).trans e86.symm)).symm
            subst q127
            obtain ⟨v128, e129⟩ : ∃ v, v = A110 54 (fd 1) := ⟨_, rfl⟩
            have q130 : v41 = v128 := (e129.trans ((frm_f f113 rfl).trans e108.symm)).symm
            subst q130
            exact And.intro (by omega) (Exists.intro (200 - v123 : Int).toNat (And.intro (by omega) (And.intro i111 (And.intro j112 (And.intro f118 (And.intro rfl (And.intro (by rw [← e126]; omega) (And.intro (by rw [← e129]; omega) (And.intro (by omega) (And.intro (by omega) (And.intro (by omega) (And.intro (by omega) (And.intro (by omega) (And.intro g114 (And.intro pf122 (And.intro (by omega) (And.intro (by omega) (by omega))))))))))))))))))
  · obtain ⟨v11, e12⟩ : ∃ v, v = A 54 (fd 0) := ⟨_, rfl⟩
    have q13 : v7 = v11 := (e12.trans e8.symm).symm
    subst q13
    obtain ⟨v14, e15⟩ : ∃ v, v = A 54 (fd 1) := ⟨_, rfl⟩
    have q16 : v9 = v14 := (e15.trans e10.symm).symm
    subst q16
    refine Exists.intro d (And.intro rfl (And.intro (And.intro i0 (And.intro j0 (And.intro (by omega) (And.intro (by omega) (And.intro (by rw [← e12]; omega) (And.intro (by rw [← e15]; omega) (And.intro p5 (by first | assumption | omega | simp_all)))))))) (fun A17 i18 j19 f20 r21 g26 g27 g22 g23 g24 g25 => ?_)))
    have f28 := frm_c f0 f20 rfl
    have t29 := ivf_at j19 12 rfl
    have t30 := ivf_at j19 1 rfl
    have t31 : A17 54 (fd 2) = A 54 (fd 2) := (frm_f f20 rfl)
    have pf32 := PF_tr pf0 g23 (by omega)
    obtain ⟨v33, e34⟩ : ∃ v, v = A17 54 (fd 0) := ⟨_, rfl⟩
    have q35 : v7 = v33 := (e34.trans ((frm_f f20 rfl).trans e12.symm)).symm
    subst q35
    obtain ⟨v36, e37⟩ : ∃ v, v = A17 54 (fd 1) := ⟨_, rfl⟩
    have q38 : v9 = v36 := (e37.trans ((frm_f f20 rfl).trans e15.symm)).symm
    subst q38
    exact Exists.intro (200 - 0 : Int).toNat (And.intro i18 (And.intro j19 (And.intro f28 (And.intro rfl (And.intro (by rw [← e34]; omega) (And.intro (by rw [← e37]; omega) (And.intro (by omega) (And.intro (by omega) (And.intro (by omega) (And.intro (by omega) (And.intro (by omega) (And.intro g22 (And.intro pf32 (And.intro (by omega) (And.intro (by omega) (by omega))))))))))))))))
def sC_readSum4_71 : qS := fun as A K => ∃ d : Int, as = [rf 54, ni d] ∧ (iva IC A ∧ ivf JC A ∧ 4 ≤ d ∧ d ≤ 4 ∧ (52 ≤ A 54 (fd 0) ∧ A 54 (fd 0) ≤ 52) ∧ (71 ≤ A 54 (fd 1) ∧ A 54 (fd 1) ≤ 71) ∧ (KO A) ∧ (A 71 (fd 8) ≤ A 54 (fd 3))) ∧ (∀ A' : qA, iva IC A' → ivf JC A' → frm [72, 73] [(71, 8), (54, 3), (54, 4)] A A' → ∀ r : Int, 0 ≤ r → r ≤ 1 → (KO A') → (PF 71 A A') → (A 71 (fd 8) ≤ A' 71 (fd 8)) → (A' 71 (fd 8) + A 54 (fd 3) ≤ A 71 (fd 8) + A' 54 (fd 3)) → K (some (ni r)) A')
theorem okC_readSum4_71 : okM LC 11 57 sC_readSum4_71 := by
  refine qmeth [(54, 0, 52), (54, 1, 71)] false [(58, sC_readTerm4_71), (46, sC_look_71), (75, sC_putr71)] 44 rfl ⟨okC_readTerm4_71.le (by decide), ⟨okC_look_71.le (by decide), ⟨okC_putr71.le (by decide), trivial⟩⟩⟩ ?_
  rintro _ A K hA has ⟨d, rfl, ⟨i0, j0, p1, p2, p3, p4, p5, p6⟩, hK⟩
  have rg_d : rng d := has (ni d) (by simp)
  have f0 := frm_0 [72, 73] [(71, 8), (54, 3), (54, 4)] A
  obtain ⟨v7, e8⟩ : ∃ v, v = A 54 (fd 0) := ⟨_, rfl⟩
  rw [← e8] at p3
  obtain ⟨v9, e10⟩ : ∃ v, v = A 54 (fd 1) := ⟨_, rfl⟩
  rw [← e10] at p4
  have pf0 := PF_rf 71 A
  have hb_71_8 := ivf_at j0 12 rfl
  have hb_54_3 := ivf_at j0 1 rfl
  have hb_54_2 := ivf_at j0 0 rfl
  refine ⟨Nat.le_of_ble_eq_true rfl, [(6, [(0, 2, 54), (1, 0, 0), (2, 0, 0), (3, 0, 0)], fun zs B nn => match zs with | [l1, w, i] => iva IC B ∧ ivf JC B ∧ frm [72, 73] [(71, 8), (54, 3), (54, 4)] A B ∧ nn = (200 - i : Int).toNat ∧ (52 ≤ B 54 (fd 0) ∧ B 54 (fd 0) ≤ 52) ∧ (71 ≤ B 54 (fd 1) ∧ B 54 (fd 1) ≤ 71) ∧ (l1 = d) ∧ (0 ≤ i) ∧ (i ≤ 200) ∧ (0 ≤ w) ∧ (w ≤ 1) ∧ (KO B) ∧ (PF 71 A B) ∧ (A 71 (fd 8) ≤ B 71 (fd 8)) ∧ (B 71 (fd 8) + A 54 (fd 3) ≤ A 71 (fd 8) + B 54 (fd 3)) ∧ (B 71 (fd 8) ≤ B 54 (fd 3)) | _ => False)], ?_, ?_⟩
  · refine ⟨⟨rfl, ?_⟩, trivial⟩
    · refine fun l1 w i B mm hB hz hI => ?_
      obtain ⟨i1, j1, f1, hm, d0, d1, c0, c1, c2, c3, c4, c5, c6, c7, c8, c9⟩ := hI
      obtain ⟨hz_l1, hz_w, hz_i, _⟩ := hz
      obtain ⟨v39, e40⟩ : ∃ v, v = B 54 (fd 0) := ⟨_, rfl⟩
      rw [← e40] at d0
      obtain ⟨v41, e42⟩ : ∃ v, v = B 54 (fd 1) := ⟨_, rfl⟩
      rw [← e42] at d1
      have hc_71_8 := ivf_at j1 12 rfl
      have hc_54_3 := ivf_at j1 1 rfl
      have hc_54_2 := ivf_at j1 0 rfl
      have hc_t : B 54 (fd 2) = A 54 (fd 2) := frm_f f1 rfl
      have hc_w : B 53 = A 53 := frm_a f1 rfl
      refine And.intro (fun h43 => ?_) (fun h43 => ?_)
      · exact And.intro (by omega) (hK _ i1 j1 f1 _ (by omega) (by omega) c5 c6 (by first | assumption | omega | simp_all) (by first | assumption | omega | simp_all))
      · refine And.intro (fun h44 => ?_) (fun h44 => ?_)
        · exact And.intro (by omega) (hK _ i1 j1 f1 _ (by omega) (by omega) c5 c6 (by first | assumption | omega | simp_all) (by first | assumption | omega | simp_all))
        · obtain ⟨v45, e46⟩ : ∃ v, v = B 54 (fd 0) := ⟨_, rfl⟩
          have q47 : v39 = v45 := (e46.trans e40.symm).symm
          subst q47
          obtain ⟨v48, e49⟩ : ∃ v, v = B 54 (fd 1) := ⟨_, rfl⟩
          have q50 : v41 = v48 := (e49.trans e42.symm).symm
          subst q50
          refine And.intro rfl (And.intro (And.intro i1 (And.intro j1 (And.intro (by rw [← e46]; omega) (by rw [← e49]; omega)))) (fun r51 g53 g54 g52 => ?_))
          refine fun v55 e56 => ?_
          have h57 := qone_bd 3 r51
          rw [← e56] at h57
          have h58 := qone_p (s := 3) (x := r51) (by omega)
          refine And.intro (fun h59 => ?_) (fun h59 => ?_)
          · exact And.intro (by omega) (hK _ i1 j1 f1 _ (by omega) (by omega) c5 c6 (by first | assumption | omega | simp_all) (by first | assumption | omega | simp_all))
          · obtain ⟨v60, e61⟩ : ∃ v, v = B 54 (fd 0) := ⟨_, rfl⟩
            have q62 : v39 = v60 := (e61.trans e46.symm).symm
            subst q62
            obtain ⟨v63, e64⟩ : ∃ v, v = B 54 (fd 1) := ⟨_, rfl⟩
            have q65 : v41 = v63 := (e64.trans e49.symm).symm
            subst q65
            refine And.intro rfl (And.intro (And.intro i1 (And.intro j1 (And.intro (by rw [← e61]; omega) (by rw [← e64]; omega)))) (fun r66 g68 g69 g67 => ?_))
            refine fun v70 gv70 e71 => ?_
            have b72 := ivf_at j1 1 rfl
            refine fun v73 e74 => ?_
            refine And.intro (by omega) (fun A75 e76 => ?_)
            have i77 := iva_sf i1 e76 rfl
            have j78 := ivf_st j1 e76 (And.intro (by omega) trivial)
            have f79 := frm_sf f1 e76 rfl
            have t80 : A75 71 (fd 8) = B 71 (fd 8) := (congrFun (st_a e76 rfl) _)
            have t81 := st_v e76
            have t82 : A75 54 (fd 2) = B 54 (fd 2) := (st_f e76 rfl)
            have kk83 := KO_k c5 (st_a e76 rfl) (st_a e76 rfl) (st_a e76 rfl) (st_a e76 rfl)
            have pf84 := PF_k c6 (st_a e76 rfl)
            obtain ⟨v85, e86⟩ : ∃ v, v = A75 54 (fd 0) := ⟨_, rfl⟩
            have q87 : v39 = v85 := (e86.trans ((st_f e76 rfl).trans e61.symm)).symm
            subst q87
            obtain ⟨v88, e89⟩ : ∃ v, v = A75 54 (fd 1) := ⟨_, rfl⟩
            have q90 : v41 = v88 := (e89.trans ((st_f e76 rfl).trans e64.symm)).symm
            subst q90
            refine Exists.intro l1 (And.intro rfl (And.intro (And.intro i77 (And.intro j78 (And.intro (by omega) (And.intro (by omega) (And.intro (by rw [← e86]; omega) (And.intro (by rw [← e89]; omega) (And.intro kk83 (by first | assumption | omega | simp_all)))))))) (fun A91 i92 j93 f94 r95 g100 g101 g96 g97 g98 g99 => ?_)))
            have f102 := frm_c f79 f94 rfl
            have t103 := ivf_at j93 12 rfl
            have t104 := ivf_at j93 1 rfl
            have t105 : A91 54 (fd 2) = A75 54 (fd 2) := (frm_f f94 rfl)
            have pf106 := PF_tr pf84 g97 (by omega)
            obtain ⟨v107, e108⟩ : ∃ v, v = A91 54 (fd 1) := ⟨_, rfl⟩
            have q109 : v41 = v107 := (e108.trans ((frm_f f94 rfl).trans e89.symm)).symm
            subst q109
            refine And.intro (show A91 54 (fd 1) = ((71 : Nat) : Int) by omega) ?_
            refine Exists.intro r66 (Exists.intro 0 (And.intro rfl (And.intro (And.intro i92 (And.intro j93 (And.intro (by omega) (And.intro (by omega) (And.intro g96 (And.intro (by first | assumption | omega | simp_all) (by first | assumption | omega | simp_all))))))) (fun A110 i111 j112 f113 g114 g115 g116 g117 => ?_))))
            have f118 := frm_c f102 f113 rfl
            have t119 := ivf_at j112 12 rfl
            have t120 : A110 54 (fd 3) = A91 54 (fd 3) := (frm_f f113 rfl)
            have t121 : A110 54 (fd 2) = A91 54 (fd 2) := (frm_f f113 rfl)
            have pf122 := PF_tr pf106 g115 (by omega)
            refine fun v123 e124 => ?_
            obtain ⟨v125, e126⟩ : ∃ v, v = A110 54 (fd 0) := ⟨_, rfl⟩
            have q127 : v39 = v125 := (e126.trans ((Eq.trans (frm_f f113 rfl) (frm_f f94 rfl)).trans e86.symm)).symm
            subst q127
            obtain ⟨v128, e129⟩ : ∃ v, v = A110 54 (fd 1) := ⟨_, rfl⟩
            have q130 : v41 = v128 := (e129.trans ((frm_f f113 rfl).trans e108.symm)).symm
            subst q130
            exact And.intro (by omega) (Exists.intro (200 - v123 : Int).toNat (And.intro (by omega) (And.intro i111 (And.intro j112 (And.intro f118 (And.intro rfl (And.intro (by rw [← e126]; omega) (And.intro (by rw [← e129]; omega) (And.intro (by omega) (And.intro (by omega) (And.intro (by omega) (And.intro (by omega) (And.intro (by omega) (And.intro g114 (And.intro pf122 (And.intro (by omega) (And.intro (by omega) (by omega))))))))))))))))))
  · obtain ⟨v11, e12⟩ : ∃ v, v = A 54 (fd 0) := ⟨_, rfl⟩
    have q13 : v7 = v11 := (e12.trans e8.symm).symm
    subst q13
    obtain ⟨v14, e15⟩ : ∃ v, v = A 54 (fd 1) := ⟨_, rfl⟩
    have q16 : v9 = v14 := (e15.trans e10.symm).symm
    subst q16
    refine Exists.intro d (And.intro rfl (And.intro (And.intro i0 (And.intro j0 (And.intro (by omega) (And.intro (by omega) (And.intro (by rw [← e12]; omega) (And.intro (by rw [← e15]; omega) (And.intro p5 (by first | assumption | omega | simp_all)))))))) (fun A17 i18 j19 f20 r21 g26 g27 g22 g23 g24 g25 => ?_)))
    have f28 := frm_c f0 f20 rfl
    have t29 := ivf_at j19 12 rfl
    have t30 := ivf_at j19 1 rfl
    have t31 : A17 54 (fd 2) = A 54 (fd 2) := (frm_f f20 rfl)
    have pf32 := PF_tr pf0 g23 (by omega)
    obtain ⟨v33, e34⟩ : ∃ v, v = A17 54 (fd 0) := ⟨_, rfl⟩
    have q35 : v7 = v33 := (e34.trans ((frm_f f20 rfl).trans e12.symm)).symm
    subst q35
    obtain ⟨v36, e37⟩ : ∃ v, v = A17 54 (fd 1) := ⟨_, rfl⟩
    have q38 : v9 = v36 := (e37.trans ((frm_f f20 rfl).trans e15.symm)).symm
    subst q38
    exact Exists.intro (200 - 0 : Int).toNat (And.intro i18 (And.intro j19 (And.intro f28 (And.intro rfl (And.intro (by rw [← e34]; omega) (And.intro (by rw [← e37]; omega) (And.intro (by omega) (And.intro (by omega) (And.intro (by omega) (And.intro (by omega) (And.intro (by omega) (And.intro g22 (And.intro pf32 (And.intro (by omega) (And.intro (by omega) (by omega))))))))))))))))
def sC_readComparison4_71 : qS := fun as A K => ∃ d : Int, as = [rf 54, ni d] ∧ (iva IC A ∧ ivf JC A ∧ 4 ≤ d ∧ d ≤ 4 ∧ (52 ≤ A 54 (fd 0) ∧ A 54 (fd 0) ≤ 52) ∧ (71 ≤ A 54 (fd 1) ∧ A 54 (fd 1) ≤ 71) ∧ (KO A) ∧ (A 71 (fd 8) ≤ A 54 (fd 3))) ∧ (∀ A' : qA, iva IC A' → ivf JC A' → frm [72, 73] [(71, 8), (54, 3), (54, 4)] A A' → ∀ r : Int, 0 ≤ r → r ≤ 1 → (KO A') → (PF 71 A A') → (A 71 (fd 8) ≤ A' 71 (fd 8)) → (A' 71 (fd 8) + A 54 (fd 3) ≤ A 71 (fd 8) + A' 54 (fd 3)) → K (some (ni r)) A')
theorem okC_readComparison4_71 : okM LC 12 56 sC_readComparison4_71 := by
  refine qmeth [(54, 0, 52), (54, 1, 71)] false [(57, sC_readSum4_71), (46, sC_look_71), (75, sC_putr71), (47, sC_fail_71)] 42 rfl ⟨okC_readSum4_71.le (by decide), ⟨okC_look_71.le (by decide), ⟨okC_putr71.le (by decide), ⟨okC_fail_71.le (by decide), trivial⟩⟩⟩⟩ ?_
  rintro _ A K hA has ⟨d, rfl, ⟨i0, j0, p1, p2, p3, p4, p5, p6⟩, hK⟩
  have rg_d : rng d := has (ni d) (by simp)
  have f0 := frm_0 [72, 73] [(71, 8), (54, 3), (54, 4)] A
  obtain ⟨v7, e8⟩ : ∃ v, v = A 54 (fd 0) := ⟨_, rfl⟩
  rw [← e8] at p3
  obtain ⟨v9, e10⟩ : ∃ v, v = A 54 (fd 1) := ⟨_, rfl⟩
  rw [← e10] at p4
  have pf0 := PF_rf 71 A
  have hb_71_8 := ivf_at j0 12 rfl
  have hb_54_3 := ivf_at j0 1 rfl
  have hb_54_2 := ivf_at j0 0 rfl
  refine ⟨Nat.le_of_ble_eq_true rfl, [], trivial, ?_⟩
  obtain ⟨v11, e12⟩ : ∃ v, v = A 54 (fd 0) := ⟨_, rfl⟩
  have q13 : v7 = v11 := (e12.trans e8.symm).symm
  subst q13
  obtain ⟨v14, e15⟩ : ∃ v, v = A 54 (fd 1) := ⟨_, rfl⟩
  have q16 : v9 = v14 := (e15.trans e10.symm).symm
  subst q16
  refine Exists.intro d (And.intro rfl (And.intro (And.intro i0 (And.intro j0 (And.intro (by omega) (And.intro (by omega) (And.intro (by rw [← e12]; omega) (And.intro (by rw [← e15]; omega) (And.intro p5 (by first | assumption | omega | simp_all)))))))) (fun A17 i18 j19 f20 r21 g26 g27 g22 g23 g24 g25 => ?_)))
  have f28 := frm_c f0 f20 rfl
  have t29 := ivf_at j19 12 rfl
  have t30 := ivf_at j19 1 rfl
  have t31 : A17 54 (fd 2) = A 54 (fd 2) := (frm_f f20 rfl)
  have pf32 := PF_tr pf0 g23 (by omega)
  refine And.intro (fun h33 => ?_) (fun h33 => ?_)
  · obtain ⟨v34, e35⟩ : ∃ v, v = A17 54 (fd 0) := ⟨_, rfl⟩
    have q36 : v7 = v34 := (e35.trans ((frm_f f20 rfl).trans e12.symm)).symm
    subst q36
    obtain ⟨v37, e38⟩ : ∃ v, v = A17 54 (fd 1) := ⟨_, rfl⟩
    have q39 : v9 = v37 := (e38.trans ((frm_f f20 rfl).trans e15.symm)).symm
    subst q39
    refine And.intro rfl (And.intro (And.intro i18 (And.intro j19 (And.intro (by rw [← e35]; omega) (by rw [← e38]; omega)))) (fun r40 g42 g43 g41 => ?_))
    refine fun v44 e45 => ?_
    have h46 := qone_bd 2 r40
    rw [← e45] at h46
    have h47 := qone_p (s := 2) (x := r40) (by omega)
    refine And.intro (fun h48 => ?_) (fun h48 => ?_)
    · refine fun v49 gv49 e50 => ?_
      have b51 := ivf_at j19 1 rfl
      refine fun v52 e53 => ?_
      refine And.intro (by omega) (fun A54 e55 => ?_)
      have i56 := iva_sf i18 e55 rfl
      have j57 := ivf_st j19 e55 (And.intro (by omega) trivial)
      have f58 := frm_sf f28 e55 rfl
      have t59 : A54 71 (fd 8) = A17 71 (fd 8) := (congrFun (st_a e55 rfl) _)
      have t60 := st_v e55
      have t61 : A54 54 (fd 2) = A17 54 (fd 2) := (st_f e55 rfl)
      have kk62 := KO_k g22 (st_a e55 rfl) (st_a e55 rfl) (st_a e55 rfl) (st_a e55 rfl)
      have pf63 := PF_k pf32 (st_a e55 rfl)
      obtain ⟨v64, e65⟩ : ∃ v, v = A54 54 (fd 0) := ⟨_, rfl⟩
      have q66 : v7 = v64 := (e65.trans ((st_f e55 rfl).trans e35.symm)).symm
      subst q66
      obtain ⟨v67, e68⟩ : ∃ v, v = A54 54 (fd 1) := ⟨_, rfl⟩
      have q69 : v9 = v67 := (e68.trans ((st_f e55 rfl).trans e38.symm)).symm
      subst q69
      refine Exists.intro d (And.intro rfl (And.intro (And.intro i56 (And.intro j57 (And.intro (by omega) (And.intro (by omega) (And.intro (by rw [← e65]; omega) (And.intro (by rw [← e68]; omega) (And.intro kk62 (by first | assumption | omega | simp_all)))))))) (fun A70 i71 j72 f73 r74 g79 g80 g75 g76 g77 g78 => ?_)))
      have f81 := frm_c f58 f73 rfl
      have t82 := ivf_at j72 12 rfl
      have t83 := ivf_at j72 1 rfl
      have t84 : A70 54 (fd 2) = A54 54 (fd 2) := (frm_f f73 rfl)
      have pf85 := PF_tr pf63 g76 (by omega)
      refine And.intro (fun h86 => ?_) (fun h86 => ?_)
      · obtain ⟨v87, e88⟩ : ∃ v, v = A70 54 (fd 1) := ⟨_, rfl⟩
        have q89 : v9 = v87 := (e88.trans ((frm_f f73 rfl).trans e68.symm)).symm
        subst q89
        refine And.intro (show A70 54 (fd 1) = ((71 : Nat) : Int) by omega) ?_
        refine Exists.intro r40 (Exists.intro 0 (And.intro rfl (And.intro (And.intro i71 (And.intro j72 (And.intro (by omega) (And.intro (by omega) (And.intro g75 (And.intro (by first | assumption | omega | simp_all) (by first | assumption | omega | simp_all))))))) (fun A90 i91 j92 f93 g94 g95 g96 g97 => ?_))))
        have f98 := frm_c f81 f93 rfl
        have t99 := ivf_at j92 12 rfl
        have t100 : A90 54 (fd 3) = A70 54 (fd 3) := (frm_f f93 rfl)
        have t101 : A90 54 (fd 2) = A70 54 (fd 2) := (frm_f f93 rfl)
        have pf102 := PF_tr pf85 g95 (by omega)
        exact And.intro (by omega) (hK _ i91 j92 f98 _ (by omega) (by omega) g94 pf102 (by first | assumption | omega | simp_all) (by first | assumption | omega | simp_all))
      · exact And.intro (by omega) (hK _ i71 j72 f81 _ (by omega) (by omega) g75 pf85 (by first | assumption | omega | simp_all) (by first | assumption | omega | simp_all))
    · obtain ⟨v103, e104⟩ : ∃ v, v = A17 54 (fd 0) := ⟨_, rfl⟩
      have q105 : v7 = v103 := (e104.trans e35.symm).symm
      subst q105
      obtain ⟨v106, e107⟩ : ∃ v, v = A17 54 (fd 1) := ⟨_, rfl⟩
      have q108 : v9 = v106 := (e107.trans e38.symm).symm
      subst q108
      refine Exists.intro 1 (And.intro rfl (And.intro (And.intro i18 (And.intro j19 (And.intro (by omega) (And.intro (by omega) (And.intro (by rw [← e104]; omega) (by rw [← e107]; omega)))))) (fun A109 i110 j111 f112 => (fun h113 => ?_))))
      · have f114 := frm_c f28 f112 rfl
        have t115 : A109 71 (fd 8) = A17 71 (fd 8) := (frm_f f112 rfl)
        have t116 : A109 54 (fd 3) = A17 54 (fd 3) := (frm_f f112 rfl)
        have t117 : A109 54 (fd 2) = A17 54 (fd 2) := (frm_f f112 rfl)
        have kk118 := KO_fr g22 f112 rfl
        have pf119 := PF_k pf32 (frm_a f112 rfl)
        exact And.intro (by omega) (hK _ i110 j111 f114 _ (by omega) (by omega) kk118 pf119 (by first | assumption | omega | simp_all) (by first | assumption | omega | simp_all))
  · exact And.intro (by omega) (hK _ i18 j19 f28 _ (by omega) (by omega) g22 pf32 (by first | assumption | omega | simp_all) (by first | assumption | omega | simp_all))
def sC_readPiece4_71 : qS := fun as A K => ∃ d : Int, as = [rf 54, ni d] ∧ (iva IC A ∧ ivf JC A ∧ 4 ≤ d ∧ d ≤ 4 ∧ (52 ≤ A 54 (fd 0) ∧ A 54 (fd 0) ≤ 52) ∧ (71 ≤ A 54 (fd 1) ∧ A 54 (fd 1) ≤ 71) ∧ (KO A) ∧ (A 71 (fd 8) ≤ A 54 (fd 3))) ∧ (∀ A' : qA, iva IC A' → ivf JC A' → frm [72, 73] [(71, 8), (54, 3), (54, 4)] A A' → ∀ r : Int, 0 ≤ r → r ≤ 1 → (KO A') → (PF 71 A A') → (A 71 (fd 8) ≤ A' 71 (fd 8)) → (A' 71 (fd 8) + A 54 (fd 3) ≤ A 71 (fd 8) + A' 54 (fd 3)) → K (some (ni r)) A')
theorem okC_readPiece4_71 : okM LC 13 55 sC_readPiece4_71 := by
  refine qmeth [(54, 0, 52), (54, 1, 71)] false [(46, sC_look_71), (56, sC_readComparison4_71), (49, sC_enter_71), (55, sC_readPiece5_71), (75, sC_putr71), (52, sC_readCondition5_71), (48, sC_expect_71)] 56 rfl ⟨okC_look_71.le (by decide), ⟨okC_readComparison4_71.le (by decide), ⟨okC_enter_71.le (by decide), ⟨okC_readPiece5_71.le (by decide), ⟨okC_putr71.le (by decide), ⟨okC_readCondition5_71.le (by decide), ⟨okC_expect_71.le (by decide), trivial⟩⟩⟩⟩⟩⟩⟩ ?_
  rintro _ A K hA has ⟨d, rfl, ⟨i0, j0, p1, p2, p3, p4, p5, p6⟩, hK⟩
  have rg_d : rng d := has (ni d) (by simp)
  have f0 := frm_0 [72, 73] [(71, 8), (54, 3), (54, 4)] A
  obtain ⟨v7, e8⟩ : ∃ v, v = A 54 (fd 0) := ⟨_, rfl⟩
  rw [← e8] at p3
  obtain ⟨v9, e10⟩ : ∃ v, v = A 54 (fd 1) := ⟨_, rfl⟩
  rw [← e10] at p4
  have pf0 := PF_rf 71 A
  have hb_71_8 := ivf_at j0 12 rfl
  have hb_54_3 := ivf_at j0 1 rfl
  have hb_54_2 := ivf_at j0 0 rfl
  refine ⟨Nat.le_of_ble_eq_true rfl, [], trivial, ?_⟩
  obtain ⟨v11, e12⟩ : ∃ v, v = A 54 (fd 0) := ⟨_, rfl⟩
  have q13 : v7 = v11 := (e12.trans e8.symm).symm
  subst q13
  obtain ⟨v14, e15⟩ : ∃ v, v = A 54 (fd 1) := ⟨_, rfl⟩
  have q16 : v9 = v14 := (e15.trans e10.symm).symm
  subst q16
  refine And.intro rfl (And.intro (And.intro i0 (And.intro j0 (And.intro (by rw [← e12]; omega) (by rw [← e15]; omega)))) (fun r17 g19 g20 g18 => ?_))
  refine And.intro (fun h21 => ?_) (fun h21 => ?_)
  · refine And.intro (fun h22 => ?_) (fun h22 => ?_)
    · obtain ⟨v23, e24⟩ : ∃ v, v = A 54 (fd 0) := ⟨_, rfl⟩
      have q25 : v7 = v23 := (e24.trans e12.symm).symm
      subst q25
      obtain ⟨v26, e27⟩ : ∃ v, v = A 54 (fd 1) := ⟨_, rfl⟩
      have q28 : v9 = v26 := (e27.trans e15.symm).symm
      subst q28
      refine Exists.intro d (And.intro rfl (And.intro (And.intro i0 (And.intro j0 (And.intro (by omega) (And.intro (by omega) (And.intro (by rw [← e24]; omega) (And.intro (by rw [← e27]; omega) (And.intro p5 (by first | assumption | omega | simp_all)))))))) (fun A29 i30 j31 f32 r33 g38 g39 g34 g35 g36 g37 => ?_)))
      have f40 := frm_c f0 f32 rfl
      have t41 := ivf_at j31 12 rfl
      have t42 := ivf_at j31 1 rfl
      have t43 : A29 54 (fd 2) = A 54 (fd 2) := (frm_f f32 rfl)
      have pf44 := PF_tr pf0 g35 (by omega)
      exact And.intro (by omega) (hK _ i30 j31 f40 _ (by omega) (by omega) g34 pf44 (by first | assumption | omega | simp_all) (by first | assumption | omega | simp_all))
    · obtain ⟨v45, e46⟩ : ∃ v, v = A 54 (fd 0) := ⟨_, rfl⟩
      have q47 : v7 = v45 := (e46.trans e12.symm).symm
      subst q47
      obtain ⟨v48, e49⟩ : ∃ v, v = A 54 (fd 1) := ⟨_, rfl⟩
      have q50 : v9 = v48 := (e49.trans e15.symm).symm
      subst q50
      refine Exists.intro d (And.intro rfl (And.intro (And.intro i0 (And.intro j0 (And.intro (by omega) (And.intro (by omega) (And.intro (by rw [← e46]; omega) (And.intro (by rw [← e49]; omega) (And.intro p5 (by first | assumption | omega | simp_all)))))))) (fun A51 i52 j53 f54 g55 g56 => (And.intro (fun h57 => ?_) (fun h57 => by exfalso; omega)))))
      · have f58 := frm_c f0 f54 rfl
        have t59 : A51 71 (fd 8) = A 71 (fd 8) := (frm_f f54 rfl)
        have t60 := ivf_at j53 1 rfl
        have t61 : A51 54 (fd 2) = A 54 (fd 2) := (frm_f f54 rfl)
        have kk62 := KO_fr p5 f54 rfl
        have pf63 := PF_k pf0 (frm_a f54 rfl)
        refine And.intro (fun h64 => by exfalso; omega) (fun h64 => ?_)
        refine fun v65 e66 => ?_
        obtain ⟨v67, e68⟩ : ∃ v, v = A51 54 (fd 0) := ⟨_, rfl⟩
        have q69 : v7 = v67 := (e68.trans ((frm_f f54 rfl).trans e46.symm)).symm
        subst q69
        obtain ⟨v70, e71⟩ : ∃ v, v = A51 54 (fd 1) := ⟨_, rfl⟩
        have q72 : v9 = v70 := (e71.trans ((frm_f f54 rfl).trans e49.symm)).symm
        subst q72
        refine And.intro (by omega) (Exists.intro v65 (And.intro rfl (And.intro (And.intro i52 (And.intro j53 (And.intro (by omega) (And.intro (by omega) (And.intro (by rw [← e68]; omega) (And.intro (by rw [← e71]; omega) (And.intro kk62 (by first | assumption | omega | simp_all)))))))) (fun A73 i74 j75 f76 r77 g82 g83 g78 g79 g80 g81 => ?_))))
        have f84 := frm_c f58 f76 rfl
        have t85 := ivf_at j75 12 rfl
        have t86 := ivf_at j75 1 rfl
        have t87 : A73 54 (fd 2) = A51 54 (fd 2) := (frm_f f76 rfl)
        have pf88 := PF_tr pf63 g79 (by omega)
        refine And.intro (fun h89 => ?_) (fun h89 => ?_)
        · obtain ⟨v90, e91⟩ : ∃ v, v = A73 54 (fd 1) := ⟨_, rfl⟩
          have q92 : v9 = v90 := (e91.trans ((frm_f f76 rfl).trans e71.symm)).symm
          subst q92
          refine And.intro (show A73 54 (fd 1) = ((71 : Nat) : Int) by omega) ?_
          refine Exists.intro 33 (Exists.intro 0 (And.intro rfl (And.intro (And.intro i74 (And.intro j75 (And.intro (by omega) (And.intro (by omega) (And.intro g78 (And.intro (by first | assumption | omega | simp_all) (by first | assumption | omega | simp_all))))))) (fun A93 i94 j95 f96 g97 g98 g99 g100 => ?_))))
          have f101 := frm_c f84 f96 rfl
          have t102 := ivf_at j95 12 rfl
          have t103 : A93 54 (fd 3) = A73 54 (fd 3) := (frm_f f96 rfl)
          have t104 : A93 54 (fd 2) = A73 54 (fd 2) := (frm_f f96 rfl)
          have pf105 := PF_tr pf88 g98 (by omega)
          exact And.intro (by omega) (hK _ i94 j95 f101 _ (by omega) (by omega) g97 pf105 (by first | assumption | omega | simp_all) (by first | assumption | omega | simp_all))
        · exact And.intro (by omega) (hK _ i74 j75 f84 _ (by omega) (by omega) g78 pf88 (by first | assumption | omega | simp_all) (by first | assumption | omega | simp_all))
  · obtain ⟨v106, e107⟩ : ∃ v, v = A 54 (fd 0) := ⟨_, rfl⟩
    have q108 : v7 = v106 := (e107.trans e12.symm).symm
    subst q108
    obtain ⟨v109, e110⟩ : ∃ v, v = A 54 (fd 1) := ⟨_, rfl⟩
    have q111 : v9 = v109 := (e110.trans e15.symm).symm
    subst q111
    refine Exists.intro d (And.intro rfl (And.intro (And.intro i0 (And.intro j0 (And.intro (by omega) (And.intro (by omega) (And.intro (by rw [← e107]; omega) (And.intro (by rw [← e110]; omega) (And.intro p5 (by first | assumption | omega | simp_all)))))))) (fun A112 i113 j114 f115 g116 g117 => (And.intro (fun h118 => ?_) (fun h118 => by exfalso; omega)))))
    · have f119 := frm_c f0 f115 rfl
      have t120 : A112 71 (fd 8) = A 71 (fd 8) := (frm_f f115 rfl)
      have t121 := ivf_at j114 1 rfl
      have t122 : A112 54 (fd 2) = A 54 (fd 2) := (frm_f f115 rfl)
      have kk123 := KO_fr p5 f115 rfl
      have pf124 := PF_k pf0 (frm_a f115 rfl)
      refine And.intro (fun h125 => by exfalso; omega) (fun h125 => ?_)
      refine fun v126 e127 => ?_
      obtain ⟨v128, e129⟩ : ∃ v, v = A112 54 (fd 0) := ⟨_, rfl⟩
      have q130 : v7 = v128 := (e129.trans ((frm_f f115 rfl).trans e107.symm)).symm
      subst q130
      obtain ⟨v131, e132⟩ : ∃ v, v = A112 54 (fd 1) := ⟨_, rfl⟩
      have q133 : v9 = v131 := (e132.trans ((frm_f f115 rfl).trans e110.symm)).symm
      subst q133
      refine And.intro (by omega) (Exists.intro v126 (And.intro rfl (And.intro (And.intro i113 (And.intro j114 (And.intro (by omega) (And.intro (by omega) (And.intro (by rw [← e129]; omega) (And.intro (by rw [← e132]; omega) (And.intro kk123 (by first | assumption | omega | simp_all)))))))) (fun A134 i135 j136 f137 r138 g143 g144 g139 g140 g141 g142 => ?_))))
      have f145 := frm_c f119 f137 rfl
      have t146 := ivf_at j136 12 rfl
      have t147 := ivf_at j136 1 rfl
      have t148 : A134 54 (fd 2) = A112 54 (fd 2) := (frm_f f137 rfl)
      have pf149 := PF_tr pf124 g140 (by omega)
      refine And.intro (fun h150 => ?_) (fun h150 => ?_)
      · exact And.intro (by omega) (hK _ i135 j136 f145 _ (by omega) (by omega) g139 pf149 (by first | assumption | omega | simp_all) (by first | assumption | omega | simp_all))
      · obtain ⟨v151, e152⟩ : ∃ v, v = A134 54 (fd 0) := ⟨_, rfl⟩
        have q153 : v7 = v151 := (e152.trans ((frm_f f137 rfl).trans e129.symm)).symm
        subst q153
        obtain ⟨v154, e155⟩ : ∃ v, v = A134 54 (fd 1) := ⟨_, rfl⟩
        have q156 : v9 = v154 := (e155.trans ((frm_f f137 rfl).trans e132.symm)).symm
        subst q156
        refine Exists.intro 41 (And.intro rfl (And.intro (And.intro i135 (And.intro j136 (And.intro (by omega) (And.intro (by omega) (And.intro (by rw [← e152]; omega) (And.intro (by rw [← e155]; omega) (And.intro g139 (by first | assumption | omega | simp_all)))))))) (fun A157 i158 j159 f160 r161 g163 g164 g162 => ?_)))
        have f165 := frm_c f145 f160 rfl
        have t166 : A157 71 (fd 8) = A134 71 (fd 8) := (frm_f f160 rfl)
        have t167 := ivf_at j159 1 rfl
        have t168 : A157 54 (fd 2) = A134 54 (fd 2) := (frm_f f160 rfl)
        have kk169 := KO_fr g139 f160 rfl
        have pf170 := PF_k pf149 (frm_a f160 rfl)
        refine And.intro (fun h171 => ?_) (fun h171 => ?_)
        · exact And.intro (by omega) (hK _ i158 j159 f165 _ (by omega) (by omega) kk169 pf170 (by first | assumption | omega | simp_all) (by first | assumption | omega | simp_all))
        · exact And.intro (by omega) (hK _ i158 j159 f165 _ (by omega) (by omega) kk169 pf170 (by first | assumption | omega | simp_all) (by first | assumption | omega | simp_all))
def sC_readPart4_71 : qS := fun as A K => ∃ d : Int, as = [rf 54, ni d] ∧ (iva IC A ∧ ivf JC A ∧ 4 ≤ d ∧ d ≤ 4 ∧ (52 ≤ A 54 (fd 0) ∧ A 54 (fd 0) ≤ 52) ∧ (71 ≤ A 54 (fd 1) ∧ A 54 (fd 1) ≤ 71) ∧ (KO A) ∧ (A 71 (fd 8) ≤ A 54 (fd 3))) ∧ (∀ A' : qA, iva IC A' → ivf JC A' → frm [72, 73] [(71, 8), (54, 3), (54, 4)] A A' → ∀ r : Int, 0 ≤ r → r ≤ 1 → (KO A') → (PF 71 A A') → (A 71 (fd 8) ≤ A' 71 (fd 8)) → (A' 71 (fd 8) + A 54 (fd 3) ≤ A 71 (fd 8) + A' 54 (fd 3)) → K (some (ni r)) A')
theorem okC_readPart4_71 : okM LC 14 53 sC_readPart4_71 := by
  refine qmeth [(54, 0, 52), (54, 1, 71)] false [(55, sC_readPiece4_71), (46, sC_look_71), (54, sC_readJump_71)] 40 rfl ⟨okC_readPiece4_71.le (by decide), ⟨okC_look_71.le (by decide), ⟨okC_readJump_71.le (by decide), trivial⟩⟩⟩ ?_
  rintro _ A K hA has ⟨d, rfl, ⟨i0, j0, p1, p2, p3, p4, p5, p6⟩, hK⟩
  have rg_d : rng d := has (ni d) (by simp)
  have f0 := frm_0 [72, 73] [(71, 8), (54, 3), (54, 4)] A
  obtain ⟨v7, e8⟩ : ∃ v, v = A 54 (fd 0) := ⟨_, rfl⟩
  rw [← e8] at p3
  obtain ⟨v9, e10⟩ : ∃ v, v = A 54 (fd 1) := ⟨_, rfl⟩
  rw [← e10] at p4
  have pf0 := PF_rf 71 A
  have hb_71_8 := ivf_at j0 12 rfl
  have hb_54_3 := ivf_at j0 1 rfl
  have hb_54_2 := ivf_at j0 0 rfl
  refine ⟨Nat.le_of_ble_eq_true rfl, [(6, [(0, 2, 54), (1, 0, 0), (2, 0, 0), (3, 0, 0)], fun zs B nn => match zs with | [l1, w, i] => iva IC B ∧ ivf JC B ∧ frm [72, 73] [(71, 8), (54, 3), (54, 4)] A B ∧ nn = (200 - i : Int).toNat ∧ (52 ≤ B 54 (fd 0) ∧ B 54 (fd 0) ≤ 52) ∧ (71 ≤ B 54 (fd 1) ∧ B 54 (fd 1) ≤ 71) ∧ (l1 = d) ∧ (0 ≤ i) ∧ (i ≤ 200) ∧ (0 ≤ w) ∧ (w ≤ 1) ∧ (KO B) ∧ (PF 71 A B) ∧ (A 71 (fd 8) ≤ B 71 (fd 8)) ∧ (B 71 (fd 8) + A 54 (fd 3) ≤ A 71 (fd 8) + B 54 (fd 3)) ∧ (B 71 (fd 8) ≤ B 54 (fd 3)) | _ => False)], ?_, ?_⟩
  · refine ⟨⟨rfl, ?_⟩, trivial⟩
    · refine fun l1 w i B mm hB hz hI => ?_
      obtain ⟨i1, j1, f1, hm, d0, d1, c0, c1, c2, c3, c4, c5, c6, c7, c8, c9⟩ := hI
      obtain ⟨hz_l1, hz_w, hz_i, _⟩ := hz
      obtain ⟨v39, e40⟩ : ∃ v, v = B 54 (fd 0) := ⟨_, rfl⟩
      rw [← e40] at d0
      obtain ⟨v41, e42⟩ : ∃ v, v = B 54 (fd 1) := ⟨_, rfl⟩
      rw [← e42] at d1
      have hc_71_8 := ivf_at j1 12 rfl
      have hc_54_3 := ivf_at j1 1 rfl
      have hc_54_2 := ivf_at j1 0 rfl
      have hc_t : B 54 (fd 2) = A 54 (fd 2) := frm_f f1 rfl
      have hc_w : B 53 = A 53 := frm_a f1 rfl
      refine And.intro (fun h43 => ?_) (fun h43 => ?_)
      · exact And.intro (by omega) (hK _ i1 j1 f1 _ (by omega) (by omega) c5 c6 (by first | assumption | omega | simp_all) (by first | assumption | omega | simp_all))
      · refine And.intro (fun h44 => ?_) (fun h44 => ?_)
        · exact And.intro (by omega) (hK _ i1 j1 f1 _ (by omega) (by omega) c5 c6 (by first | assumption | omega | simp_all) (by first | assumption | omega | simp_all))
        · obtain ⟨v45, e46⟩ : ∃ v, v = B 54 (fd 0) := ⟨_, rfl⟩
          have q47 : v39 = v45 := (e46.trans e40.symm).symm
          subst q47
          obtain ⟨v48, e49⟩ : ∃ v, v = B 54 (fd 1) := ⟨_, rfl⟩
          have q50 : v41 = v48 := (e49.trans e42.symm).symm
          subst q50
          refine And.intro rfl (And.intro (And.intro i1 (And.intro j1 (And.intro (by rw [← e46]; omega) (by rw [← e49]; omega)))) (fun r51 g53 g54 g52 => ?_))
          refine And.intro (fun h55 => ?_) (fun h55 => ?_)
          · exact And.intro (by omega) (hK _ i1 j1 f1 _ (by omega) (by omega) c5 c6 (by first | assumption | omega | simp_all) (by first | assumption | omega | simp_all))
          · obtain ⟨v56, e57⟩ : ∃ v, v = B 54 (fd 0) := ⟨_, rfl⟩
            have q58 : v39 = v56 := (e57.trans e46.symm).symm
            subst q58
            obtain ⟨v59, e60⟩ : ∃ v, v = B 54 (fd 1) := ⟨_, rfl⟩
            have q61 : v41 = v59 := (e60.trans e49.symm).symm
            subst q61
            refine And.intro rfl (And.intro (And.intro i1 (And.intro j1 (And.intro (by rw [← e57]; omega) (And.intro (by rw [← e60]; omega) (And.intro c5 (And.intro (by first | assumption | omega | simp_all) (And.intro (by first | assumption | omega | simp_all) (by first | assumption | omega | simp_all)))))))) (fun A62 i63 j64 f65 r66 g73 g74 g67 g68 g69 g70 g71 g72 => ?_))
            have f75 := frm_c f1 f65 rfl
            have t76 := ivf_at j64 12 rfl
            have t77 := ivf_at j64 1 rfl
            have t78 : A62 54 (fd 2) = B 54 (fd 2) := (frm_f f65 rfl)
            have pf79 := PF_tr c6 g68 (by omega)
            obtain ⟨v80, e81⟩ : ∃ v, v = A62 54 (fd 0) := ⟨_, rfl⟩
            have q82 : v39 = v80 := (e81.trans ((frm_f f65 rfl).trans e57.symm)).symm
            subst q82
            obtain ⟨v83, e84⟩ : ∃ v, v = A62 54 (fd 1) := ⟨_, rfl⟩
            have q85 : v41 = v83 := (e84.trans ((frm_f f65 rfl).trans e60.symm)).symm
            subst q85
            refine Exists.intro l1 (And.intro rfl (And.intro (And.intro i63 (And.intro j64 (And.intro (by omega) (And.intro (by omega) (And.intro (by rw [← e81]; omega) (And.intro (by rw [← e84]; omega) (And.intro g67 (by first | assumption | omega | simp_all)))))))) (fun A86 i87 j88 f89 r90 g95 g96 g91 g92 g93 g94 => ?_)))
            have f97 := frm_c f75 f89 rfl
            have t98 := ivf_at j88 12 rfl
            have t99 := ivf_at j88 1 rfl
            have t100 : A86 54 (fd 2) = A62 54 (fd 2) := (frm_f f89 rfl)
            have pf101 := PF_tr pf79 g92 (by omega)
            obtain ⟨v102, e103⟩ : ∃ v, v = A86 54 (fd 1) := ⟨_, rfl⟩
            have q104 : v41 = v102 := (e103.trans ((frm_f f89 rfl).trans e84.symm)).symm
            subst q104
            refine And.intro (show A86 54 (fd 1) = ((71 : Nat) : Int) by omega) ?_
            obtain ⟨v105, e106⟩ : ∃ v, v = A86 54 (fd 1) := ⟨_, rfl⟩
            have q107 : v41 = v105 := (e106.trans e103.symm).symm
            subst q107
            refine And.intro (show A86 54 (fd 1) = ((71 : Nat) : Int) by omega) ?_
            refine fun v108 gv108 e109 => ?_
            have b110 := ivf_at j88 12 rfl
            have hjump : A86 72 r66 ≠ 107 := by have q1 := g92 r66 (by omega) (by omega); simp only [Nat.reduceAdd] at q1; have q2 := g72; omega
            refine And.intro (by omega) (fun A111 e112 => ?_)
            have i113 := iva_st i87 e112 (And.intro (by omega) trivial)
            have j114 := ivf_sa j88 e112 rfl
            have f115 := frm_s f97 e112 rfl
            have t116 : A111 71 (fd 8) = A86 71 (fd 8) := (congrFun (st_a e112 rfl) _)
            have t117 : A111 54 (fd 3) = A86 54 (fd 3) := (congrFun (st_a e112 rfl) _)
            have t118 : A111 54 (fd 2) = A86 54 (fd 2) := (congrFun (st_a e112 rfl) _)
            have kk119 := KO_o73 g91 e112 hjump
            have pf120 := PF_k pf101 (st_a e112 rfl)
            refine fun v121 e122 => ?_
            obtain ⟨v123, e124⟩ : ∃ v, v = A111 54 (fd 0) := ⟨_, rfl⟩
            have q125 : v39 = v123 := (e124.trans ((Eq.trans (congrFun (st_a e112 rfl) _) (frm_f f89 rfl)).trans e81.symm)).symm
            subst q125
            obtain ⟨v126, e127⟩ : ∃ v, v = A111 54 (fd 1) := ⟨_, rfl⟩
            have q128 : v41 = v126 := (e127.trans ((congrFun (st_a e112 rfl) _).trans e106.symm)).symm
            subst q128
            exact And.intro (by omega) (Exists.intro (200 - v121 : Int).toNat (And.intro (by omega) (And.intro i113 (And.intro j114 (And.intro f115 (And.intro rfl (And.intro (by rw [← e124]; omega) (And.intro (by rw [← e127]; omega) (And.intro (by omega) (And.intro (by omega) (And.intro (by omega) (And.intro (by omega) (And.intro (by omega) (And.intro kk119 (And.intro pf120 (And.intro (by omega) (And.intro (by omega) (by omega))))))))))))))))))
  · obtain ⟨v11, e12⟩ : ∃ v, v = A 54 (fd 0) := ⟨_, rfl⟩
    have q13 : v7 = v11 := (e12.trans e8.symm).symm
    subst q13
    obtain ⟨v14, e15⟩ : ∃ v, v = A 54 (fd 1) := ⟨_, rfl⟩
    have q16 : v9 = v14 := (e15.trans e10.symm).symm
    subst q16
    refine Exists.intro d (And.intro rfl (And.intro (And.intro i0 (And.intro j0 (And.intro (by omega) (And.intro (by omega) (And.intro (by rw [← e12]; omega) (And.intro (by rw [← e15]; omega) (And.intro p5 (by first | assumption | omega | simp_all)))))))) (fun A17 i18 j19 f20 r21 g26 g27 g22 g23 g24 g25 => ?_)))
    have f28 := frm_c f0 f20 rfl
    have t29 := ivf_at j19 12 rfl
    have t30 := ivf_at j19 1 rfl
    have t31 : A17 54 (fd 2) = A 54 (fd 2) := (frm_f f20 rfl)
    have pf32 := PF_tr pf0 g23 (by omega)
    obtain ⟨v33, e34⟩ : ∃ v, v = A17 54 (fd 0) := ⟨_, rfl⟩
    have q35 : v7 = v33 := (e34.trans ((frm_f f20 rfl).trans e12.symm)).symm
    subst q35
    obtain ⟨v36, e37⟩ : ∃ v, v = A17 54 (fd 1) := ⟨_, rfl⟩
    have q38 : v9 = v36 := (e37.trans ((frm_f f20 rfl).trans e15.symm)).symm
    subst q38
    exact Exists.intro (200 - 0 : Int).toNat (And.intro i18 (And.intro j19 (And.intro f28 (And.intro rfl (And.intro (by rw [← e34]; omega) (And.intro (by rw [← e37]; omega) (And.intro (by omega) (And.intro (by omega) (And.intro (by omega) (And.intro (by omega) (And.intro (by omega) (And.intro g22 (And.intro pf32 (And.intro (by omega) (And.intro (by omega) (by omega))))))))))))))))
def sC_readCondition4_71 : qS := fun as A K => ∃ d : Int, as = [rf 54, ni d] ∧ (iva IC A ∧ ivf JC A ∧ 4 ≤ d ∧ d ≤ 4 ∧ (52 ≤ A 54 (fd 0) ∧ A 54 (fd 0) ≤ 52) ∧ (71 ≤ A 54 (fd 1) ∧ A 54 (fd 1) ≤ 71) ∧ (KO A) ∧ (A 71 (fd 8) ≤ A 54 (fd 3))) ∧ (∀ A' : qA, iva IC A' → ivf JC A' → frm [72, 73] [(71, 8), (54, 3), (54, 4)] A A' → ∀ r : Int, 0 ≤ r → r ≤ 1 → (KO A') → (PF 71 A A') → (A 71 (fd 8) ≤ A' 71 (fd 8)) → (A' 71 (fd 8) + A 54 (fd 3) ≤ A 71 (fd 8) + A' 54 (fd 3)) → K (some (ni r)) A')
theorem okC_readCondition4_71 : okM LC 15 52 sC_readCondition4_71 := by
  refine qmeth [(54, 0, 52), (54, 1, 71)] false [(53, sC_readPart4_71), (46, sC_look_71), (54, sC_readJump_71)] 40 rfl ⟨okC_readPart4_71.le (by decide), ⟨okC_look_71.le (by decide), ⟨okC_readJump_71.le (by decide), trivial⟩⟩⟩ ?_
  rintro _ A K hA has ⟨d, rfl, ⟨i0, j0, p1, p2, p3, p4, p5, p6⟩, hK⟩
  have rg_d : rng d := has (ni d) (by simp)
  have f0 := frm_0 [72, 73] [(71, 8), (54, 3), (54, 4)] A
  obtain ⟨v7, e8⟩ : ∃ v, v = A 54 (fd 0) := ⟨_, rfl⟩
  rw [← e8] at p3
  obtain ⟨v9, e10⟩ : ∃ v, v = A 54 (fd 1) := ⟨_, rfl⟩
  rw [← e10] at p4
  have pf0 := PF_rf 71 A
  have hb_71_8 := ivf_at j0 12 rfl
  have hb_54_3 := ivf_at j0 1 rfl
  have hb_54_2 := ivf_at j0 0 rfl
  refine ⟨Nat.le_of_ble_eq_true rfl, [(6, [(0, 2, 54), (1, 0, 0), (2, 0, 0), (3, 0, 0)], fun zs B nn => match zs with | [l1, w, i] => iva IC B ∧ ivf JC B ∧ frm [72, 73] [(71, 8), (54, 3), (54, 4)] A B ∧ nn = (200 - i : Int).toNat ∧ (52 ≤ B 54 (fd 0) ∧ B 54 (fd 0) ≤ 52) ∧ (71 ≤ B 54 (fd 1) ∧ B 54 (fd 1) ≤ 71) ∧ (l1 = d) ∧ (0 ≤ i) ∧ (i ≤ 200) ∧ (0 ≤ w) ∧ (w ≤ 1) ∧ (KO B) ∧ (PF 71 A B) ∧ (A 71 (fd 8) ≤ B 71 (fd 8)) ∧ (B 71 (fd 8) + A 54 (fd 3) ≤ A 71 (fd 8) + B 54 (fd 3)) ∧ (B 71 (fd 8) ≤ B 54 (fd 3)) | _ => False)], ?_, ?_⟩
  · refine ⟨⟨rfl, ?_⟩, trivial⟩
    · refine fun l1 w i B mm hB hz hI => ?_
      obtain ⟨i1, j1, f1, hm, d0, d1, c0, c1, c2, c3, c4, c5, c6, c7, c8, c9⟩ := hI
      obtain ⟨hz_l1, hz_w, hz_i, _⟩ := hz
      obtain ⟨v39, e40⟩ : ∃ v, v = B 54 (fd 0) := ⟨_, rfl⟩
      rw [← e40] at d0
      obtain ⟨v41, e42⟩ : ∃ v, v = B 54 (fd 1) := ⟨_, rfl⟩
      rw [← e42] at d1
      have hc_71_8 := ivf_at j1 12 rfl
      have hc_54_3 := ivf_at j1 1 rfl
      have hc_54_2 := ivf_at j1 0 rfl
      have hc_t : B 54 (fd 2) = A 54 (fd 2) := frm_f f1 rfl
      have hc_w : B 53 = A 53 := frm_a f1 rfl
      refine And.intro (fun h43 => ?_) (fun h43 => ?_)
      · exact And.intro (by omega) (hK _ i1 j1 f1 _ (by omega) (by omega) c5 c6 (by first | assumption | omega | simp_all) (by first | assumption | omega | simp_all))
      · refine And.intro (fun h44 => ?_) (fun h44 => ?_)
        · exact And.intro (by omega) (hK _ i1 j1 f1 _ (by omega) (by omega) c5 c6 (by first | assumption | omega | simp_all) (by first | assumption | omega | simp_all))
        · obtain ⟨v45, e46⟩ : ∃ v, v = B 54 (fd 0) := ⟨_, rfl⟩
          have q47 : v39 = v45 := (e46.trans e40.symm).symm
          subst q47
          obtain ⟨v48, e49⟩ : ∃ v, v = B 54 (fd 1) := ⟨_, rfl⟩
          have q50 : v41 = v48 := (e49.trans e42.symm).symm
          subst q50
          refine And.intro rfl (And.intro (And.intro i1 (And.intro j1 (And.intro (by rw [← e46]; omega) (by rw [← e49]; omega)))) (fun r51 g53 g54 g52 => ?_))
          refine And.intro (fun h55 => ?_) (fun h55 => ?_)
          · exact And.intro (by omega) (hK _ i1 j1 f1 _ (by omega) (by omega) c5 c6 (by first | assumption | omega | simp_all) (by first | assumption | omega | simp_all))
          · obtain ⟨v56, e57⟩ : ∃ v, v = B 54 (fd 0) := ⟨_, rfl⟩
            have q58 : v39 = v56 := (e57.trans e46.symm).symm
            subst q58
            obtain ⟨v59, e60⟩ : ∃ v, v = B 54 (fd 1) := ⟨_, rfl⟩
            have q61 : v41 = v59 := (e60.trans e49.symm).symm
            subst q61
            refine And.intro rfl (And.intro (And.intro i1 (And.intro j1 (And.intro (by rw [← e57]; omega) (And.intro (by rw [← e60]; omega) (And.intro c5 (And.intro (by first | assumption | omega | simp_all) (And.intro (by first | assumption | omega | simp_all) (by first | assumption | omega | simp_all)))))))) (fun A62 i63 j64 f65 r66 g73 g74 g67 g68 g69 g70 g71 g72 => ?_))
            have f75 := frm_c f1 f65 rfl
            have t76 := ivf_at j64 12 rfl
            have t77 := ivf_at j64 1 rfl
            have t78 : A62 54 (fd 2) = B 54 (fd 2) := (frm_f f65 rfl)
            have pf79 := PF_tr c6 g68 (by omega)
            obtain ⟨v80, e81⟩ : ∃ v, v = A62 54 (fd 0) := ⟨_, rfl⟩
            have q82 : v39 = v80 := (e81.trans ((frm_f f65 rfl).trans e57.symm)).symm
            subst q82
            obtain ⟨v83, e84⟩ : ∃ v, v = A62 54 (fd 1) := ⟨_, rfl⟩
            have q85 : v41 = v83 := (e84.trans ((frm_f f65 rfl).trans e60.symm)).symm
            subst q85
            refine Exists.intro l1 (And.intro rfl (And.intro (And.intro i63 (And.intro j64 (And.intro (by omega) (And.intro (by omega) (And.intro (by rw [← e81]; omega) (And.intro (by rw [← e84]; omega) (And.intro g67 (by first | assumption | omega | simp_all)))))))) (fun A86 i87 j88 f89 r90 g95 g96 g91 g92 g93 g94 => ?_)))
            have f97 := frm_c f75 f89 rfl
            have t98 := ivf_at j88 12 rfl
            have t99 := ivf_at j88 1 rfl
            have t100 : A86 54 (fd 2) = A62 54 (fd 2) := (frm_f f89 rfl)
            have pf101 := PF_tr pf79 g92 (by omega)
            obtain ⟨v102, e103⟩ : ∃ v, v = A86 54 (fd 1) := ⟨_, rfl⟩
            have q104 : v41 = v102 := (e103.trans ((frm_f f89 rfl).trans e84.symm)).symm
            subst q104
            refine And.intro (show A86 54 (fd 1) = ((71 : Nat) : Int) by omega) ?_
            obtain ⟨v105, e106⟩ : ∃ v, v = A86 54 (fd 1) := ⟨_, rfl⟩
            have q107 : v41 = v105 := (e106.trans e103.symm).symm
            subst q107
            refine And.intro (show A86 54 (fd 1) = ((71 : Nat) : Int) by omega) ?_
            refine fun v108 gv108 e109 => ?_
            have b110 := ivf_at j88 12 rfl
            have hjump : A86 72 r66 ≠ 107 := by have q1 := g92 r66 (by omega) (by omega); simp only [Nat.reduceAdd] at q1; have q2 := g72; omega
            refine And.intro (by omega) (fun A111 e112 => ?_)
            have i113 := iva_st i87 e112 (And.intro (by omega) trivial)
            have j114 := ivf_sa j88 e112 rfl
            have f115 := frm_s f97 e112 rfl
            have t116 : A111 71 (fd 8) = A86 71 (fd 8) := (congrFun (st_a e112 rfl) _)
            have t117 : A111 54 (fd 3) = A86 54 (fd 3) := (congrFun (st_a e112 rfl) _)
            have t118 : A111 54 (fd 2) = A86 54 (fd 2) := (congrFun (st_a e112 rfl) _)
            have kk119 := KO_o73 g91 e112 hjump
            have pf120 := PF_k pf101 (st_a e112 rfl)
            refine fun v121 e122 => ?_
            obtain ⟨v123, e124⟩ : ∃ v, v = A111 54 (fd 0) := ⟨_, rfl⟩
            have q125 : v39 = v123 := (e124.trans ((Eq.trans (congrFun (st_a e112 rfl) _) (frm_f f89 rfl)).trans e81.symm)).symm
            subst q125
            obtain ⟨v126, e127⟩ : ∃ v, v = A111 54 (fd 1) := ⟨_, rfl⟩
            have q128 : v41 = v126 := (e127.trans ((congrFun (st_a e112 rfl) _).trans e106.symm)).symm
            subst q128
            exact And.intro (by omega) (Exists.intro (200 - v121 : Int).toNat (And.intro (by omega) (And.intro i113 (And.intro j114 (And.intro f115 (And.intro rfl (And.intro (by rw [← e124]; omega) (And.intro (by rw [← e127]; omega) (And.intro (by omega) (And.intro (by omega) (And.intro (by omega) (And.intro (by omega) (And.intro (by omega) (And.intro kk119 (And.intro pf120 (And.intro (by omega) (And.intro (by omega) (by omega))))))))))))))))))
  · obtain ⟨v11, e12⟩ : ∃ v, v = A 54 (fd 0) := ⟨_, rfl⟩
    have q13 : v7 = v11 := (e12.trans e8.symm).symm
    subst q13
    obtain ⟨v14, e15⟩ : ∃ v, v = A 54 (fd 1) := ⟨_, rfl⟩
    have q16 : v9 = v14 := (e15.trans e10.symm).symm
    subst q16
    refine Exists.intro d (And.intro rfl (And.intro (And.intro i0 (And.intro j0 (And.intro (by omega) (And.intro (by omega) (And.intro (by rw [← e12]; omega) (And.intro (by rw [← e15]; omega) (And.intro p5 (by first | assumption | omega | simp_all)))))))) (fun A17 i18 j19 f20 r21 g26 g27 g22 g23 g24 g25 => ?_)))
    have f28 := frm_c f0 f20 rfl
    have t29 := ivf_at j19 12 rfl
    have t30 := ivf_at j19 1 rfl
    have t31 : A17 54 (fd 2) = A 54 (fd 2) := (frm_f f20 rfl)
    have pf32 := PF_tr pf0 g23 (by omega)
    obtain ⟨v33, e34⟩ : ∃ v, v = A17 54 (fd 0) := ⟨_, rfl⟩
    have q35 : v7 = v33 := (e34.trans ((frm_f f20 rfl).trans e12.symm)).symm
    subst q35
    obtain ⟨v36, e37⟩ : ∃ v, v = A17 54 (fd 1) := ⟨_, rfl⟩
    have q38 : v9 = v36 := (e37.trans ((frm_f f20 rfl).trans e15.symm)).symm
    subst q38
    exact Exists.intro (200 - 0 : Int).toNat (And.intro i18 (And.intro j19 (And.intro f28 (And.intro rfl (And.intro (by rw [← e34]; omega) (And.intro (by rw [← e37]; omega) (And.intro (by omega) (And.intro (by omega) (And.intro (by omega) (And.intro (by omega) (And.intro (by omega) (And.intro g22 (And.intro pf32 (And.intro (by omega) (And.intro (by omega) (by omega))))))))))))))))
def sC_readFactor3_71 : qS := fun as A K => ∃ d : Int, as = [rf 54, ni d] ∧ (iva IC A ∧ ivf JC A ∧ 3 ≤ d ∧ d ≤ 3 ∧ (52 ≤ A 54 (fd 0) ∧ A 54 (fd 0) ≤ 52) ∧ (71 ≤ A 54 (fd 1) ∧ A 54 (fd 1) ≤ 71) ∧ (KO A) ∧ (A 71 (fd 8) ≤ A 54 (fd 3))) ∧ (∀ A' : qA, iva IC A' → ivf JC A' → frm [72, 73] [(71, 8), (54, 3), (54, 4)] A A' → ∀ r : Int, 0 ≤ r → r ≤ 1 → (KO A') → (PF 71 A A') → (A 71 (fd 8) ≤ A' 71 (fd 8)) → (A' 71 (fd 8) + A 54 (fd 3) ≤ A 71 (fd 8) + A' 54 (fd 3)) → K (some (ni r)) A')
theorem okC_readFactor3_71 : okM LC 12 59 sC_readFactor3_71 := by
  refine qmeth [(54, 0, 52), (54, 1, 71)] false [(46, sC_look_71), (60, sC_isDigit), (61, sC_readNumber_71), (75, sC_putr71), (47, sC_fail_71), (49, sC_enter_71), (57, sC_readSum4_71), (48, sC_expect_71)] 60 rfl ⟨okC_look_71.le (by decide), ⟨okC_isDigit.le (by decide), ⟨okC_readNumber_71.le (by decide), ⟨okC_putr71.le (by decide), ⟨okC_fail_71.le (by decide), ⟨okC_enter_71.le (by decide), ⟨okC_readSum4_71.le (by decide), ⟨okC_expect_71.le (by decide), trivial⟩⟩⟩⟩⟩⟩⟩⟩ ?_
  rintro _ A K hA has ⟨d, rfl, ⟨i0, j0, p1, p2, p3, p4, p5, p6⟩, hK⟩
  have rg_d : rng d := has (ni d) (by simp)
  have f0 := frm_0 [72, 73] [(71, 8), (54, 3), (54, 4)] A
  obtain ⟨v7, e8⟩ : ∃ v, v = A 54 (fd 0) := ⟨_, rfl⟩
  rw [← e8] at p3
  obtain ⟨v9, e10⟩ : ∃ v, v = A 54 (fd 1) := ⟨_, rfl⟩
  rw [← e10] at p4
  have pf0 := PF_rf 71 A
  have hb_71_8 := ivf_at j0 12 rfl
  have hb_54_3 := ivf_at j0 1 rfl
  have hb_54_2 := ivf_at j0 0 rfl
  refine ⟨Nat.le_of_ble_eq_true rfl, [], trivial, ?_⟩
  obtain ⟨v11, e12⟩ : ∃ v, v = A 54 (fd 0) := ⟨_, rfl⟩
  have q13 : v7 = v11 := (e12.trans e8.symm).symm
  subst q13
  obtain ⟨v14, e15⟩ : ∃ v, v = A 54 (fd 1) := ⟨_, rfl⟩
  have q16 : v9 = v14 := (e15.trans e10.symm).symm
  subst q16
  refine And.intro rfl (And.intro (And.intro i0 (And.intro j0 (And.intro (by rw [← e12]; omega) (by rw [← e15]; omega)))) (fun r17 g19 g20 g18 => ?_))
  refine And.intro (fun h21 => ?_) (fun h21 => ?_)
  · refine Exists.intro r17 (And.intro rfl (And.intro (fun h22 => ?_) (fun h22 => ?_)))
    · refine And.intro (fun h23 => by exfalso; omega) (fun h23 => ?_)
      obtain ⟨v24, e25⟩ : ∃ v, v = A 54 (fd 0) := ⟨_, rfl⟩
      have q26 : v7 = v24 := (e25.trans e12.symm).symm
      subst q26
      obtain ⟨v27, e28⟩ : ∃ v, v = A 54 (fd 1) := ⟨_, rfl⟩
      have q29 : v9 = v27 := (e28.trans e15.symm).symm
      subst q29
      refine And.intro rfl (And.intro (And.intro i0 (And.intro j0 (And.intro (by rw [← e25]; omega) (And.intro (by rw [← e28]; omega) (And.intro p5 (And.intro (by first | assumption | omega | simp_all) (And.intro (by first | assumption | omega | simp_all) (And.intro (by first | assumption | omega | simp_all) (by first | assumption | omega | simp_all))))))))) (fun A30 i31 j32 f33 r34 g39 g40 g35 g36 g37 g38 => ?_))
      have f41 := frm_c f0 f33 rfl
      have t42 := ivf_at j32 12 rfl
      have t43 := ivf_at j32 1 rfl
      have t44 : A30 54 (fd 2) = A 54 (fd 2) := (frm_f f33 rfl)
      have pf45 := PF_tr pf0 g36 (by omega)
      exact And.intro (by omega) (hK _ i31 j32 f41 _ (by omega) (by omega) g35 pf45 (by first | assumption | omega | simp_all) (by first | assumption | omega | simp_all))
    · refine And.intro (fun h46 => ?_) (fun h46 => by exfalso; omega)
      refine fun v47 e48 => ?_
      have h49 := qone_bd 0 r17
      rw [← e48] at h49
      have h50 := qone_p (s := 0) (x := r17) (by omega)
      refine And.intro (fun h51 => ?_) (fun h51 => ?_)
      · obtain ⟨v52, e53⟩ : ∃ v, v = A 54 (fd 1) := ⟨_, rfl⟩
        have q54 : v9 = v52 := (e53.trans e15.symm).symm
        subst q54
        refine And.intro (show A 54 (fd 1) = ((71 : Nat) : Int) by omega) ?_
        refine fun v55 e56 => ?_
        have h57 := qix_bd 0 r17
        rw [← e56] at h57
        refine Exists.intro 107 (Exists.intro v55 (And.intro rfl (And.intro (And.intro i0 (And.intro j0 (And.intro (by omega) (And.intro (by omega) (And.intro p5 (And.intro (by first | assumption | omega | simp_all) (by first | assumption | omega | simp_all))))))) (fun A58 i59 j60 f61 g62 g63 g64 g65 => ?_))))
        have f66 := frm_c f0 f61 rfl
        have t67 := ivf_at j60 12 rfl
        have t68 : A58 54 (fd 3) = A 54 (fd 3) := (frm_f f61 rfl)
        have t69 : A58 54 (fd 2) = A 54 (fd 2) := (frm_f f61 rfl)
        have pf70 := PF_tr pf0 g63 (by omega)
        refine fun v71 gv71 e72 => ?_
        have b73 := ivf_at j60 1 rfl
        refine fun v74 e75 => ?_
        refine And.intro (by omega) (fun A76 e77 => ?_)
        have i78 := iva_sf i59 e77 rfl
        have j79 := ivf_st j60 e77 (And.intro (by omega) trivial)
        have f80 := frm_sf f66 e77 rfl
        have t81 : A76 71 (fd 8) = A58 71 (fd 8) := (congrFun (st_a e77 rfl) _)
        have t82 := st_v e77
        have t83 : A76 54 (fd 2) = A58 54 (fd 2) := (st_f e77 rfl)
        have kk84 := KO_k g62 (st_a e77 rfl) (st_a e77 rfl) (st_a e77 rfl) (st_a e77 rfl)
        have pf85 := PF_k pf70 (st_a e77 rfl)
        exact And.intro (by omega) (hK _ i78 j79 f80 _ (by omega) (by omega) kk84 pf85 (by first | assumption | omega | simp_all) (by first | assumption | omega | simp_all))
      · obtain ⟨v86, e87⟩ : ∃ v, v = A 54 (fd 0) := ⟨_, rfl⟩
        have q88 : v7 = v86 := (e87.trans e12.symm).symm
        subst q88
        obtain ⟨v89, e90⟩ : ∃ v, v = A 54 (fd 1) := ⟨_, rfl⟩
        have q91 : v9 = v89 := (e90.trans e15.symm).symm
        subst q91
        refine Exists.intro 1 (And.intro rfl (And.intro (And.intro i0 (And.intro j0 (And.intro (by omega) (And.intro (by omega) (And.intro (by rw [← e87]; omega) (by rw [← e90]; omega)))))) (fun A92 i93 j94 f95 => (fun h96 => ?_))))
        · have f97 := frm_c f0 f95 rfl
          have t98 : A92 71 (fd 8) = A 71 (fd 8) := (frm_f f95 rfl)
          have t99 : A92 54 (fd 3) = A 54 (fd 3) := (frm_f f95 rfl)
          have t100 : A92 54 (fd 2) = A 54 (fd 2) := (frm_f f95 rfl)
          have kk101 := KO_fr p5 f95 rfl
          have pf102 := PF_k pf0 (frm_a f95 rfl)
          exact And.intro (by omega) (hK _ i93 j94 f97 _ (by omega) (by omega) kk101 pf102 (by first | assumption | omega | simp_all) (by first | assumption | omega | simp_all))
  · obtain ⟨v103, e104⟩ : ∃ v, v = A 54 (fd 0) := ⟨_, rfl⟩
    have q105 : v7 = v103 := (e104.trans e12.symm).symm
    subst q105
    obtain ⟨v106, e107⟩ : ∃ v, v = A 54 (fd 1) := ⟨_, rfl⟩
    have q108 : v9 = v106 := (e107.trans e15.symm).symm
    subst q108
    refine Exists.intro d (And.intro rfl (And.intro (And.intro i0 (And.intro j0 (And.intro (by omega) (And.intro (by omega) (And.intro (by rw [← e104]; omega) (And.intro (by rw [← e107]; omega) (And.intro p5 (by first | assumption | omega | simp_all)))))))) (fun A109 i110 j111 f112 g113 g114 => (And.intro (fun h115 => ?_) (fun h115 => by exfalso; omega)))))
    · have f116 := frm_c f0 f112 rfl
      have t117 : A109 71 (fd 8) = A 71 (fd 8) := (frm_f f112 rfl)
      have t118 := ivf_at j111 1 rfl
      have t119 : A109 54 (fd 2) = A 54 (fd 2) := (frm_f f112 rfl)
      have kk120 := KO_fr p5 f112 rfl
      have pf121 := PF_k pf0 (frm_a f112 rfl)
      refine And.intro (fun h122 => by exfalso; omega) (fun h122 => ?_)
      refine fun v123 e124 => ?_
      obtain ⟨v125, e126⟩ : ∃ v, v = A109 54 (fd 0) := ⟨_, rfl⟩
      have q127 : v7 = v125 := (e126.trans ((frm_f f112 rfl).trans e104.symm)).symm
      subst q127
      obtain ⟨v128, e129⟩ : ∃ v, v = A109 54 (fd 1) := ⟨_, rfl⟩
      have q130 : v9 = v128 := (e129.trans ((frm_f f112 rfl).trans e107.symm)).symm
      subst q130
      refine And.intro (by omega) (Exists.intro v123 (And.intro rfl (And.intro (And.intro i110 (And.intro j111 (And.intro (by omega) (And.intro (by omega) (And.intro (by rw [← e126]; omega) (And.intro (by rw [← e129]; omega) (And.intro kk120 (by first | assumption | omega | simp_all)))))))) (fun A131 i132 j133 f134 r135 g140 g141 g136 g137 g138 g139 => ?_))))
      have f142 := frm_c f116 f134 rfl
      have t143 := ivf_at j133 12 rfl
      have t144 := ivf_at j133 1 rfl
      have t145 : A131 54 (fd 2) = A109 54 (fd 2) := (frm_f f134 rfl)
      have pf146 := PF_tr pf121 g137 (by omega)
      refine And.intro (fun h147 => ?_) (fun h147 => ?_)
      · exact And.intro (by omega) (hK _ i132 j133 f142 _ (by omega) (by omega) g136 pf146 (by first | assumption | omega | simp_all) (by first | assumption | omega | simp_all))
      · obtain ⟨v148, e149⟩ : ∃ v, v = A131 54 (fd 0) := ⟨_, rfl⟩
        have q150 : v7 = v148 := (e149.trans ((frm_f f134 rfl).trans e126.symm)).symm
        subst q150
        obtain ⟨v151, e152⟩ : ∃ v, v = A131 54 (fd 1) := ⟨_, rfl⟩
        have q153 : v9 = v151 := (e152.trans ((frm_f f134 rfl).trans e129.symm)).symm
        subst q153
        refine Exists.intro 93 (And.intro rfl (And.intro (And.intro i132 (And.intro j133 (And.intro (by omega) (And.intro (by omega) (And.intro (by rw [← e149]; omega) (And.intro (by rw [← e152]; omega) (And.intro g136 (by first | assumption | omega | simp_all)))))))) (fun A154 i155 j156 f157 r158 g160 g161 g159 => ?_)))
        have f162 := frm_c f142 f157 rfl
        have t163 : A154 71 (fd 8) = A131 71 (fd 8) := (frm_f f157 rfl)
        have t164 := ivf_at j156 1 rfl
        have t165 : A154 54 (fd 2) = A131 54 (fd 2) := (frm_f f157 rfl)
        have kk166 := KO_fr g136 f157 rfl
        have pf167 := PF_k pf146 (frm_a f157 rfl)
        refine And.intro (fun h168 => ?_) (fun h168 => ?_)
        · exact And.intro (by omega) (hK _ i155 j156 f162 _ (by omega) (by omega) kk166 pf167 (by first | assumption | omega | simp_all) (by first | assumption | omega | simp_all))
        · exact And.intro (by omega) (hK _ i155 j156 f162 _ (by omega) (by omega) kk166 pf167 (by first | assumption | omega | simp_all) (by first | assumption | omega | simp_all))
def sC_readTerm3_71 : qS := fun as A K => ∃ d : Int, as = [rf 54, ni d] ∧ (iva IC A ∧ ivf JC A ∧ 3 ≤ d ∧ d ≤ 3 ∧ (52 ≤ A 54 (fd 0) ∧ A 54 (fd 0) ≤ 52) ∧ (71 ≤ A 54 (fd 1) ∧ A 54 (fd 1) ≤ 71) ∧ (KO A) ∧ (A 71 (fd 8) ≤ A 54 (fd 3))) ∧ (∀ A' : qA, iva IC A' → ivf JC A' → frm [72, 73] [(71, 8), (54, 3), (54, 4)] A A' → ∀ r : Int, 0 ≤ r → r ≤ 1 → (KO A') → (PF 71 A A') → (A 71 (fd 8) ≤ A' 71 (fd 8)) → (A' 71 (fd 8) + A 54 (fd 3) ≤ A 71 (fd 8) + A' 54 (fd 3)) → K (some (ni r)) A')
theorem okC_readTerm3_71 : okM LC 13 58 sC_readTerm3_71 := by
  refine qmeth [(54, 0, 52), (54, 1, 71)] false [(59, sC_readFactor3_71), (46, sC_look_71), (75, sC_putr71)] 44 rfl ⟨okC_readFactor3_71.le (by decide), ⟨okC_look_71.le (by decide), ⟨okC_putr71.le (by decide), trivial⟩⟩⟩ ?_
  rintro _ A K hA has ⟨d, rfl, ⟨i0, j0, p1, p2, p3, p4, p5, p6⟩, hK⟩
  have rg_d : rng d := has (ni d) (by simp)
  have f0 := frm_0 [72, 73] [(71, 8), (54, 3), (54, 4)] A
  obtain ⟨v7, e8⟩ : ∃ v, v = A 54 (fd 0) := ⟨_, rfl⟩
  rw [← e8] at p3
  obtain ⟨v9, e10⟩ : ∃ v, v = A 54 (fd 1) := ⟨_, rfl⟩
  rw [← e10] at p4
  have pf0 := PF_rf 71 A
  have hb_71_8 := ivf_at j0 12 rfl
  have hb_54_3 := ivf_at j0 1 rfl
  have hb_54_2 := ivf_at j0 0 rfl
  refine ⟨Nat.le_of_ble_eq_true rfl, [(6, [(0, 2, 54), (1, 0, 0), (2, 0, 0), (3, 0, 0)], fun zs B nn => match zs with | [l1, w, i] => iva IC B ∧ ivf JC B ∧ frm [72, 73] [(71, 8), (54, 3), (54, 4)] A B ∧ nn = (200 - i : Int).toNat ∧ (52 ≤ B 54 (fd 0) ∧ B 54 (fd 0) ≤ 52) ∧ (71 ≤ B 54 (fd 1) ∧ B 54 (fd 1) ≤ 71) ∧ (l1 = d) ∧ (0 ≤ i) ∧ (i ≤ 200) ∧ (0 ≤ w) ∧ (w ≤ 1) ∧ (KO B) ∧ (PF 71 A B) ∧ (A 71 (fd 8) ≤ B 71 (fd 8)) ∧ (B 71 (fd 8) + A 54 (fd 3) ≤ A 71 (fd 8) + B 54 (fd 3)) ∧ (B 71 (fd 8) ≤ B 54 (fd 3)) | _ => False)], ?_, ?_⟩
  · refine ⟨⟨rfl, ?_⟩, trivial⟩
    · refine fun l1 w i B mm hB hz hI => ?_
      obtain ⟨i1, j1, f1, hm, d0, d1, c0, c1, c2, c3, c4, c5, c6, c7, c8, c9⟩ := hI
      obtain ⟨hz_l1, hz_w, hz_i, _⟩ := hz
      obtain ⟨v39, e40⟩ : ∃ v, v = B 54 (fd 0) := ⟨_, rfl⟩
      rw [← e40] at d0
      obtain ⟨v41, e42⟩ : ∃ v, v = B 54 (fd 1) := ⟨_, rfl⟩
      rw [← e42] at d1
      have hc_71_8 := ivf_at j1 12 rfl
      have hc_54_3 := ivf_at j1 1 rfl
      have hc_54_2 := ivf_at j1 0 rfl
      have hc_t : B 54 (fd 2) = A 54 (fd 2) := frm_f f1 rfl
      have hc_w : B 53 = A 53 := frm_a f1 rfl
      refine And.intro (fun h43 => ?_) (fun h43 => ?_)
      · exact And.intro (by omega) (hK _ i1 j1 f1 _ (by omega) (by omega) c5 c6 (by first | assumption | omega | simp_all) (by first | assumption | omega | simp_all))
      · refine And.intro (fun h44 => ?_) (fun h44 => ?_)
        · exact And.intro (by omega) (hK _ i1 j1 f1 _ (by omega) (by omega) c5 c6 (by first | assumption | omega | simp_all) (by first | assumption | omega | simp_all))
        · obtain ⟨v45, e46⟩ : ∃ v, v = B 54 (fd 0) := ⟨_, rfl⟩
          have q47 : v39 = v45 := (e46.trans e40.symm).symm
          subst q47
          obtain ⟨v48, e49⟩ : ∃ v, v = B 54 (fd 1) := ⟨_, rfl⟩
          have q50 : v41 = v48 := (e49.trans e42.symm).symm
          subst q50
          refine And.intro rfl (And.intro (And.intro i1 (And.intro j1 (And.intro (by rw [← e46]; omega) (by rw [← e49]; omega)))) (fun r51 g53 g54 g52 => ?_))
          refine fun v55 e56 => ?_
          have h57 := qone_bd 4 r51
          rw [← e56] at h57
          have h58 := qone_p (s := 4) (x := r51) (by omega)
          refine And.intro (fun h59 => ?_) (fun h59 => ?_)
          · exact And.intro (by omega) (hK _ i1 j1 f1 _ (by omega) (by omega) c5 c6 (by first | assumption | omega | simp_all) (by first | assumption | omega | simp_all))
          · obtain ⟨v60, e61⟩ : ∃ v, v = B 54 (fd 0) := ⟨_, rfl⟩
            have q62 : v39 = v60 := (e61.trans e46.symm).symm
            subst q62
            obtain ⟨v63, e64⟩ : ∃ v, v = B 54 (fd 1) := ⟨_, rfl⟩
            have q65 : v41 = v63 := (e64.trans e49.symm).symm
            subst q65
            refine And.intro rfl (And.intro (And.intro i1 (And.intro j1 (And.intro (by rw [← e61]; omega) (by rw [← e64]; omega)))) (fun r66 g68 g69 g67 => ?_))
            refine fun v70 gv70 e71 => ?_
            have b72 := ivf_at j1 1 rfl
            refine fun v73 e74 => ?_
            refine And.intro (by omega) (fun A75 e76 => ?_)
            have i77 := iva_sf i1 e76 rfl
            have j78 := ivf_st j1 e76 (And.intro (by omega) trivial)
            have f79 := frm_sf f1 e76 rfl
            have t80 : A75 71 (fd 8) = B 71 (fd 8) := (congrFun (st_a e76 rfl) _)
            have t81 := st_v e76
            have t82 : A75 54 (fd 2) = B 54 (fd 2) := (st_f e76 rfl)
            have kk83 := KO_k c5 (st_a e76 rfl) (st_a e76 rfl) (st_a e76 rfl) (st_a e76 rfl)
            have pf84 := PF_k c6 (st_a e76 rfl)
            obtain ⟨v85, e86⟩ : ∃ v, v = A75 54 (fd 0) := ⟨_, rfl⟩
            have q87 : v39 = v85 := (e86.trans ((st_f e76 rfl).trans e61.symm)).symm
            subst q87
            obtain ⟨v88, e89⟩ : ∃ v, v = A75 54 (fd 1) := ⟨_, rfl⟩
            have q90 : v41 = v88 := (e89.trans ((st_f e76 rfl).trans e64.symm)).symm
            subst q90
            refine Exists.intro l1 (And.intro rfl (And.intro (And.intro i77 (And.intro j78 (And.intro (by omega) (And.intro (by omega) (And.intro (by rw [← e86]; omega) (And.intro (by rw [← e89]; omega) (And.intro kk83 (by first | assumption | omega | simp_all)))))))) (fun A91 i92 j93 f94 r95 g100 g101 g96 g97 g98 g99 => ?_)))
            have f102 := frm_c f79 f94 rfl
            have t103 := ivf_at j93 12 rfl
            have t104 := ivf_at j93 1 rfl
            have t105 : A91 54 (fd 2) = A75 54 (fd 2) := (frm_f f94 rfl)
            have pf106 := PF_tr pf84 g97 (by omega)
            obtain ⟨v107, e108⟩ : ∃ v, v = A91 54 (fd 1) := ⟨_, rfl⟩
            have q109 : v41 = v107 := (e108.trans ((frm_f f94 rfl).trans e89.symm)).symm
            subst q109
            refine And.intro (show A91 54 (fd 1) = ((71 : Nat) : Int) by omega) ?_
            refine Exists.intro r66 (Exists.intro 0 (And.intro rfl (And.intro (And.intro i92 (And.intro j93 (And.intro (by omega) (And.intro (by omega) (And.intro g96 (And.intro (by first | assumption | omega | simp_all) (by first | assumption | omega | simp_all))))))) (fun A110 i111 j112 f113 g114 g115 g116 g117 => ?_))))
            have f118 := frm_c f102 f113 rfl
            have t119 := ivf_at j112 12 rfl
            have t120 : A110 54 (fd 3) = A91 54 (fd 3) := (frm_f f113 rfl)
            have t121 : A110 54 (fd 2) = A91 54 (fd 2) := (frm_f f113 rfl)
            have pf122 := PF_tr pf106 g115 (by omega)
            refine fun v123 e124 => ?_
            obtain ⟨v125, e126⟩ : ∃ v, v = A110 54 (fd 0) := ⟨_, rfl⟩
            have q127 : v39 = v125 := (e126.trans ((Eq.trans (frm_f f113 rfl) (frm_f f94 rfl)).trans e86.symm)).symm
            subst q127
            obtain ⟨v128, e129⟩ : ∃ v, v = A110 54 (fd 1) := ⟨_, rfl⟩
            have q130 : v41 = v128 := (e129.trans ((frm_f f113 rfl).trans e108.symm)).symm
            subst q130
            exact And.intro (by omega) (Exists.intro (200 - v123 : Int).toNat (And.intro (by omega) (And.intro i111 (And.intro j112 (And.intro f118 (And.intro rfl (And.intro (by rw [← e126]; omega) (And.intro (by rw [← e129]; omega) (And.intro (by omega) (And.intro (by omega) (And.intro (by omega) (And.intro (by omega) (And.intro (by omega) (And.intro g114 (And.intro pf122 (And.intro (by omega) (And.intro (by omega) (by omega))))))))))))))))))
  · obtain ⟨v11, e12⟩ : ∃ v, v = A 54 (fd 0) := ⟨_, rfl⟩
    have q13 : v7 = v11 := (e12.trans e8.symm).symm
    subst q13
    obtain ⟨v14, e15⟩ : ∃ v, v = A 54 (fd 1) := ⟨_, rfl⟩
    have q16 : v9 = v14 := (e15.trans e10.symm).symm
    subst q16
    refine Exists.intro d (And.intro rfl (And.intro (And.intro i0 (And.intro j0 (And.intro (by omega) (And.intro (by omega) (And.intro (by rw [← e12]; omega) (And.intro (by rw [← e15]; omega) (And.intro p5 (by first | assumption | omega | simp_all)))))))) (fun A17 i18 j19 f20 r21 g26 g27 g22 g23 g24 g25 => ?_)))
    have f28 := frm_c f0 f20 rfl
    have t29 := ivf_at j19 12 rfl
    have t30 := ivf_at j19 1 rfl
    have t31 : A17 54 (fd 2) = A 54 (fd 2) := (frm_f f20 rfl)
    have pf32 := PF_tr pf0 g23 (by omega)
    obtain ⟨v33, e34⟩ : ∃ v, v = A17 54 (fd 0) := ⟨_, rfl⟩
    have q35 : v7 = v33 := (e34.trans ((frm_f f20 rfl).trans e12.symm)).symm
    subst q35
    obtain ⟨v36, e37⟩ : ∃ v, v = A17 54 (fd 1) := ⟨_, rfl⟩
    have q38 : v9 = v36 := (e37.trans ((frm_f f20 rfl).trans e15.symm)).symm
    subst q38
    exact Exists.intro (200 - 0 : Int).toNat (And.intro i18 (And.intro j19 (And.intro f28 (And.intro rfl (And.intro (by rw [← e34]; omega) (And.intro (by rw [← e37]; omega) (And.intro (by omega) (And.intro (by omega) (And.intro (by omega) (And.intro (by omega) (And.intro (by omega) (And.intro g22 (And.intro pf32 (And.intro (by omega) (And.intro (by omega) (by omega))))))))))))))))
def sC_readSum3_71 : qS := fun as A K => ∃ d : Int, as = [rf 54, ni d] ∧ (iva IC A ∧ ivf JC A ∧ 3 ≤ d ∧ d ≤ 3 ∧ (52 ≤ A 54 (fd 0) ∧ A 54 (fd 0) ≤ 52) ∧ (71 ≤ A 54 (fd 1) ∧ A 54 (fd 1) ≤ 71) ∧ (KO A) ∧ (A 71 (fd 8) ≤ A 54 (fd 3))) ∧ (∀ A' : qA, iva IC A' → ivf JC A' → frm [72, 73] [(71, 8), (54, 3), (54, 4)] A A' → ∀ r : Int, 0 ≤ r → r ≤ 1 → (KO A') → (PF 71 A A') → (A 71 (fd 8) ≤ A' 71 (fd 8)) → (A' 71 (fd 8) + A 54 (fd 3) ≤ A 71 (fd 8) + A' 54 (fd 3)) → K (some (ni r)) A')
theorem okC_readSum3_71 : okM LC 14 57 sC_readSum3_71 := by
  refine qmeth [(54, 0, 52), (54, 1, 71)] false [(58, sC_readTerm3_71), (46, sC_look_71), (75, sC_putr71)] 44 rfl ⟨okC_readTerm3_71.le (by decide), ⟨okC_look_71.le (by decide), ⟨okC_putr71.le (by decide), trivial⟩⟩⟩ ?_
  rintro _ A K hA has ⟨d, rfl, ⟨i0, j0, p1, p2, p3, p4, p5, p6⟩, hK⟩
  have rg_d : rng d := has (ni d) (by simp)
  have f0 := frm_0 [72, 73] [(71, 8), (54, 3), (54, 4)] A
  obtain ⟨v7, e8⟩ : ∃ v, v = A 54 (fd 0) := ⟨_, rfl⟩
  rw [← e8] at p3
  obtain ⟨v9, e10⟩ : ∃ v, v = A 54 (fd 1) := ⟨_, rfl⟩
  rw [← e10] at p4
  have pf0 := PF_rf 71 A
  have hb_71_8 := ivf_at j0 12 rfl
  have hb_54_3 := ivf_at j0 1 rfl
  have hb_54_2 := ivf_at j0 0 rfl
  refine ⟨Nat.le_of_ble_eq_true rfl, [(6, [(0, 2, 54), (1, 0, 0), (2, 0, 0), (3, 0, 0)], fun zs B nn => match zs with | [l1, w, i] => iva IC B ∧ ivf JC B ∧ frm [72, 73] [(71, 8), (54, 3), (54, 4)] A B ∧ nn = (200 - i : Int).toNat ∧ (52 ≤ B 54 (fd 0) ∧ B 54 (fd 0) ≤ 52) ∧ (71 ≤ B 54 (fd 1) ∧ B 54 (fd 1) ≤ 71) ∧ (l1 = d) ∧ (0 ≤ i) ∧ (i ≤ 200) ∧ (0 ≤ w) ∧ (w ≤ 1) ∧ (KO B) ∧ (PF 71 A B) ∧ (A 71 (fd 8) ≤ B 71 (fd 8)) ∧ (B 71 (fd 8) + A 54 (fd 3) ≤ A 71 (fd 8) + B 54 (fd 3)) ∧ (B 71 (fd 8) ≤ B 54 (fd 3)) | _ => False)], ?_, ?_⟩
  · refine ⟨⟨rfl, ?_⟩, trivial⟩
    · refine fun l1 w i B mm hB hz hI => ?_
      obtain ⟨i1, j1, f1, hm, d0, d1, c0, c1, c2, c3, c4, c5, c6, c7, c8, c9⟩ := hI
      obtain ⟨hz_l1, hz_w, hz_i, _⟩ := hz
      obtain ⟨v39, e40⟩ : ∃ v, v = B 54 (fd 0) := ⟨_, rfl⟩
      rw [← e40] at d0
      obtain ⟨v41, e42⟩ : ∃ v, v = B 54 (fd 1) := ⟨_, rfl⟩
      rw [← e42] at d1
      have hc_71_8 := ivf_at j1 12 rfl
      have hc_54_3 := ivf_at j1 1 rfl
      have hc_54_2 := ivf_at j1 0 rfl
      have hc_t : B 54 (fd 2) = A 54 (fd 2) := frm_f f1 rfl
      have hc_w : B 53 = A 53 := frm_a f1 rfl
      refine And.intro (fun h43 => ?_) (fun h43 => ?_)
      · exact And.intro (by omega) (hK _ i1 j1 f1 _ (by omega) (by omega) c5 c6 (by first | assumption | omega | simp_all) (by first | assumption | omega | simp_all))
      · refine And.intro (fun h44 => ?_) (fun h44 => ?_)
        · exact And.intro (by omega) (hK _ i1 j1 f1 _ (by omega) (by omega) c5 c6 (by first | assumption | omega | simp_all) (by first | assumption | omega | simp_all))
        · obtain ⟨v45, e46⟩ : ∃ v, v = B 54 (fd 0) := ⟨_, rfl⟩
          have q47 : v39 = v45 := (e46.trans e40.symm).symm
          subst q47
          obtain ⟨v48, e49⟩ : ∃ v, v = B 54 (fd 1) := ⟨_, rfl⟩
          have q50 : v41 = v48 := (e49.trans e42.symm).symm
          subst q50
          refine And.intro rfl (And.intro (And.intro i1 (And.intro j1 (And.intro (by rw [← e46]; omega) (by rw [← e49]; omega)))) (fun r51 g53 g54 g52 => ?_))
          refine fun v55 e56 => ?_
          have h57 := qone_bd 3 r51
          rw [← e56] at h57
          have h58 := qone_p (s := 3) (x := r51) (by omega)
          refine And.intro (fun h59 => ?_) (fun h59 => ?_)
          · exact And.intro (by omega) (hK _ i1 j1 f1 _ (by omega) (by omega) c5 c6 (by first | assumption | omega | simp_all) (by first | assumption | omega | simp_all))
          · obtain ⟨v60, e61⟩ : ∃ v, v = B 54 (fd 0) := ⟨_, rfl⟩
            have q62 : v39 = v60 := (e61.trans e46.symm).symm
            subst q62
            obtain ⟨v63, e64⟩ : ∃ v, v = B 54 (fd 1) := ⟨_, rfl⟩
            have q65 : v41 = v63 := (e64.trans e49.symm).symm
            subst q65
            refine And.intro rfl (And.intro (And.intro i1 (And.intro j1 (And.intro (by rw [← e61]; omega) (by rw [← e64]; omega)))) (fun r66 g68 g69 g67 => ?_))
            refine fun v70 gv70 e71 => ?_
            have b72 := ivf_at j1 1 rfl
            refine fun v73 e74 => ?_
            refine And.intro (by omega) (fun A75 e76 => ?_)
            have i77 := iva_sf i1 e76 rfl
            have j78 := ivf_st j1 e76 (And.intro (by omega) trivial)
            have f79 := frm_sf f1 e76 rfl
            have t80 : A75 71 (fd 8) = B 71 (fd 8) := (congrFun (st_a e76 rfl) _)
            have t81 := st_v e76
            have t82 : A75 54 (fd 2) = B 54 (fd 2) := (st_f e76 rfl)
            have kk83 := KO_k c5 (st_a e76 rfl) (st_a e76 rfl) (st_a e76 rfl) (st_a e76 rfl)
            have pf84 := PF_k c6 (st_a e76 rfl)
            obtain ⟨v85, e86⟩ : ∃ v, v = A75 54 (fd 0) := ⟨_, rfl⟩
            have q87 : v39 = v85 := (e86.trans ((st_f e76 rfl).trans e61.symm)).symm
            subst q87
            obtain ⟨v88, e89⟩ : ∃ v, v = A75 54 (fd 1) := ⟨_, rfl⟩
            have q90 : v41 = v88 := (e89.trans ((st_f e76 rfl).trans e64.symm)).symm
            subst q90
            refine Exists.intro l1 (And.intro rfl (And.intro (And.intro i77 (And.intro j78 (And.intro (by omega) (And.intro (by omega) (And.intro (by rw [← e86]; omega) (And.intro (by rw [← e89]; omega) (And.intro kk83 (by first | assumption | omega | simp_all)))))))) (fun A91 i92 j93 f94 r95 g100 g101 g96 g97 g98 g99 => ?_)))
            have f102 := frm_c f79 f94 rfl
            have t103 := ivf_at j93 12 rfl
            have t104 := ivf_at j93 1 rfl
            have t105 : A91 54 (fd 2) = A75 54 (fd 2) := (frm_f f94 rfl)
            have pf106 := PF_tr pf84 g97 (by omega)
            obtain ⟨v107, e108⟩ : ∃ v, v = A91 54 (fd 1) := ⟨_, rfl⟩
            have q109 : v41 = v107 := (e108.trans ((frm_f f94 rfl).trans e89.symm)).symm
            subst q109
            refine And.intro (show A91 54 (fd 1) = ((71 : Nat) : Int) by omega) ?_
            refine Exists.intro r66 (Exists.intro 0 (And.intro rfl (And.intro (And.intro i92 (And.intro j93 (And.intro (by omega) (And.intro (by omega) (And.intro g96 (And.intro (by first | assumption | omega | simp_all) (by first | assumption | omega | simp_all))))))) (fun A110 i111 j112 f113 g114 g115 g116 g117 => ?_))))
            have f118 := frm_c f102 f113 rfl
            have t119 := ivf_at j112 12 rfl
            have t120 : A110 54 (fd 3) = A91 54 (fd 3) := (frm_f f113 rfl)
            have t121 : A110 54 (fd 2) = A91 54 (fd 2) := (frm_f f113 rfl)
            have pf122 := PF_tr pf106 g115 (by omega)
            refine fun v123 e124 => ?_
            obtain ⟨v125, e126⟩ : ∃ v, v = A110 54 (fd 0) := ⟨_, rfl⟩
            have q127 : v39 = v125 := (e126.trans ((Eq.trans (frm_f f113 rfl) (frm_f f94 rfl)).trans e86.symm)).symm
            subst q127
            obtain ⟨v128, e129⟩ : ∃ v, v = A110 54 (fd 1) := ⟨_, rfl⟩
            have q130 : v41 = v128 := (e129.trans ((frm_f f113 rfl).trans e108.symm)).symm
            subst q130
            exact And.intro (by omega) (Exists.intro (200 - v123 : Int).toNat (And.intro (by omega) (And.intro i111 (And.intro j112 (And.intro f118 (And.intro rfl (And.intro (by rw [← e126]; omega) (And.intro (by rw [← e129]; omega) (And.intro (by omega) (And.intro (by omega) (And.intro (by omega) (And.intro (by omega) (And.intro (by omega) (And.intro g114 (And.intro pf122 (And.intro (by omega) (And.intro (by omega) (by omega))))))))))))))))))
  · obtain ⟨v11, e12⟩ : ∃ v, v = A 54 (fd 0) := ⟨_, rfl⟩
    have q13 : v7 = v11 := (e12.trans e8.symm).symm
    subst q13
    obtain ⟨v14, e15⟩ : ∃ v, v = A 54 (fd 1) := ⟨_, rfl⟩
    have q16 : v9 = v14 := (e15.trans e10.symm).symm
    subst q16
    refine Exists.intro d (And.intro rfl (And.intro (And.intro i0 (And.intro j0 (And.intro (by omega) (And.intro (by omega) (And.intro (by rw [← e12]; omega) (And.intro (by rw [← e15]; omega) (And.intro p5 (by first | assumption | omega | simp_all)))))))) (fun A17 i18 j19 f20 r21 g26 g27 g22 g23 g24 g25 => ?_)))
    have f28 := frm_c f0 f20 rfl
    have t29 := ivf_at j19 12 rfl
    have t30 := ivf_at j19 1 rfl
    have t31 : A17 54 (fd 2) = A 54 (fd 2) := (frm_f f20 rfl)
    have pf32 := PF_tr pf0 g23 (by omega)
    obtain ⟨v33, e34⟩ : ∃ v, v = A17 54 (fd 0) := ⟨_, rfl⟩
    have q35 : v7 = v33 := (e34.trans ((frm_f f20 rfl).trans e12.symm)).symm
    subst q35
    obtain ⟨v36, e37⟩ : ∃ v, v = A17 54 (fd 1) := ⟨_, rfl⟩
    have q38 : v9 = v36 := (e37.trans ((frm_f f20 rfl).trans e15.symm)).symm
    subst q38
    exact Exists.intro (200 - 0 : Int).toNat (And.intro i18 (And.intro j19 (And.intro f28 (And.intro rfl (And.intro (by rw [← e34]; omega) (And.intro (by rw [← e37]; omega) (And.intro (by omega) (And.intro (by omega) (And.intro (by omega) (And.intro (by omega) (And.intro (by omega) (And.intro g22 (And.intro pf32 (And.intro (by omega) (And.intro (by omega) (by omega))))))))))))))))
def sC_readComparison3_71 : qS := fun as A K => ∃ d : Int, as = [rf 54, ni d] ∧ (iva IC A ∧ ivf JC A ∧ 3 ≤ d ∧ d ≤ 3 ∧ (52 ≤ A 54 (fd 0) ∧ A 54 (fd 0) ≤ 52) ∧ (71 ≤ A 54 (fd 1) ∧ A 54 (fd 1) ≤ 71) ∧ (KO A) ∧ (A 71 (fd 8) ≤ A 54 (fd 3))) ∧ (∀ A' : qA, iva IC A' → ivf JC A' → frm [72, 73] [(71, 8), (54, 3), (54, 4)] A A' → ∀ r : Int, 0 ≤ r → r ≤ 1 → (KO A') → (PF 71 A A') → (A 71 (fd 8) ≤ A' 71 (fd 8)) → (A' 71 (fd 8) + A 54 (fd 3) ≤ A 71 (fd 8) + A' 54 (fd 3)) → K (some (ni r)) A')
theorem okC_readComparison3_71 : okM LC 15 56 sC_readComparison3_71 := by
  refine qmeth [(54, 0, 52), (54, 1, 71)] false [(57, sC_readSum3_71), (46, sC_look_71), (75, sC_putr71), (47, sC_fail_71)] 42 rfl ⟨okC_readSum3_71.le (by decide), ⟨okC_look_71.le (by decide), ⟨okC_putr71.le (by decide), ⟨okC_fail_71.le (by decide), trivial⟩⟩⟩⟩ ?_
  rintro _ A K hA has ⟨d, rfl, ⟨i0, j0, p1, p2, p3, p4, p5, p6⟩, hK⟩
  have rg_d : rng d := has (ni d) (by simp)
  have f0 := frm_0 [72, 73] [(71, 8), (54, 3), (54, 4)] A
  obtain ⟨v7, e8⟩ : ∃ v, v = A 54 (fd 0) := ⟨_, rfl⟩
  rw [← e8] at p3
  obtain ⟨v9, e10⟩ : ∃ v, v = A 54 (fd 1) := ⟨_, rfl⟩
  rw [← e10] at p4
  have pf0 := PF_rf 71 A
  have hb_71_8 := ivf_at j0 12 rfl
  have hb_54_3 := ivf_at j0 1 rfl
  have hb_54_2 := ivf_at j0 0 rfl
  refine ⟨Nat.le_of_ble_eq_true rfl, [], trivial, ?_⟩
  obtain ⟨v11, e12⟩ : ∃ v, v = A 54 (fd 0) := ⟨_, rfl⟩
  have q13 : v7 = v11 := (e12.trans e8.symm).symm
  subst q13
  obtain ⟨v14, e15⟩ : ∃ v, v = A 54 (fd 1) := ⟨_, rfl⟩
  have q16 : v9 = v14 := (e15.trans e10.symm).symm
  subst q16
  refine Exists.intro d (And.intro rfl (And.intro (And.intro i0 (And.intro j0 (And.intro (by omega) (And.intro (by omega) (And.intro (by rw [← e12]; omega) (And.intro (by rw [← e15]; omega) (And.intro p5 (by first | assumption | omega | simp_all)))))))) (fun A17 i18 j19 f20 r21 g26 g27 g22 g23 g24 g25 => ?_)))
  have f28 := frm_c f0 f20 rfl
  have t29 := ivf_at j19 12 rfl
  have t30 := ivf_at j19 1 rfl
  have t31 : A17 54 (fd 2) = A 54 (fd 2) := (frm_f f20 rfl)
  have pf32 := PF_tr pf0 g23 (by omega)
  refine And.intro (fun h33 => ?_) (fun h33 => ?_)
  · obtain ⟨v34, e35⟩ : ∃ v, v = A17 54 (fd 0) := ⟨_, rfl⟩
    have q36 : v7 = v34 := (e35.trans ((frm_f f20 rfl).trans e12.symm)).symm
    subst q36
    obtain ⟨v37, e38⟩ : ∃ v, v = A17 54 (fd 1) := ⟨_, rfl⟩
    have q39 : v9 = v37 := (e38.trans ((frm_f f20 rfl).trans e15.symm)).symm
    subst q39
    refine And.intro rfl (And.intro (And.intro i18 (And.intro j19 (And.intro (by rw [← e35]; omega) (by rw [← e38]; omega)))) (fun r40 g42 g43 g41 => ?_))
    refine fun v44 e45 => ?_
    have h46 := qone_bd 2 r40
    rw [← e45] at h46
    have h47 := qone_p (s := 2) (x := r40) (by omega)
    refine And.intro (fun h48 => ?_) (fun h48 => ?_)
    · refine fun v49 gv49 e50 => ?_
      have b51 := ivf_at j19 1 rfl
      refine fun v52 e53 => ?_
      refine And.intro (by omega) (fun A54 e55 => ?_)
      have i56 := iva_sf i18 e55 rfl
      have j57 := ivf_st j19 e55 (And.intro (by omega) trivial)
      have f58 := frm_sf f28 e55 rfl
      have t59 : A54 71 (fd 8) = A17 71 (fd 8) := (congrFun (st_a e55 rfl) _)
      have t60 := st_v e55
      have t61 : A54 54 (fd 2) = A17 54 (fd 2) := (st_f e55 rfl)
      have kk62 := KO_k g22 (st_a e55 rfl) (st_a e55 rfl) (st_a e55 rfl) (st_a e55 rfl)
      have pf63 := PF_k pf32 (st_a e55 rfl)
      obtain ⟨v64, e65⟩ : ∃ v, v = A54 54 (fd 0) := ⟨_, rfl⟩
      have q66 : v7 = v64 := (e65.trans ((st_f e55 rfl).trans e35.symm)).symm
      subst q66
      obtain ⟨v67, e68⟩ : ∃ v, v = A54 54 (fd 1) := ⟨_, rfl⟩
      have q69 : v9 = v67 := (e68.trans ((st_f e55 rfl).trans e38.symm)).symm
      subst q69
      refine Exists.intro d (And.intro rfl (And.intro (And.intro i56 (And.intro j57 (And.intro (by omega) (And.intro (by omega) (And.intro (by rw [← e65]; omega) (And.intro (by rw [← e68]; omega) (And.intro kk62 (by first | assumption | omega | simp_all)))))))) (fun A70 i71 j72 f73 r74 g79 g80 g75 g76 g77 g78 => ?_)))
      have f81 := frm_c f58 f73 rfl
      have t82 := ivf_at j72 12 rfl
      have t83 := ivf_at j72 1 rfl
      have t84 : A70 54 (fd 2) = A54 54 (fd 2) := (frm_f f73 rfl)
      have pf85 := PF_tr pf63 g76 (by omega)
      refine And.intro (fun h86 => ?_) (fun h86 => ?_)
      · obtain ⟨v87, e88⟩ : ∃ v, v = A70 54 (fd 1) := ⟨_, rfl⟩
        have q89 : v9 = v87 := (e88.trans ((frm_f f73 rfl).trans e68.symm)).symm
        subst q89
        refine And.intro (show A70 54 (fd 1) = ((71 : Nat) : Int) by omega) ?_
        refine Exists.intro r40 (Exists.intro 0 (And.intro rfl (And.intro (And.intro i71 (And.intro j72 (And.intro (by omega) (And.intro (by omega) (And.intro g75 (And.intro (by first | assumption | omega | simp_all) (by first | assumption | omega | simp_all))))))) (fun A90 i91 j92 f93 g94 g95 g96 g97 => ?_))))
        have f98 := frm_c f81 f93 rfl
        have t99 := ivf_at j92 12 rfl
        have t100 : A90 54 (fd 3) = A70 54 (fd 3) := (frm_f f93 rfl)
        have t101 : A90 54 (fd 2) = A70 54 (fd 2) := (frm_f f93 rfl)
        have pf102 := PF_tr pf85 g95 (by omega)
        exact And.intro (by omega) (hK _ i91 j92 f98 _ (by omega) (by omega) g94 pf102 (by first | assumption | omega | simp_all) (by first | assumption | omega | simp_all))
      · exact And.intro (by omega) (hK _ i71 j72 f81 _ (by omega) (by omega) g75 pf85 (by first | assumption | omega | simp_all) (by first | assumption | omega | simp_all))
    · obtain ⟨v103, e104⟩ : ∃ v, v = A17 54 (fd 0) := ⟨_, rfl⟩
      have q105 : v7 = v103 := (e104.trans e35.symm).symm
      subst q105
      obtain ⟨v106, e107⟩ : ∃ v, v = A17 54 (fd 1) := ⟨_, rfl⟩
      have q108 : v9 = v106 := (e107.trans e38.symm).symm
      subst q108
      refine Exists.intro 1 (And.intro rfl (And.intro (And.intro i18 (And.intro j19 (And.intro (by omega) (And.intro (by omega) (And.intro (by rw [← e104]; omega) (by rw [← e107]; omega)))))) (fun A109 i110 j111 f112 => (fun h113 => ?_))))
      · have f114 := frm_c f28 f112 rfl
        have t115 : A109 71 (fd 8) = A17 71 (fd 8) := (frm_f f112 rfl)
        have t116 : A109 54 (fd 3) = A17 54 (fd 3) := (frm_f f112 rfl)
        have t117 : A109 54 (fd 2) = A17 54 (fd 2) := (frm_f f112 rfl)
        have kk118 := KO_fr g22 f112 rfl
        have pf119 := PF_k pf32 (frm_a f112 rfl)
        exact And.intro (by omega) (hK _ i110 j111 f114 _ (by omega) (by omega) kk118 pf119 (by first | assumption | omega | simp_all) (by first | assumption | omega | simp_all))
  · exact And.intro (by omega) (hK _ i18 j19 f28 _ (by omega) (by omega) g22 pf32 (by first | assumption | omega | simp_all) (by first | assumption | omega | simp_all))
def sC_readPiece3_71 : qS := fun as A K => ∃ d : Int, as = [rf 54, ni d] ∧ (iva IC A ∧ ivf JC A ∧ 3 ≤ d ∧ d ≤ 3 ∧ (52 ≤ A 54 (fd 0) ∧ A 54 (fd 0) ≤ 52) ∧ (71 ≤ A 54 (fd 1) ∧ A 54 (fd 1) ≤ 71) ∧ (KO A) ∧ (A 71 (fd 8) ≤ A 54 (fd 3))) ∧ (∀ A' : qA, iva IC A' → ivf JC A' → frm [72, 73] [(71, 8), (54, 3), (54, 4)] A A' → ∀ r : Int, 0 ≤ r → r ≤ 1 → (KO A') → (PF 71 A A') → (A 71 (fd 8) ≤ A' 71 (fd 8)) → (A' 71 (fd 8) + A 54 (fd 3) ≤ A 71 (fd 8) + A' 54 (fd 3)) → K (some (ni r)) A')
theorem okC_readPiece3_71 : okM LC 16 55 sC_readPiece3_71 := by
  refine qmeth [(54, 0, 52), (54, 1, 71)] false [(46, sC_look_71), (56, sC_readComparison3_71), (49, sC_enter_71), (55, sC_readPiece4_71), (75, sC_putr71), (52, sC_readCondition4_71), (48, sC_expect_71)] 56 rfl ⟨okC_look_71.le (by decide), ⟨okC_readComparison3_71.le (by decide), ⟨okC_enter_71.le (by decide), ⟨okC_readPiece4_71.le (by decide), ⟨okC_putr71.le (by decide), ⟨okC_readCondition4_71.le (by decide), ⟨okC_expect_71.le (by decide), trivial⟩⟩⟩⟩⟩⟩⟩ ?_
  rintro _ A K hA has ⟨d, rfl, ⟨i0, j0, p1, p2, p3, p4, p5, p6⟩, hK⟩
  have rg_d : rng d := has (ni d) (by simp)
  have f0 := frm_0 [72, 73] [(71, 8), (54, 3), (54, 4)] A
  obtain ⟨v7, e8⟩ : ∃ v, v = A 54 (fd 0) := ⟨_, rfl⟩
  rw [← e8] at p3
  obtain ⟨v9, e10⟩ : ∃ v, v = A 54 (fd 1) := ⟨_, rfl⟩
  rw [← e10] at p4
  have pf0 := PF_rf 71 A
  have hb_71_8 := ivf_at j0 12 rfl
  have hb_54_3 := ivf_at j0 1 rfl
  have hb_54_2 := ivf_at j0 0 rfl
  refine ⟨Nat.le_of_ble_eq_true rfl, [], trivial, ?_⟩
  obtain ⟨v11, e12⟩ : ∃ v, v = A 54 (fd 0) := ⟨_, rfl⟩
  have q13 : v7 = v11 := (e12.trans e8.symm).symm
  subst q13
  obtain ⟨v14, e15⟩ : ∃ v, v = A 54 (fd 1) := ⟨_, rfl⟩
  have q16 : v9 = v14 := (e15.trans e10.symm).symm
  subst q16
  refine And.intro rfl (And.intro (And.intro i0 (And.intro j0 (And.intro (by rw [← e12]; omega) (by rw [← e15]; omega)))) (fun r17 g19 g20 g18 => ?_))
  refine And.intro (fun h21 => ?_) (fun h21 => ?_)
  · refine And.intro (fun h22 => ?_) (fun h22 => ?_)
    · obtain ⟨v23, e24⟩ : ∃ v, v = A 54 (fd 0) := ⟨_, rfl⟩
      have q25 : v7 = v23 := (e24.trans e12.symm).symm
      subst q25
      obtain ⟨v26, e27⟩ : ∃ v, v = A 54 (fd 1) := ⟨_, rfl⟩
      have q28 : v9 = v26 := (e27.trans e15.symm).symm
      subst q28
      refine Exists.intro d (And.intro rfl (And.intro (And.intro i0 (And.intro j0 (And.intro (by omega) (And.intro (by omega) (And.intro (by rw [← e24]; omega) (And.intro (by rw [← e27]; omega) (And.intro p5 (by first | assumption | omega | simp_all)))))))) (fun A29 i30 j31 f32 r33 g38 g39 g34 g35 g36 g37 => ?_)))
      have f40 := frm_c f0 f32 rfl
      have t41 := ivf_at j31 12 rfl
      have t42 := ivf_at j31 1 rfl
      have t43 : A29 54 (fd 2) = A 54 (fd 2) := (frm_f f32 rfl)
      have pf44 := PF_tr pf0 g35 (by omega)
      exact And.intro (by omega) (hK _ i30 j31 f40 _ (by omega) (by omega) g34 pf44 (by first | assumption | omega | simp_all) (by first | assumption | omega | simp_all))
    · obtain ⟨v45, e46⟩ : ∃ v, v = A 54 (fd 0) := ⟨_, rfl⟩
      have q47 : v7 = v45 := (e46.trans e12.symm).symm
      subst q47
      obtain ⟨v48, e49⟩ : ∃ v, v = A 54 (fd 1) := ⟨_, rfl⟩
      have q50 : v9 = v48 := (e49.trans e15.symm).symm
      subst q50
      refine Exists.intro d (And.intro rfl (And.intro (And.intro i0 (And.intro j0 (And.intro (by omega) (And.intro (by omega) (And.intro (by rw [← e46]; omega) (And.intro (by rw [← e49]; omega) (And.intro p5 (by first | assumption | omega | simp_all)))))))) (fun A51 i52 j53 f54 g55 g56 => (And.intro (fun h57 => ?_) (fun h57 => by exfalso; omega)))))
      · have f58 := frm_c f0 f54 rfl
        have t59 : A51 71 (fd 8) = A 71 (fd 8) := (frm_f f54 rfl)
        have t60 := ivf_at j53 1 rfl
        have t61 : A51 54 (fd 2) = A 54 (fd 2) := (frm_f f54 rfl)
        have kk62 := KO_fr p5 f54 rfl
        have pf63 := PF_k pf0 (frm_a f54 rfl)
        refine And.intro (fun h64 => by exfalso; omega) (fun h64 => ?_)
        refine fun v65 e66 => ?_
        obtain ⟨v67, e68⟩ : ∃ v, v = A51 54 (fd 0) := ⟨_, rfl⟩
        have q69 : v7 = v67 := (e68.trans ((frm_f f54 rfl).trans e46.symm)).symm
        subst q69
        obtain ⟨v70, e71⟩ : ∃ v, v = A51 54 (fd 1) := ⟨_, rfl⟩
        have q72 : v9 = v70 := (e71.trans ((frm_f f54 rfl).trans e49.symm)).symm
        subst q72
        refine And.intro (by omega) (Exists.intro v65 (And.intro rfl (And.intro (And.intro i52 (And.intro j53 (And.intro (by omega) (And.intro (by omega) (And.intro (by rw [← e68]; omega) (And.intro (by rw [← e71]; omega) (And.intro kk62 (by first | assumption | omega | simp_all)))))))) (fun A73 i74 j75 f76 r77 g82 g83 g78 g79 g80 g81 => ?_))))
        have f84 := frm_c f58 f76 rfl
        have t85 := ivf_at j75 12 rfl
        have t86 := ivf_at j75 1 rfl
        have t87 : A73 54 (fd 2) = A51 54 (fd 2) := (frm_f f76 rfl)
        have pf88 := PF_tr pf63 g79 (by omega)
        refine And.intro (fun h89 => ?_) (fun h89 => ?_)
        · obtain ⟨v90, e91⟩ : ∃ v, v = A73 54 (fd 1) := ⟨_, rfl⟩
          have q92 : v9 = v90 := (e91.trans ((frm_f f76 rfl).trans e71.symm)).symm
          subst q92
          refine And.intro (show A73 54 (fd 1) = ((71 : Nat) : Int) by omega) ?_
          refine Exists.intro 33 (Exists.intro 0 (And.intro rfl (And.intro (And.intro i74 (And.intro j75 (And.intro (by omega) (And.intro (by omega) (And.intro g78 (And.intro (by first | assumption | omega | simp_all) (by first | assumption | omega | simp_all))))))) (fun A93 i94 j95 f96 g97 g98 g99 g100 => ?_))))
          have f101 := frm_c f84 f96 rfl
          have t102 := ivf_at j95 12 rfl
          have t103 : A93 54 (fd 3) = A73 54 (fd 3) := (frm_f f96 rfl)
          have t104 : A93 54 (fd 2) = A73 54 (fd 2) := (frm_f f96 rfl)
          have pf105 := PF_tr pf88 g98 (by omega)
          exact And.intro (by omega) (hK _ i94 j95 f101 _ (by omega) (by omega) g97 pf105 (by first | assumption | omega | simp_all) (by first | assumption | omega | simp_all))
        · exact And.intro (by omega) (hK _ i74 j75 f84 _ (by omega) (by omega) g78 pf88 (by first | assumption | omega | simp_all) (by first | assumption | omega | simp_all))
  · obtain ⟨v106, e107⟩ : ∃ v, v = A 54 (fd 0) := ⟨_, rfl⟩
    have q108 : v7 = v106 := (e107.trans e12.symm).symm
    subst q108
    obtain ⟨v109, e110⟩ : ∃ v, v = A 54 (fd 1) := ⟨_, rfl⟩
    have q111 : v9 = v109 := (e110.trans e15.symm).symm
    subst q111
    refine Exists.intro d (And.intro rfl (And.intro (And.intro i0 (And.intro j0 (And.intro (by omega) (And.intro (by omega) (And.intro (by rw [← e107]; omega) (And.intro (by rw [← e110]; omega) (And.intro p5 (by first | assumption | omega | simp_all)))))))) (fun A112 i113 j114 f115 g116 g117 => (And.intro (fun h118 => ?_) (fun h118 => by exfalso; omega)))))
    · have f119 := frm_c f0 f115 rfl
      have t120 : A112 71 (fd 8) = A 71 (fd 8) := (frm_f f115 rfl)
      have t121 := ivf_at j114 1 rfl
      have t122 : A112 54 (fd 2) = A 54 (fd 2) := (frm_f f115 rfl)
      have kk123 := KO_fr p5 f115 rfl
      have pf124 := PF_k pf0 (frm_a f115 rfl)
      refine And.intro (fun h125 => by exfalso; omega) (fun h125 => ?_)
      refine fun v126 e127 => ?_
      obtain ⟨v128, e129⟩ : ∃ v, v = A112 54 (fd 0) := ⟨_, rfl⟩
      have q130 : v7 = v128 := (e129.trans ((frm_f f115 rfl).trans e107.symm)).symm
      subst q130
      obtain ⟨v131, e132⟩ : ∃ v, v = A112 54 (fd 1) := ⟨_, rfl⟩
      have q133 : v9 = v131 := (e132.trans ((frm_f f115 rfl).trans e110.symm)).symm
      subst q133
      refine And.intro (by omega) (Exists.intro v126 (And.intro rfl (And.intro (And.intro i113 (And.intro j114 (And.intro (by omega) (And.intro (by omega) (And.intro (by rw [← e129]; omega) (And.intro (by rw [← e132]; omega) (And.intro kk123 (by first | assumption | omega | simp_all)))))))) (fun A134 i135 j136 f137 r138 g143 g144 g139 g140 g141 g142 => ?_))))
      have f145 := frm_c f119 f137 rfl
      have t146 := ivf_at j136 12 rfl
      have t147 := ivf_at j136 1 rfl
      have t148 : A134 54 (fd 2) = A112 54 (fd 2) := (frm_f f137 rfl)
      have pf149 := PF_tr pf124 g140 (by omega)
      refine And.intro (fun h150 => ?_) (fun h150 => ?_)
      · exact And.intro (by omega) (hK _ i135 j136 f145 _ (by omega) (by omega) g139 pf149 (by first | assumption | omega | simp_all) (by first | assumption | omega | simp_all))
      · obtain ⟨v151, e152⟩ : ∃ v, v = A134 54 (fd 0) := ⟨_, rfl⟩
        have q153 : v7 = v151 := (e152.trans ((frm_f f137 rfl).trans e129.symm)).symm
        subst q153
        obtain ⟨v154, e155⟩ : ∃ v, v = A134 54 (fd 1) := ⟨_, rfl⟩
        have q156 : v9 = v154 := (e155.trans ((frm_f f137 rfl).trans e132.symm)).symm
        subst q156
        refine Exists.intro 41 (And.intro rfl (And.intro (And.intro i135 (And.intro j136 (And.intro (by omega) (And.intro (by omega) (And.intro (by rw [← e152]; omega) (And.intro (by rw [← e155]; omega) (And.intro g139 (by first | assumption | omega | simp_all)))))))) (fun A157 i158 j159 f160 r161 g163 g164 g162 => ?_)))
        have f165 := frm_c f145 f160 rfl
        have t166 : A157 71 (fd 8) = A134 71 (fd 8) := (frm_f f160 rfl)
        have t167 := ivf_at j159 1 rfl
        have t168 : A157 54 (fd 2) = A134 54 (fd 2) := (frm_f f160 rfl)
        have kk169 := KO_fr g139 f160 rfl
        have pf170 := PF_k pf149 (frm_a f160 rfl)
        refine And.intro (fun h171 => ?_) (fun h171 => ?_)
        · exact And.intro (by omega) (hK _ i158 j159 f165 _ (by omega) (by omega) kk169 pf170 (by first | assumption | omega | simp_all) (by first | assumption | omega | simp_all))
        · exact And.intro (by omega) (hK _ i158 j159 f165 _ (by omega) (by omega) kk169 pf170 (by first | assumption | omega | simp_all) (by first | assumption | omega | simp_all))
def sC_readPart3_71 : qS := fun as A K => ∃ d : Int, as = [rf 54, ni d] ∧ (iva IC A ∧ ivf JC A ∧ 3 ≤ d ∧ d ≤ 3 ∧ (52 ≤ A 54 (fd 0) ∧ A 54 (fd 0) ≤ 52) ∧ (71 ≤ A 54 (fd 1) ∧ A 54 (fd 1) ≤ 71) ∧ (KO A) ∧ (A 71 (fd 8) ≤ A 54 (fd 3))) ∧ (∀ A' : qA, iva IC A' → ivf JC A' → frm [72, 73] [(71, 8), (54, 3), (54, 4)] A A' → ∀ r : Int, 0 ≤ r → r ≤ 1 → (KO A') → (PF 71 A A') → (A 71 (fd 8) ≤ A' 71 (fd 8)) → (A' 71 (fd 8) + A 54 (fd 3) ≤ A 71 (fd 8) + A' 54 (fd 3)) → K (some (ni r)) A')
theorem okC_readPart3_71 : okM LC 17 53 sC_readPart3_71 := by
  refine qmeth [(54, 0, 52), (54, 1, 71)] false [(55, sC_readPiece3_71), (46, sC_look_71), (54, sC_readJump_71)] 40 rfl ⟨okC_readPiece3_71.le (by decide), ⟨okC_look_71.le (by decide), ⟨okC_readJump_71.le (by decide), trivial⟩⟩⟩ ?_
  rintro _ A K hA has ⟨d, rfl, ⟨i0, j0, p1, p2, p3, p4, p5, p6⟩, hK⟩
  have rg_d : rng d := has (ni d) (by simp)
  have f0 := frm_0 [72, 73] [(71, 8), (54, 3), (54, 4)] A
  obtain ⟨v7, e8⟩ : ∃ v, v = A 54 (fd 0) := ⟨_, rfl⟩
  rw [← e8] at p3
  obtain ⟨v9, e10⟩ : ∃ v, v = A 54 (fd 1) := ⟨_, rfl⟩
  rw [← e10] at p4
  have pf0 := PF_rf 71 A
  have hb_71_8 := ivf_at j0 12 rfl
  have hb_54_3 := ivf_at j0 1 rfl
  have hb_54_2 := ivf_at j0 0 rfl
  refine ⟨Nat.le_of_ble_eq_true rfl, [(6, [(0, 2, 54), (1, 0, 0), (2, 0, 0), (3, 0, 0)], fun zs B nn => match zs with | [l1, w, i] => iva IC B ∧ ivf JC B ∧ frm [72, 73] [(71, 8), (54, 3), (54, 4)] A B ∧ nn = (200 - i : Int).toNat ∧ (52 ≤ B 54 (fd 0) ∧ B 54 (fd 0) ≤ 52) ∧ (71 ≤ B 54 (fd 1) ∧ B 54 (fd 1) ≤ 71) ∧ (l1 = d) ∧ (0 ≤ i) ∧ (i ≤ 200) ∧ (0 ≤ w) ∧ (w ≤ 1) ∧ (KO B) ∧ (PF 71 A B) ∧ (A 71 (fd 8) ≤ B 71 (fd 8)) ∧ (B 71 (fd 8) + A 54 (fd 3) ≤ A 71 (fd 8) + B 54 (fd 3)) ∧ (B 71 (fd 8) ≤ B 54 (fd 3)) | _ => False)], ?_, ?_⟩
  · refine ⟨⟨rfl, ?_⟩, trivial⟩
    · refine fun l1 w i B mm hB hz hI => ?_
      obtain ⟨i1, j1, f1, hm, d0, d1, c0, c1, c2, c3, c4, c5, c6, c7, c8, c9⟩ := hI
      obtain ⟨hz_l1, hz_w, hz_i, _⟩ := hz
      obtain ⟨v39, e40⟩ : ∃ v, v = B 54 (fd 0) := ⟨_, rfl⟩
      rw [← e40] at d0
      obtain ⟨v41, e42⟩ : ∃ v, v = B 54 (fd 1) := ⟨_, rfl⟩
      rw [← e42] at d1
      have hc_71_8 := ivf_at j1 12 rfl
      have hc_54_3 := ivf_at j1 1 rfl
      have hc_54_2 := ivf_at j1 0 rfl
      have hc_t : B 54 (fd 2) = A 54 (fd 2) := frm_f f1 rfl
      have hc_w : B 53 = A 53 := frm_a f1 rfl
      refine And.intro (fun h43 => ?_) (fun h43 => ?_)
      · exact And.intro (by omega) (hK _ i1 j1 f1 _ (by omega) (by omega) c5 c6 (by first | assumption | omega | simp_all) (by first | assumption | omega | simp_all))
      · refine And.intro (fun h44 => ?_) (fun h44 => ?_)
        · exact And.intro (by omega) (hK _ i1 j1 f1 _ (by omega) (by omega) c5 c6 (by first | assumption | omega | simp_all) (by first | assumption | omega | simp_all))
        · obtain ⟨v45, e46⟩ : ∃ v, v = B 54 (fd 0) := ⟨_, rfl⟩
          have q47 : v39 = v45 := (e46.trans e40.symm).symm
          subst q47
          obtain ⟨v48, e49⟩ : ∃ v, v = B 54 (fd 1) := ⟨_, rfl⟩
          have q50 : v41 = v48 := (e49.trans e42.symm).symm
          subst q50
          refine And.intro rfl (And.intro (And.intro i1 (And.intro j1 (And.intro (by rw [← e46]; omega) (by rw [← e49]; omega)))) (fun r51 g53 g54 g52 => ?_))
          refine And.intro (fun h55 => ?_) (fun h55 => ?_)
          · exact And.intro (by omega) (hK _ i1 j1 f1 _ (by omega) (by omega) c5 c6 (by first | assumption | omega | simp_all) (by first | assumption | omega | simp_all))
          · obtain ⟨v56, e57⟩ : ∃ v, v = B 54 (fd 0) := ⟨_, rfl⟩
            have q58 : v39 = v56 := (e57.trans e46.symm).symm
            subst q58
            obtain ⟨v59, e60⟩ : ∃ v, v = B 54 (fd 1) := ⟨_, rfl⟩
            have q61 : v41 = v59 := (e60.trans e49.symm).symm
            subst q61
            refine And.intro rfl (And.intro (And.intro i1 (And.intro j1 (And.intro (by rw [← e57]; omega) (And.intro (by rw [← e60]; omega) (And.intro c5 (And.intro (by first | assumption | omega | simp_all) (And.intro (by first | assumption | omega | simp_all) (by first | assumption | omega | simp_all)))))))) (fun A62 i63 j64 f65 r66 g73 g74 g67 g68 g69 g70 g71 g72 => ?_))
            have f75 := frm_c f1 f65 rfl
            have t76 := ivf_at j64 12 rfl
            have t77 := ivf_at j64 1 rfl
            have t78 : A62 54 (fd 2) = B 54 (fd 2) := (frm_f f65 rfl)
            have pf79 := PF_tr c6 g68 (by omega)
            obtain ⟨v80, e81⟩ : ∃ v, v = A62 54 (fd 0) := ⟨_, rfl⟩
            have q82 : v39 = v80 := (e81.trans ((frm_f f65 rfl).trans e57.symm)).symm
            subst q82
            obtain ⟨v83, e84⟩ : ∃ v, v = A62 54 (fd 1) := ⟨_, rfl⟩
            have q85 : v41 = v83 := (e84.trans ((frm_f f65 rfl).trans e60.symm)).symm
            subst q85
            refine Exists.intro l1 (And.intro rfl (And.intro (And.intro i63 (And.intro j64 (And.intro (by omega) (And.intro (by omega) (And.intro (by rw [← e81]; omega) (And.intro (by rw [← e84]; omega) (And.intro g67 (by first | assumption | omega | simp_all)))))))) (fun A86 i87 j88 f89 r90 g95 g96 g91 g92 g93 g94 => ?_)))
            have f97 := frm_c f75 f89 rfl
            have t98 := ivf_at j88 12 rfl
            have t99 := ivf_at j88 1 rfl
            have t100 : A86 54 (fd 2) = A62 54 (fd 2) := (frm_f f89 rfl)
            have pf101 := PF_tr pf79 g92 (by omega)
            obtain ⟨v102, e103⟩ : ∃ v, v = A86 54 (fd 1) := ⟨_, rfl⟩
            have q104 : v41 = v102 := (e103.trans ((frm_f f89 rfl).trans e84.symm)).symm
            subst q104
            refine And.intro (show A86 54 (fd 1) = ((71 : Nat) : Int) by omega) ?_
            obtain ⟨v105, e106⟩ : ∃ v, v = A86 54 (fd 1) := ⟨_, rfl⟩
            have q107 : v41 = v105 := (e106.trans e103.symm).symm
            subst q107
            refine And.intro (show A86 54 (fd 1) = ((71 : Nat) : Int) by omega) ?_
            refine fun v108 gv108 e109 => ?_
            have b110 := ivf_at j88 12 rfl
            have hjump : A86 72 r66 ≠ 107 := by have q1 := g92 r66 (by omega) (by omega); simp only [Nat.reduceAdd] at q1; have q2 := g72; omega
            refine And.intro (by omega) (fun A111 e112 => ?_)
            have i113 := iva_st i87 e112 (And.intro (by omega) trivial)
            have j114 := ivf_sa j88 e112 rfl
            have f115 := frm_s f97 e112 rfl
            have t116 : A111 71 (fd 8) = A86 71 (fd 8) := (congrFun (st_a e112 rfl) _)
            have t117 : A111 54 (fd 3) = A86 54 (fd 3) := (congrFun (st_a e112 rfl) _)
            have t118 : A111 54 (fd 2) = A86 54 (fd 2) := (congrFun (st_a e112 rfl) _)
            have kk119 := KO_o73 g91 e112 hjump
            have pf120 := PF_k pf101 (st_a e112 rfl)
            refine fun v121 e122 => ?_
            obtain ⟨v123, e124⟩ : ∃ v, v = A111 54 (fd 0) := ⟨_, rfl⟩
            have q125 : v39 = v123 := (e124.trans ((Eq.trans (congrFun (st_a e112 rfl) _) (frm_f f89 rfl)).trans e81.symm)).symm
            subst q125
            obtain ⟨v126, e127⟩ : ∃ v, v = A111 54 (fd 1) := ⟨_, rfl⟩
            have q128 : v41 = v126 := (e127.trans ((congrFun (st_a e112 rfl) _).trans e106.symm)).symm
            subst q128
            exact And.intro (by omega) (Exists.intro (200 - v121 : Int).toNat (And.intro (by omega) (And.intro i113 (And.intro j114 (And.intro f115 (And.intro rfl (And.intro (by rw [← e124]; omega) (And.intro (by rw [← e127]; omega) (And.intro (by omega) (And.intro (by omega) (And.intro (by omega) (And.intro (by omega) (And.intro (by omega) (And.intro kk119 (And.intro pf120 (And.intro (by omega) (And.intro (by omega) (by omega))))))))))))))))))
  · obtain ⟨v11, e12⟩ : ∃ v, v = A 54 (fd 0) := ⟨_, rfl⟩
    have q13 : v7 = v11 := (e12.trans e8.symm).symm
    subst q13
    obtain ⟨v14, e15⟩ : ∃ v, v = A 54 (fd 1) := ⟨_, rfl⟩
    have q16 : v9 = v14 := (e15.trans e10.symm).symm
    subst q16
    refine Exists.intro d (And.intro rfl (And.intro (And.intro i0 (And.intro j0 (And.intro (by omega) (And.intro (by omega) (And.intro (by rw [← e12]; omega) (And.intro (by rw [← e15]; omega) (And.intro p5 (by first | assumption | omega | simp_all)))))))) (fun A17 i18 j19 f20 r21 g26 g27 g22 g23 g24 g25 => ?_)))
    have f28 := frm_c f0 f20 rfl
    have t29 := ivf_at j19 12 rfl
    have t30 := ivf_at j19 1 rfl
    have t31 : A17 54 (fd 2) = A 54 (fd 2) := (frm_f f20 rfl)
    have pf32 := PF_tr pf0 g23 (by omega)
    obtain ⟨v33, e34⟩ : ∃ v, v = A17 54 (fd 0) := ⟨_, rfl⟩
    have q35 : v7 = v33 := (e34.trans ((frm_f f20 rfl).trans e12.symm)).symm
    subst q35
    obtain ⟨v36, e37⟩ : ∃ v, v = A17 54 (fd 1) := ⟨_, rfl⟩
    have q38 : v9 = v36 := (e37.trans ((frm_f f20 rfl).trans e15.symm)).symm
    subst q38
    exact Exists.intro (200 - 0 : Int).toNat (And.intro i18 (And.intro j19 (And.intro f28 (And.intro rfl (And.intro (by rw [← e34]; omega) (And.intro (by rw [← e37]; omega) (And.intro (by omega) (And.intro (by omega) (And.intro (by omega) (And.intro (by omega) (And.intro (by omega) (And.intro g22 (And.intro pf32 (And.intro (by omega) (And.intro (by omega) (by omega))))))))))))))))
def sC_readCondition3_71 : qS := fun as A K => ∃ d : Int, as = [rf 54, ni d] ∧ (iva IC A ∧ ivf JC A ∧ 3 ≤ d ∧ d ≤ 3 ∧ (52 ≤ A 54 (fd 0) ∧ A 54 (fd 0) ≤ 52) ∧ (71 ≤ A 54 (fd 1) ∧ A 54 (fd 1) ≤ 71) ∧ (KO A) ∧ (A 71 (fd 8) ≤ A 54 (fd 3))) ∧ (∀ A' : qA, iva IC A' → ivf JC A' → frm [72, 73] [(71, 8), (54, 3), (54, 4)] A A' → ∀ r : Int, 0 ≤ r → r ≤ 1 → (KO A') → (PF 71 A A') → (A 71 (fd 8) ≤ A' 71 (fd 8)) → (A' 71 (fd 8) + A 54 (fd 3) ≤ A 71 (fd 8) + A' 54 (fd 3)) → K (some (ni r)) A')
theorem okC_readCondition3_71 : okM LC 18 52 sC_readCondition3_71 := by
  refine qmeth [(54, 0, 52), (54, 1, 71)] false [(53, sC_readPart3_71), (46, sC_look_71), (54, sC_readJump_71)] 40 rfl ⟨okC_readPart3_71.le (by decide), ⟨okC_look_71.le (by decide), ⟨okC_readJump_71.le (by decide), trivial⟩⟩⟩ ?_
  rintro _ A K hA has ⟨d, rfl, ⟨i0, j0, p1, p2, p3, p4, p5, p6⟩, hK⟩
  have rg_d : rng d := has (ni d) (by simp)
  have f0 := frm_0 [72, 73] [(71, 8), (54, 3), (54, 4)] A
  obtain ⟨v7, e8⟩ : ∃ v, v = A 54 (fd 0) := ⟨_, rfl⟩
  rw [← e8] at p3
  obtain ⟨v9, e10⟩ : ∃ v, v = A 54 (fd 1) := ⟨_, rfl⟩
  rw [← e10] at p4
  have pf0 := PF_rf 71 A
  have hb_71_8 := ivf_at j0 12 rfl
  have hb_54_3 := ivf_at j0 1 rfl
  have hb_54_2 := ivf_at j0 0 rfl
  refine ⟨Nat.le_of_ble_eq_true rfl, [(6, [(0, 2, 54), (1, 0, 0), (2, 0, 0), (3, 0, 0)], fun zs B nn => match zs with | [l1, w, i] => iva IC B ∧ ivf JC B ∧ frm [72, 73] [(71, 8), (54, 3), (54, 4)] A B ∧ nn = (200 - i : Int).toNat ∧ (52 ≤ B 54 (fd 0) ∧ B 54 (fd 0) ≤ 52) ∧ (71 ≤ B 54 (fd 1) ∧ B 54 (fd 1) ≤ 71) ∧ (l1 = d) ∧ (0 ≤ i) ∧ (i ≤ 200) ∧ (0 ≤ w) ∧ (w ≤ 1) ∧ (KO B) ∧ (PF 71 A B) ∧ (A 71 (fd 8) ≤ B 71 (fd 8)) ∧ (B 71 (fd 8) + A 54 (fd 3) ≤ A 71 (fd 8) + B 54 (fd 3)) ∧ (B 71 (fd 8) ≤ B 54 (fd 3)) | _ => False)], ?_, ?_⟩
  · refine ⟨⟨rfl, ?_⟩, trivial⟩
    · refine fun l1 w i B mm hB hz hI => ?_
      obtain ⟨i1, j1, f1, hm, d0, d1, c0, c1, c2, c3, c4, c5, c6, c7, c8, c9⟩ := hI
      obtain ⟨hz_l1, hz_w, hz_i, _⟩ := hz
      obtain ⟨v39, e40⟩ : ∃ v, v = B 54 (fd 0) := ⟨_, rfl⟩
      rw [← e40] at d0
      obtain ⟨v41, e42⟩ : ∃ v, v = B 54 (fd 1) := ⟨_, rfl⟩
      rw [← e42] at d1
      have hc_71_8 := ivf_at j1 12 rfl
      have hc_54_3 := ivf_at j1 1 rfl
      have hc_54_2 := ivf_at j1 0 rfl
      have hc_t : B 54 (fd 2) = A 54 (fd 2) := frm_f f1 rfl
      have hc_w : B 53 = A 53 := frm_a f1 rfl
      refine And.intro (fun h43 => ?_) (fun h43 => ?_)
      · exact And.intro (by omega) (hK _ i1 j1 f1 _ (by omega) (by omega) c5 c6 (by first | assumption | omega | simp_all) (by first | assumption | omega | simp_all))
      · refine And.intro (fun h44 => ?_) (fun h44 => ?_)
        · exact And.intro (by omega) (hK _ i1 j1 f1 _ (by omega) (by omega) c5 c6 (by first | assumption | omega | simp_all) (by first | assumption | omega | simp_all))
        · obtain ⟨v45, e46⟩ : ∃ v, v = B 54 (fd 0) := ⟨_, rfl⟩
          have q47 : v39 = v45 := (e46.trans e40.symm).symm
          subst q47
          obtain ⟨v48, e49⟩ : ∃ v, v = B 54 (fd 1) := ⟨_, rfl⟩
          have q50 : v41 = v48 := (e49.trans e42.symm).symm
          subst q50
          refine And.intro rfl (And.intro (And.intro i1 (And.intro j1 (And.intro (by rw [← e46]; omega) (by rw [← e49]; omega)))) (fun r51 g53 g54 g52 => ?_))
          refine And.intro (fun h55 => ?_) (fun h55 => ?_)
          · exact And.intro (by omega) (hK _ i1 j1 f1 _ (by omega) (by omega) c5 c6 (by first | assumption | omega | simp_all) (by first | assumption | omega | simp_all))
          · obtain ⟨v56, e57⟩ : ∃ v, v = B 54 (fd 0) := ⟨_, rfl⟩
            have q58 : v39 = v56 := (e57.trans e46.symm).symm
            subst q58
            obtain ⟨v59, e60⟩ : ∃ v, v = B 54 (fd 1) := ⟨_, rfl⟩
            have q61 : v41 = v59 := (e60.trans e49.symm).symm
            subst q61
            refine And.intro rfl (And.intro (And.intro i1 (And.intro j1 (And.intro (by rw [← e57]; omega) (And.intro (by rw [← e60]; omega) (And.intro c5 (And.intro (by first | assumption | omega | simp_all) (And.intro (by first | assumption | omega | simp_all) (by first | assumption | omega | simp_all)))))))) (fun A62 i63 j64 f65 r66 g73 g74 g67 g68 g69 g70 g71 g72 => ?_))
            have f75 := frm_c f1 f65 rfl
            have t76 := ivf_at j64 12 rfl
            have t77 := ivf_at j64 1 rfl
            have t78 : A62 54 (fd 2) = B 54 (fd 2) := (frm_f f65 rfl)
            have pf79 := PF_tr c6 g68 (by omega)
            obtain ⟨v80, e81⟩ : ∃ v, v = A62 54 (fd 0) := ⟨_, rfl⟩
            have q82 : v39 = v80 := (e81.trans ((frm_f f65 rfl).trans e57.symm)).symm
            subst q82
            obtain ⟨v83, e84⟩ : ∃ v, v = A62 54 (fd 1) := ⟨_, rfl⟩
            have q85 : v41 = v83 := (e84.trans ((frm_f f65 rfl).trans e60.symm)).symm
            subst q85
            refine Exists.intro l1 (And.intro rfl (And.intro (And.intro i63 (And.intro j64 (And.intro (by omega) (And.intro (by omega) (And.intro (by rw [← e81]; omega) (And.intro (by rw [← e84]; omega) (And.intro g67 (by first | assumption | omega | simp_all)))))))) (fun A86 i87 j88 f89 r90 g95 g96 g91 g92 g93 g94 => ?_)))
            have f97 := frm_c f75 f89 rfl
            have t98 := ivf_at j88 12 rfl
            have t99 := ivf_at j88 1 rfl
            have t100 : A86 54 (fd 2) = A62 54 (fd 2) := (frm_f f89 rfl)
            have pf101 := PF_tr pf79 g92 (by omega)
            obtain ⟨v102, e103⟩ : ∃ v, v = A86 54 (fd 1) := ⟨_, rfl⟩
            have q104 : v41 = v102 := (e103.trans ((frm_f f89 rfl).trans e84.symm)).symm
            subst q104
            refine And.intro (show A86 54 (fd 1) = ((71 : Nat) : Int) by omega) ?_
            obtain ⟨v105, e106⟩ : ∃ v, v = A86 54 (fd 1) := ⟨_, rfl⟩
            have q107 : v41 = v105 := (e106.trans e103.symm).symm
            subst q107
            refine And.intro (show A86 54 (fd 1) = ((71 : Nat) : Int) by omega) ?_
            refine fun v108 gv108 e109 => ?_
            have b110 := ivf_at j88 12 rfl
            have hjump : A86 72 r66 ≠ 107 := by have q1 := g92 r66 (by omega) (by omega); simp only [Nat.reduceAdd] at q1; have q2 := g72; omega
            refine And.intro (by omega) (fun A111 e112 => ?_)
            have i113 := iva_st i87 e112 (And.intro (by omega) trivial)
            have j114 := ivf_sa j88 e112 rfl
            have f115 := frm_s f97 e112 rfl
            have t116 : A111 71 (fd 8) = A86 71 (fd 8) := (congrFun (st_a e112 rfl) _)
            have t117 : A111 54 (fd 3) = A86 54 (fd 3) := (congrFun (st_a e112 rfl) _)
            have t118 : A111 54 (fd 2) = A86 54 (fd 2) := (congrFun (st_a e112 rfl) _)
            have kk119 := KO_o73 g91 e112 hjump
            have pf120 := PF_k pf101 (st_a e112 rfl)
            refine fun v121 e122 => ?_
            obtain ⟨v123, e124⟩ : ∃ v, v = A111 54 (fd 0) := ⟨_, rfl⟩
            have q125 : v39 = v123 := (e124.trans ((Eq.trans (congrFun (st_a e112 rfl) _) (frm_f f89 rfl)).trans e81.symm)).symm
            subst q125
            obtain ⟨v126, e127⟩ : ∃ v, v = A111 54 (fd 1) := ⟨_, rfl⟩
            have q128 : v41 = v126 := (e127.trans ((congrFun (st_a e112 rfl) _).trans e106.symm)).symm
            subst q128
            exact And.intro (by omega) (Exists.intro (200 - v121 : Int).toNat (And.intro (by omega) (And.intro i113 (And.intro j114 (And.intro f115 (And.intro rfl (And.intro (by rw [← e124]; omega) (And.intro (by rw [← e127]; omega) (And.intro (by omega) (And.intro (by omega) (And.intro (by omega) (And.intro (by omega) (And.intro (by omega) (And.intro kk119 (And.intro pf120 (And.intro (by omega) (And.intro (by omega) (by omega))))))))))))))))))
  · obtain ⟨v11, e12⟩ : ∃ v, v = A 54 (fd 0) := ⟨_, rfl⟩
    have q13 : v7 = v11 := (e12.trans e8.symm).symm
    subst q13
    obtain ⟨v14, e15⟩ : ∃ v, v = A 54 (fd 1) := ⟨_, rfl⟩
    have q16 : v9 = v14 := (e15.trans e10.symm).symm
    subst q16
    refine Exists.intro d (And.intro rfl (And.intro (And.intro i0 (And.intro j0 (And.intro (by omega) (And.intro (by omega) (And.intro (by rw [← e12]; omega) (And.intro (by rw [← e15]; omega) (And.intro p5 (by first | assumption | omega | simp_all)))))))) (fun A17 i18 j19 f20 r21 g26 g27 g22 g23 g24 g25 => ?_)))
    have f28 := frm_c f0 f20 rfl
    have t29 := ivf_at j19 12 rfl
    have t30 := ivf_at j19 1 rfl
    have t31 : A17 54 (fd 2) = A 54 (fd 2) := (frm_f f20 rfl)
    have pf32 := PF_tr pf0 g23 (by omega)
    obtain ⟨v33, e34⟩ : ∃ v, v = A17 54 (fd 0) := ⟨_, rfl⟩
    have q35 : v7 = v33 := (e34.trans ((frm_f f20 rfl).trans e12.symm)).symm
    subst q35
    obtain ⟨v36, e37⟩ : ∃ v, v = A17 54 (fd 1) := ⟨_, rfl⟩
    have q38 : v9 = v36 := (e37.trans ((frm_f f20 rfl).trans e15.symm)).symm
    subst q38
    exact Exists.intro (200 - 0 : Int).toNat (And.intro i18 (And.intro j19 (And.intro f28 (And.intro rfl (And.intro (by rw [← e34]; omega) (And.intro (by rw [← e37]; omega) (And.intro (by omega) (And.intro (by omega) (And.intro (by omega) (And.intro (by omega) (And.intro (by omega) (And.intro g22 (And.intro pf32 (And.intro (by omega) (And.intro (by omega) (by omega))))))))))))))))
def sC_readFactor2_71 : qS := fun as A K => ∃ d : Int, as = [rf 54, ni d] ∧ (iva IC A ∧ ivf JC A ∧ 2 ≤ d ∧ d ≤ 2 ∧ (52 ≤ A 54 (fd 0) ∧ A 54 (fd 0) ≤ 52) ∧ (71 ≤ A 54 (fd 1) ∧ A 54 (fd 1) ≤ 71) ∧ (KO A) ∧ (A 71 (fd 8) ≤ A 54 (fd 3))) ∧ (∀ A' : qA, iva IC A' → ivf JC A' → frm [72, 73] [(71, 8), (54, 3), (54, 4)] A A' → ∀ r : Int, 0 ≤ r → r ≤ 1 → (KO A') → (PF 71 A A') → (A 71 (fd 8) ≤ A' 71 (fd 8)) → (A' 71 (fd 8) + A 54 (fd 3) ≤ A 71 (fd 8) + A' 54 (fd 3)) → K (some (ni r)) A')
theorem okC_readFactor2_71 : okM LC 15 59 sC_readFactor2_71 := by
  refine qmeth [(54, 0, 52), (54, 1, 71)] false [(46, sC_look_71), (60, sC_isDigit), (61, sC_readNumber_71), (75, sC_putr71), (47, sC_fail_71), (49, sC_enter_71), (57, sC_readSum3_71), (48, sC_expect_71)] 60 rfl ⟨okC_look_71.le (by decide), ⟨okC_isDigit.le (by decide), ⟨okC_readNumber_71.le (by decide), ⟨okC_putr71.le (by decide), ⟨okC_fail_71.le (by decide), ⟨okC_enter_71.le (by decide), ⟨okC_readSum3_71.le (by decide), ⟨okC_expect_71.le (by decide), trivial⟩⟩⟩⟩⟩⟩⟩⟩ ?_
  rintro _ A K hA has ⟨d, rfl, ⟨i0, j0, p1, p2, p3, p4, p5, p6⟩, hK⟩
  have rg_d : rng d := has (ni d) (by simp)
  have f0 := frm_0 [72, 73] [(71, 8), (54, 3), (54, 4)] A
  obtain ⟨v7, e8⟩ : ∃ v, v = A 54 (fd 0) := ⟨_, rfl⟩
  rw [← e8] at p3
  obtain ⟨v9, e10⟩ : ∃ v, v = A 54 (fd 1) := ⟨_, rfl⟩
  rw [← e10] at p4
  have pf0 := PF_rf 71 A
  have hb_71_8 := ivf_at j0 12 rfl
  have hb_54_3 := ivf_at j0 1 rfl
  have hb_54_2 := ivf_at j0 0 rfl
  refine ⟨Nat.le_of_ble_eq_true rfl, [], trivial, ?_⟩
  obtain ⟨v11, e12⟩ : ∃ v, v = A 54 (fd 0) := ⟨_, rfl⟩
  have q13 : v7 = v11 := (e12.trans e8.symm).symm
  subst q13
  obtain ⟨v14, e15⟩ : ∃ v, v = A 54 (fd 1) := ⟨_, rfl⟩
  have q16 : v9 = v14 := (e15.trans e10.symm).symm
  subst q16
  refine And.intro rfl (And.intro (And.intro i0 (And.intro j0 (And.intro (by rw [← e12]; omega) (by rw [← e15]; omega)))) (fun r17 g19 g20 g18 => ?_))
  refine And.intro (fun h21 => ?_) (fun h21 => ?_)
  · refine Exists.intro r17 (And.intro rfl (And.intro (fun h22 => ?_) (fun h22 => ?_)))
    · refine And.intro (fun h23 => by exfalso; omega) (fun h23 => ?_)
      obtain ⟨v24, e25⟩ : ∃ v, v = A 54 (fd 0) := ⟨_, rfl⟩
      have q26 : v7 = v24 := (e25.trans e12.symm).symm
      subst q26
      obtain ⟨v27, e28⟩ : ∃ v, v = A 54 (fd 1) := ⟨_, rfl⟩
      have q29 : v9 = v27 := (e28.trans e15.symm).symm
      subst q29
      refine And.intro rfl (And.intro (And.intro i0 (And.intro j0 (And.intro (by rw [← e25]; omega) (And.intro (by rw [← e28]; omega) (And.intro p5 (And.intro (by first | assumption | omega | simp_all) (And.intro (by first | assumption | omega | simp_all) (And.intro (by first | assumption | omega | simp_all) (by first | assumption | omega | simp_all))))))))) (fun A30 i31 j32 f33 r34 g39 g40 g35 g36 g37 g38 => ?_))
      have f41 := frm_c f0 f33 rfl
      have t42 := ivf_at j32 12 rfl
      have t43 := ivf_at j32 1 rfl
      have t44 : A30 54 (fd 2) = A 54 (fd 2) := (frm_f f33 rfl)
      have pf45 := PF_tr pf0 g36 (by omega)
      exact And.intro (by omega) (hK _ i31 j32 f41 _ (by omega) (by omega) g35 pf45 (by first | assumption | omega | simp_all) (by first | assumption | omega | simp_all))
    · refine And.intro (fun h46 => ?_) (fun h46 => by exfalso; omega)
      refine fun v47 e48 => ?_
      have h49 := qone_bd 0 r17
      rw [← e48] at h49
      have h50 := qone_p (s := 0) (x := r17) (by omega)
      refine And.intro (fun h51 => ?_) (fun h51 => ?_)
      · obtain ⟨v52, e53⟩ : ∃ v, v = A 54 (fd 1) := ⟨_, rfl⟩
        have q54 : v9 = v52 := (e53.trans e15.symm).symm
        subst q54
        refine And.intro (show A 54 (fd 1) = ((71 : Nat) : Int) by omega) ?_
        refine fun v55 e56 => ?_
        have h57 := qix_bd 0 r17
        rw [← e56] at h57
        refine Exists.intro 107 (Exists.intro v55 (And.intro rfl (And.intro (And.intro i0 (And.intro j0 (And.intro (by omega) (And.intro (by omega) (And.intro p5 (And.intro (by first | assumption | omega | simp_all) (by first | assumption | omega | simp_all))))))) (fun A58 i59 j60 f61 g62 g63 g64 g65 => ?_))))
        have f66 := frm_c f0 f61 rfl
        have t67 := ivf_at j60 12 rfl
        have t68 : A58 54 (fd 3) = A 54 (fd 3) := (frm_f f61 rfl)
        have t69 : A58 54 (fd 2) = A 54 (fd 2) := (frm_f f61 rfl)
        have pf70 := PF_tr pf0 g63 (by omega)
        refine fun v71 gv71 e72 => ?_
        have b73 := ivf_at j60 1 rfl
        refine fun v74 e75 => ?_
        refine And.intro (by omega) (fun A76 e77 => ?_)
        have i78 := iva_sf i59 e77 rfl
        have j79 := ivf_st j60 e77 (And.intro (by omega) trivial)
        have f80 := frm_sf f66 e77 rfl
        have t81 : A76 71 (fd 8) = A58 71 (fd 8) := (congrFun (st_a e77 rfl) _)
        have t82 := st_v e77
        have t83 : A76 54 (fd 2) = A58 54 (fd 2) := (st_f e77 rfl)
        have kk84 := KO_k g62 (st_a e77 rfl) (st_a e77 rfl) (st_a e77 rfl) (st_a e77 rfl)
        have pf85 := PF_k pf70 (st_a e77 rfl)
        exact And.intro (by omega) (hK _ i78 j79 f80 _ (by omega) (by omega) kk84 pf85 (by first | assumption | omega | simp_all) (by first | assumption | omega | simp_all))
      · obtain ⟨v86, e87⟩ : ∃ v, v = A 54 (fd 0) := ⟨_, rfl⟩
        have q88 : v7 = v86 := (e87.trans e12.symm).symm
        subst q88
        obtain ⟨v89, e90⟩ : ∃ v, v = A 54 (fd 1) := ⟨_, rfl⟩
        have q91 : v9 = v89 := (e90.trans e15.symm).symm
        subst q91
        refine Exists.intro 1 (And.intro rfl (And.intro (And.intro i0 (And.intro j0 (And.intro (by omega) (And.intro (by omega) (And.intro (by rw [← e87]; omega) (by rw [← e90]; omega)))))) (fun A92 i93 j94 f95 => (fun h96 => ?_))))
        · have f97 := frm_c f0 f95 rfl
          have t98 : A92 71 (fd 8) = A 71 (fd 8) := (frm_f f95 rfl)
          have t99 : A92 54 (fd 3) = A 54 (fd 3) := (frm_f f95 rfl)
          have t100 : A92 54 (fd 2) = A 54 (fd 2) := (frm_f f95 rfl)
          have kk101 := KO_fr p5 f95 rfl
          have pf102 := PF_k pf0 (frm_a f95 rfl)
          exact And.intro (by omega) (hK _ i93 j94 f97 _ (by omega) (by omega) kk101 pf102 (by first | assumption | omega | simp_all) (by first | assumption | omega | simp_all))
  · obtain ⟨v103, e104⟩ : ∃ v, v = A 54 (fd 0) := ⟨_, rfl⟩
    have q105 : v7 = v103 := (e104.trans e12.symm).symm
    subst q105
    obtain ⟨v106, e107⟩ : ∃ v, v = A 54 (fd 1) := ⟨_, rfl⟩
    have q108 : v9 = v106 := (e107.trans e15.symm).symm
    subst q108
    refine Exists.intro d (And.intro rfl (And.intro (And.intro i0 (And.intro j0 (And.intro (by omega) (And.intro (by omega) (And.intro (by rw [← e104]; omega) (And.intro (by rw [← e107]; omega) (And.intro p5 (by first | assumption | omega | simp_all)))))))) (fun A109 i110 j111 f112 g113 g114 => (And.intro (fun h115 => ?_) (fun h115 => by exfalso; omega)))))
    · have f116 := frm_c f0 f112 rfl
      have t117 : A109 71 (fd 8) = A 71 (fd 8) := (frm_f f112 rfl)
      have t118 := ivf_at j111 1 rfl
      have t119 : A109 54 (fd 2) = A 54 (fd 2) := (frm_f f112 rfl)
      have kk120 := KO_fr p5 f112 rfl
      have pf121 := PF_k pf0 (frm_a f112 rfl)
      refine And.intro (fun h122 => by exfalso; omega) (fun h122 => ?_)
      refine fun v123 e124 => ?_
      obtain ⟨v125, e126⟩ : ∃ v, v = A109 54 (fd 0) := ⟨_, rfl⟩
      have q127 : v7 = v125 := (e126.trans ((frm_f f112 rfl).trans e104.symm)).symm
      subst q127
      obtain ⟨v128, e129⟩ : ∃ v, v = A109 54 (fd 1) := ⟨_, rfl⟩
      have q130 : v9 = v128 := (e129.trans ((frm_f f112 rfl).trans e107.symm)).symm
      subst q130
      refine And.intro (by omega) (Exists.intro v123 (And.intro rfl (And.intro (And.intro i110 (And.intro j111 (And.intro (by omega) (And.intro (by omega) (And.intro (by rw [← e126]; omega) (And.intro (by rw [← e129]; omega) (And.intro kk120 (by first | assumption | omega | simp_all)))))))) (fun A131 i132 j133 f134 r135 g140 g141 g136 g137 g138 g139 => ?_))))
      have f142 := frm_c f116 f134 rfl
      have t143 := ivf_at j133 12 rfl
      have t144 := ivf_at j133 1 rfl
      have t145 : A131 54 (fd 2) = A109 54 (fd 2) := (frm_f f134 rfl)
      have pf146 := PF_tr pf121 g137 (by omega)
      refine And.intro (fun h147 => ?_) (fun h147 => ?_)
      · exact And.intro (by omega) (hK _ i132 j133 f142 _ (by omega) (by omega) g136 pf146 (by first | assumption | omega | simp_all) (by first | assumption | omega | simp_all))
      · obtain ⟨v148, e149⟩ : ∃ v, v = A131 54 (fd 0) := ⟨_, rfl⟩
        have q150 : v7 = v148 := (e149.trans ((frm_f f134 rfl).trans e126.symm)).symm
        subst q150
        obtain ⟨v151, e152⟩ : ∃ v, v = A131 54 (fd 1) := ⟨_, rfl⟩
        have q153 : v9 = v151 := (e152.trans ((frm_f f134 rfl).trans e129.symm)).symm
        subst q153
        refine Exists.intro 93 (And.intro rfl (And.intro (And.intro i132 (And.intro j133 (And.intro (by omega) (And.intro (by omega) (And.intro (by rw [← e149]; omega) (And.intro (by rw [← e152]; omega) (And.intro g136 (by first | assumption | omega | simp_all)))))))) (fun A154 i155 j156 f157 r158 g160 g161 g159 => ?_)))
        have f162 := frm_c f142 f157 rfl
        have t163 : A154 71 (fd 8) = A131 71 (fd 8) := (frm_f f157 rfl)
        have t164 := ivf_at j156 1 rfl
        have t165 : A154 54 (fd 2) = A131 54 (fd 2) := (frm_f f157 rfl)
        have kk166 := KO_fr g136 f157 rfl
        have pf167 := PF_k pf146 (frm_a f157 rfl)
        refine And.intro (fun h168 => ?_) (fun h168 => ?_)
        · exact And.intro (by omega) (hK _ i155 j156 f162 _ (by omega) (by omega) kk166 pf167 (by first | assumption | omega | simp_all) (by first | assumption | omega | simp_all))
        · exact And.intro (by omega) (hK _ i155 j156 f162 _ (by omega) (by omega) kk166 pf167 (by first | assumption | omega | simp_all) (by first | assumption | omega | simp_all))
def sC_readTerm2_71 : qS := fun as A K => ∃ d : Int, as = [rf 54, ni d] ∧ (iva IC A ∧ ivf JC A ∧ 2 ≤ d ∧ d ≤ 2 ∧ (52 ≤ A 54 (fd 0) ∧ A 54 (fd 0) ≤ 52) ∧ (71 ≤ A 54 (fd 1) ∧ A 54 (fd 1) ≤ 71) ∧ (KO A) ∧ (A 71 (fd 8) ≤ A 54 (fd 3))) ∧ (∀ A' : qA, iva IC A' → ivf JC A' → frm [72, 73] [(71, 8), (54, 3), (54, 4)] A A' → ∀ r : Int, 0 ≤ r → r ≤ 1 → (KO A') → (PF 71 A A') → (A 71 (fd 8) ≤ A' 71 (fd 8)) → (A' 71 (fd 8) + A 54 (fd 3) ≤ A 71 (fd 8) + A' 54 (fd 3)) → K (some (ni r)) A')
theorem okC_readTerm2_71 : okM LC 16 58 sC_readTerm2_71 := by
  refine qmeth [(54, 0, 52), (54, 1, 71)] false [(59, sC_readFactor2_71), (46, sC_look_71), (75, sC_putr71)] 44 rfl ⟨okC_readFactor2_71.le (by decide), ⟨okC_look_71.le (by decide), ⟨okC_putr71.le (by decide), trivial⟩⟩⟩ ?_
  rintro _ A K hA has ⟨d, rfl, ⟨i0, j0, p1, p2, p3, p4, p5, p6⟩, hK⟩
  have rg_d : rng d := has (ni d) (by simp)
  have f0 := frm_0 [72, 73] [(71, 8), (54, 3), (54, 4)] A
  obtain ⟨v7, e8⟩ : ∃ v, v = A 54 (fd 0) := ⟨_, rfl⟩
  rw [← e8] at p3
  obtain ⟨v9, e10⟩ : ∃ v, v = A 54 (fd 1) := ⟨_, rfl⟩
  rw [← e10] at p4
  have pf0 := PF_rf 71 A
  have hb_71_8 := ivf_at j0 12 rfl
  have hb_54_3 := ivf_at j0 1 rfl
  have hb_54_2 := ivf_at j0 0 rfl
  refine ⟨Nat.le_of_ble_eq_true rfl, [(6, [(0, 2, 54), (1, 0, 0), (2, 0, 0), (3, 0, 0)], fun zs B nn => match zs with | [l1, w, i] => iva IC B ∧ ivf JC B ∧ frm [72, 73] [(71, 8), (54, 3), (54, 4)] A B ∧ nn = (200 - i : Int).toNat ∧ (52 ≤ B 54 (fd 0) ∧ B 54 (fd 0) ≤ 52) ∧ (71 ≤ B 54 (fd 1) ∧ B 54 (fd 1) ≤ 71) ∧ (l1 = d) ∧ (0 ≤ i) ∧ (i ≤ 200) ∧ (0 ≤ w) ∧ (w ≤ 1) ∧ (KO B) ∧ (PF 71 A B) ∧ (A 71 (fd 8) ≤ B 71 (fd 8)) ∧ (B 71 (fd 8) + A 54 (fd 3) ≤ A 71 (fd 8) + B 54 (fd 3)) ∧ (B 71 (fd 8) ≤ B 54 (fd 3)) | _ => False)], ?_, ?_⟩
  · refine ⟨⟨rfl, ?_⟩, trivial⟩
    · refine fun l1 w i B mm hB hz hI => ?_
      obtain ⟨i1, j1, f1, hm, d0, d1, c0, c1, c2, c3, c4, c5, c6, c7, c8, c9⟩ := hI
      obtain ⟨hz_l1, hz_w, hz_i, _⟩ := hz
      obtain ⟨v39, e40⟩ : ∃ v, v = B 54 (fd 0) := ⟨_, rfl⟩
      rw [← e40] at d0
      obtain ⟨v41, e42⟩ : ∃ v, v = B 54 (fd 1) := ⟨_, rfl⟩
      rw [← e42] at d1
      have hc_71_8 := ivf_at j1 12 rfl
      have hc_54_3 := ivf_at j1 1 rfl
      have hc_54_2 := ivf_at j1 0 rfl
      have hc_t : B 54 (fd 2) = A 54 (fd 2) := frm_f f1 rfl
      have hc_w : B 53 = A 53 := frm_a f1 rfl
      refine And.intro (fun h43 => ?_) (fun h43 => ?_)
      · exact And.intro (by omega) (hK _ i1 j1 f1 _ (by omega) (by omega) c5 c6 (by first | assumption | omega | simp_all) (by first | assumption | omega | simp_all))
      · refine And.intro (fun h44 => ?_) (fun h44 => ?_)
        · exact And.intro (by omega) (hK _ i1 j1 f1 _ (by omega) (by omega) c5 c6 (by first | assumption | omega | simp_all) (by first | assumption | omega | simp_all))
        · obtain ⟨v45, e46⟩ : ∃ v, v = B 54 (fd 0) := ⟨_, rfl⟩
          have q47 : v39 = v45 := (e46.trans e40.symm).symm
          subst q47
          obtain ⟨v48, e49⟩ : ∃ v, v = B 54 (fd 1) := ⟨_, rfl⟩
          have q50 : v41 = v48 := (e49.trans e42.symm).symm
          subst q50
          refine And.intro rfl (And.intro (And.intro i1 (And.intro j1 (And.intro (by rw [← e46]; omega) (by rw [← e49]; omega)))) (fun r51 g53 g54 g52 => ?_))
          refine fun v55 e56 => ?_
          have h57 := qone_bd 4 r51
          rw [← e56] at h57
          have h58 := qone_p (s := 4) (x := r51) (by omega)
          refine And.intro (fun h59 => ?_) (fun h59 => ?_)
          · exact And.intro (by omega) (hK _ i1 j1 f1 _ (by omega) (by omega) c5 c6 (by first | assumption | omega | simp_all) (by first | assumption | omega | simp_all))
          · obtain ⟨v60, e61⟩ : ∃ v, v = B 54 (fd 0) := ⟨_, rfl⟩
            have q62 : v39 = v60 := (e61.trans e46.symm).symm
            subst q62
            obtain ⟨v63, e64⟩ : ∃ v, v = B 54 (fd 1) := ⟨_, rfl⟩
            have q65 : v41 = v63 := (e64.trans e49.symm).symm
            subst q65
            refine And.intro rfl (And.intro (And.intro i1 (And.intro j1 (And.intro (by rw [← e61]; omega) (by rw [← e64]; omega)))) (fun r66 g68 g69 g67 => ?_))
            refine fun v70 gv70 e71 => ?_
            have b72 := ivf_at j1 1 rfl
            refine fun v73 e74 => ?_
            refine And.intro (by omega) (fun A75 e76 => ?_)
            have i77 := iva_sf i1 e76 rfl
            have j78 := ivf_st j1 e76 (And.intro (by omega) trivial)
            have f79 := frm_sf f1 e76 rfl
            have t80 : A75 71 (fd 8) = B 71 (fd 8) := (congrFun (st_a e76 rfl) _)
            have t81 := st_v e76
            have t82 : A75 54 (fd 2) = B 54 (fd 2) := (st_f e76 rfl)
            have kk83 := KO_k c5 (st_a e76 rfl) (st_a e76 rfl) (st_a e76 rfl) (st_a e76 rfl)
            have pf84 := PF_k c6 (st_a e76 rfl)
            obtain ⟨v85, e86⟩ : ∃ v, v = A75 54 (fd 0) := ⟨_, rfl⟩
            have q87 : v39 = v85 := (e86.trans ((st_f e76 rfl).trans e61.symm)).symm
            subst q87
            obtain ⟨v88, e89⟩ : ∃ v, v = A75 54 (fd 1) := ⟨_, rfl⟩
            have q90 : v41 = v88 := (e89.trans ((st_f e76 rfl).trans e64.symm)).symm
            subst q90
            refine Exists.intro l1 (And.intro rfl (And.intro (And.intro i77 (And.intro j78 (And.intro (by omega) (And.intro (by omega) (And.intro (by rw [← e86]; omega) (And.intro (by rw [← e89]; omega) (And.intro kk83 (by first | assumption | omega | simp_all)))))))) (fun A91 i92 j93 f94 r95 g100 g101 g96 g97 g98 g99 => ?_)))
            have f102 := frm_c f79 f94 rfl
            have t103 := ivf_at j93 12 rfl
            have t104 := ivf_at j93 1 rfl
            have t105 : A91 54 (fd 2) = A75 54 (fd 2) := (frm_f f94 rfl)
            have pf106 := PF_tr pf84 g97 (by omega)
            obtain ⟨v107, e108⟩ : ∃ v, v = A91 54 (fd 1) := ⟨_, rfl⟩
            have q109 : v41 = v107 := (e108.trans ((frm_f f94 rfl).trans e89.symm)).symm
            subst q109
            refine And.intro (show A91 54 (fd 1) = ((71 : Nat) : Int) by omega) ?_
            refine Exists.intro r66 (Exists.intro 0 (And.intro rfl (And.intro (And.intro i92 (And.intro j93 (And.intro (by omega) (And.intro (by omega) (And.intro g96 (And.intro (by first | assumption | omega | simp_all) (by first | assumption | omega | simp_all))))))) (fun A110 i111 j112 f113 g114 g115 g116 g117 => ?_))))
            have f118 := frm_c f102 f113 rfl
            have t119 := ivf_at j112 12 rfl
            have t120 : A110 54 (fd 3) = A91 54 (fd 3) := (frm_f f113 rfl)
            have t121 : A110 54 (fd 2) = A91 54 (fd 2) := (frm_f f113 rfl)
            have pf122 := PF_tr pf106 g115 (by omega)
            refine fun v123 e124 => ?_
            obtain ⟨v125, e126⟩ : ∃ v, v = A110 54 (fd 0) := ⟨_, rfl⟩
            have q127 : v39 = v125 := (e126.trans ((Eq.trans (frm_f f113 rfl) (frm_f f94 rfl)).trans e86.symm)).symm
            subst q127
            obtain ⟨v128, e129⟩ : ∃ v, v = A110 54 (fd 1) := ⟨_, rfl⟩
            have q130 : v41 = v128 := (e129.trans ((frm_f f113 rfl).trans e108.symm)).symm
            subst q130
            exact And.intro (by omega) (Exists.intro (200 - v123 : Int).toNat (And.intro (by omega) (And.intro i111 (And.intro j112 (And.intro f118 (And.intro rfl (And.intro (by rw [← e126]; omega) (And.intro (by rw [← e129]; omega) (And.intro (by omega) (And.intro (by omega) (And.intro (by omega) (And.intro (by omega) (And.intro (by omega) (And.intro g114 (And.intro pf122 (And.intro (by omega) (And.intro (by omega) (by omega))))))))))))))))))
  · obtain ⟨v11, e12⟩ : ∃ v, v = A 54 (fd 0) := ⟨_, rfl⟩
    have q13 : v7 = v11 := (e12.trans e8.symm).symm
    subst q13
    obtain ⟨v14, e15⟩ : ∃ v, v = A 54 (fd 1) := ⟨_, rfl⟩
    have q16 : v9 = v14 := (e15.trans e10.symm).symm
    subst q16
    refine Exists.intro d (And.intro rfl (And.intro (And.intro i0 (And.intro j0 (And.intro (by omega) (And.intro (by omega) (And.intro (by rw [← e12]; omega) (And.intro (by rw [← e15]; omega) (And.intro p5 (by first | assumption | omega | simp_all)))))))) (fun A17 i18 j19 f20 r21 g26 g27 g22 g23 g24 g25 => ?_)))
    have f28 := frm_c f0 f20 rfl
    have t29 := ivf_at j19 12 rfl
    have t30 := ivf_at j19 1 rfl
    have t31 : A17 54 (fd 2) = A 54 (fd 2) := (frm_f f20 rfl)
    have pf32 := PF_tr pf0 g23 (by omega)
    obtain ⟨v33, e34⟩ : ∃ v, v = A17 54 (fd 0) := ⟨_, rfl⟩
    have q35 : v7 = v33 := (e34.trans ((frm_f f20 rfl).trans e12.symm)).symm
    subst q35
    obtain ⟨v36, e37⟩ : ∃ v, v = A17 54 (fd 1) := ⟨_, rfl⟩
    have q38 : v9 = v36 := (e37.trans ((frm_f f20 rfl).trans e15.symm)).symm
    subst q38
    exact Exists.intro (200 - 0 : Int).toNat (And.intro i18 (And.intro j19 (And.intro f28 (And.intro rfl (And.intro (by rw [← e34]; omega) (And.intro (by rw [← e37]; omega) (And.intro (by omega) (And.intro (by omega) (And.intro (by omega) (And.intro (by omega) (And.intro (by omega) (And.intro g22 (And.intro pf32 (And.intro (by omega) (And.intro (by omega) (by omega))))))))))))))))
def sC_readSum2_71 : qS := fun as A K => ∃ d : Int, as = [rf 54, ni d] ∧ (iva IC A ∧ ivf JC A ∧ 2 ≤ d ∧ d ≤ 2 ∧ (52 ≤ A 54 (fd 0) ∧ A 54 (fd 0) ≤ 52) ∧ (71 ≤ A 54 (fd 1) ∧ A 54 (fd 1) ≤ 71) ∧ (KO A) ∧ (A 71 (fd 8) ≤ A 54 (fd 3))) ∧ (∀ A' : qA, iva IC A' → ivf JC A' → frm [72, 73] [(71, 8), (54, 3), (54, 4)] A A' → ∀ r : Int, 0 ≤ r → r ≤ 1 → (KO A') → (PF 71 A A') → (A 71 (fd 8) ≤ A' 71 (fd 8)) → (A' 71 (fd 8) + A 54 (fd 3) ≤ A 71 (fd 8) + A' 54 (fd 3)) → K (some (ni r)) A')
theorem okC_readSum2_71 : okM LC 17 57 sC_readSum2_71 := by
  refine qmeth [(54, 0, 52), (54, 1, 71)] false [(58, sC_readTerm2_71), (46, sC_look_71), (75, sC_putr71)] 44 rfl ⟨okC_readTerm2_71.le (by decide), ⟨okC_look_71.le (by decide), ⟨okC_putr71.le (by decide), trivial⟩⟩⟩ ?_
  rintro _ A K hA has ⟨d, rfl, ⟨i0, j0, p1, p2, p3, p4, p5, p6⟩, hK⟩
  have rg_d : rng d := has (ni d) (by simp)
  have f0 := frm_0 [72, 73] [(71, 8), (54, 3), (54, 4)] A
  obtain ⟨v7, e8⟩ : ∃ v, v = A 54 (fd 0) := ⟨_, rfl⟩
  rw [← e8] at p3
  obtain ⟨v9, e10⟩ : ∃ v, v = A 54 (fd 1) := ⟨_, rfl⟩
  rw [← e10] at p4
  have pf0 := PF_rf 71 A
  have hb_71_8 := ivf_at j0 12 rfl
  have hb_54_3 := ivf_at j0 1 rfl
  have hb_54_2 := ivf_at j0 0 rfl
  refine ⟨Nat.le_of_ble_eq_true rfl, [(6, [(0, 2, 54), (1, 0, 0), (2, 0, 0), (3, 0, 0)], fun zs B nn => match zs with | [l1, w, i] => iva IC B ∧ ivf JC B ∧ frm [72, 73] [(71, 8), (54, 3), (54, 4)] A B ∧ nn = (200 - i : Int).toNat ∧ (52 ≤ B 54 (fd 0) ∧ B 54 (fd 0) ≤ 52) ∧ (71 ≤ B 54 (fd 1) ∧ B 54 (fd 1) ≤ 71) ∧ (l1 = d) ∧ (0 ≤ i) ∧ (i ≤ 200) ∧ (0 ≤ w) ∧ (w ≤ 1) ∧ (KO B) ∧ (PF 71 A B) ∧ (A 71 (fd 8) ≤ B 71 (fd 8)) ∧ (B 71 (fd 8) + A 54 (fd 3) ≤ A 71 (fd 8) + B 54 (fd 3)) ∧ (B 71 (fd 8) ≤ B 54 (fd 3)) | _ => False)], ?_, ?_⟩
  · refine ⟨⟨rfl, ?_⟩, trivial⟩
    · refine fun l1 w i B mm hB hz hI => ?_
      obtain ⟨i1, j1, f1, hm, d0, d1, c0, c1, c2, c3, c4, c5, c6, c7, c8, c9⟩ := hI
      obtain ⟨hz_l1, hz_w, hz_i, _⟩ := hz
      obtain ⟨v39, e40⟩ : ∃ v, v = B 54 (fd 0) := ⟨_, rfl⟩
      rw [← e40] at d0
      obtain ⟨v41, e42⟩ : ∃ v, v = B 54 (fd 1) := ⟨_, rfl⟩
      rw [← e42] at d1
      have hc_71_8 := ivf_at j1 12 rfl
      have hc_54_3 := ivf_at j1 1 rfl
      have hc_54_2 := ivf_at j1 0 rfl
      have hc_t : B 54 (fd 2) = A 54 (fd 2) := frm_f f1 rfl
      have hc_w : B 53 = A 53 := frm_a f1 rfl
      refine And.intro (fun h43 => ?_) (fun h43 => ?_)
      · exact And.intro (by omega) (hK _ i1 j1 f1 _ (by omega) (by omega) c5 c6 (by first | assumption | omega | simp_all) (by first | assumption | omega | simp_all))
      · refine And.intro (fun h44 => ?_) (fun h44 => ?_)
        · exact And.intro (by omega) (hK _ i1 j1 f1 _ (by omega) (by omega) c5 c6 (by first | assumption | omega | simp_all) (by first | assumption | omega | simp_all))
        · obtain ⟨v45, e46⟩ : ∃ v, v = B 54 (fd 0) := ⟨_, rfl⟩
          have q47 : v39 = v45 := (e46.trans e40.symm).symm
          subst q47
          obtain ⟨v48, e49⟩ : ∃ v, v = B 54 (fd 1) := ⟨_, rfl⟩
          have q50 : v41 = v48 := (e49.trans e42.symm).symm
          subst q50
          refine And.intro rfl (And.intro (And.intro i1 (And.intro j1 (And.intro (by rw [← e46]; omega) (by rw [← e49]; omega)))) (fun r51 g53 g54 g52 => ?_))
          refine fun v55 e56 => ?_
          have h57 := qone_bd 3 r51
          rw [← e56] at h57
          have h58 := qone_p (s := 3) (x := r51) (by omega)
          refine And.intro (fun h59 => ?_) (fun h59 => ?_)
          · exact And.intro (by omega) (hK _ i1 j1 f1 _ (by omega) (by omega) c5 c6 (by first | assumption | omega | simp_all) (by first | assumption | omega | simp_all))
          · obtain ⟨v60, e61⟩ : ∃ v, v = B 54 (fd 0) := ⟨_, rfl⟩
            have q62 : v39 = v60 := (e61.trans e46.symm).symm
            subst q62
            obtain ⟨v63, e64⟩ : ∃ v, v = B 54 (fd 1) := ⟨_, rfl⟩
            have q65 : v41 = v63 := (e64.trans e49.symm).symm
            subst q65
            refine And.intro rfl (And.intro (And.intro i1 (And.intro j1 (And.intro (by rw [← e61]; omega) (by rw [← e64]; omega)))) (fun r66 g68 g69 g67 => ?_))
            refine fun v70 gv70 e71 => ?_
            have b72 := ivf_at j1 1 rfl
            refine fun v73 e74 => ?_
            refine And.intro (by omega) (fun A75 e76 => ?_)
            have i77 := iva_sf i1 e76 rfl
            have j78 := ivf_st j1 e76 (And.intro (by omega) trivial)
            have f79 := frm_sf f1 e76 rfl
            have t80 : A75 71 (fd 8) = B 71 (fd 8) := (congrFun (st_a e76 rfl) _)
            have t81 := st_v e76
            have t82 : A75 54 (fd 2) = B 54 (fd 2) := (st_f e76 rfl)
            have kk83 := KO_k c5 (st_a e76 rfl) (st_a e76 rfl) (st_a e76 rfl) (st_a e76 rfl)
            have pf84 := PF_k c6 (st_a e76 rfl)
            obtain ⟨v85, e86⟩ : ∃ v, v = A75 54 (fd 0) := ⟨_, rfl⟩
            have q87 : v39 = v85 := (e86.trans ((st_f e76 rfl).trans e61.symm)).symm
            subst q87
            obtain ⟨v88, e89⟩ : ∃ v, v = A75 54 (fd 1) := ⟨_, rfl⟩
            have q90 : v41 = v88 := (e89.trans ((st_f e76 rfl).trans e64.symm)).symm
            subst q90
            refine Exists.intro l1 (And.intro rfl (And.intro (And.intro i77 (And.intro j78 (And.intro (by omega) (And.intro (by omega) (And.intro (by rw [← e86]; omega) (And.intro (by rw [← e89]; omega) (And.intro kk83 (by first | assumption | omega | simp_all)))))))) (fun A91 i92 j93 f94 r95 g100 g101 g96 g97 g98 g99 => ?_)))
            have f102 := frm_c f79 f94 rfl
            have t103 := ivf_at j93 12 rfl
            have t104 := ivf_at j93 1 rfl
            have t105 : A91 54 (fd 2) = A75 54 (fd 2) := (frm_f f94 rfl)
            have pf106 := PF_tr pf84 g97 (by omega)
            obtain ⟨v107, e108⟩ : ∃ v, v = A91 54 (fd 1) := ⟨_, rfl⟩
            have q109 : v41 = v107 := (e108.trans ((frm_f f94 rfl).trans e89.symm)).symm
            subst q109
            refine And.intro (show A91 54 (fd 1) = ((71 : Nat) : Int) by omega) ?_
            refine Exists.intro r66 (Exists.intro 0 (And.intro rfl (And.intro (And.intro i92 (And.intro j93 (And.intro (by omega) (And.intro (by omega) (And.intro g96 (And.intro (by first | assumption | omega | simp_all) (by first | assumption | omega | simp_all))))))) (fun A110 i111 j112 f113 g114 g115 g116 g117 => ?_))))
            have f118 := frm_c f102 f113 rfl
            have t119 := ivf_at j112 12 rfl
            have t120 : A110 54 (fd 3) = A91 54 (fd 3) := (frm_f f113 rfl)
            have t121 : A110 54 (fd 2) = A91 54 (fd 2) := (frm_f f113 rfl)
            have pf122 := PF_tr pf106 g115 (by omega)
            refine fun v123 e124 => ?_
            obtain ⟨v125, e126⟩ : ∃ v, v = A110 54 (fd 0) := ⟨_, rfl⟩
            have q127 : v39 = v125 := (e126.trans ((Eq.trans (frm_f f113 rfl) (frm_f f94 rfl)).trans e86.symm)).symm
            subst q127
            obtain ⟨v128, e129⟩ : ∃ v, v = A110 54 (fd 1) := ⟨_, rfl⟩
            have q130 : v41 = v128 := (e129.trans ((frm_f f113 rfl).trans e108.symm)).symm
            subst q130
            exact And.intro (by omega) (Exists.intro (200 - v123 : Int).toNat (And.intro (by omega) (And.intro i111 (And.intro j112 (And.intro f118 (And.intro rfl (And.intro (by rw [← e126]; omega) (And.intro (by rw [← e129]; omega) (And.intro (by omega) (And.intro (by omega) (And.intro (by omega) (And.intro (by omega) (And.intro (by omega) (And.intro g114 (And.intro pf122 (And.intro (by omega) (And.intro (by omega) (by omega))))))))))))))))))
  · obtain ⟨v11, e12⟩ : ∃ v, v = A 54 (fd 0) := ⟨_, rfl⟩
    have q13 : v7 = v11 := (e12.trans e8.symm).symm
    subst q13
    obtain ⟨v14, e15⟩ : ∃ v, v = A 54 (fd 1) := ⟨_, rfl⟩
    have q16 : v9 = v14 := (e15.trans e10.symm).symm
    subst q16
    refine Exists.intro d (And.intro rfl (And.intro (And.intro i0 (And.intro j0 (And.intro (by omega) (And.intro (by omega) (And.intro (by rw [← e12]; omega) (And.intro (by rw [← e15]; omega) (And.intro p5 (by first | assumption | omega | simp_all)))))))) (fun A17 i18 j19 f20 r21 g26 g27 g22 g23 g24 g25 => ?_)))
    have f28 := frm_c f0 f20 rfl
    have t29 := ivf_at j19 12 rfl
    have t30 := ivf_at j19 1 rfl
    have t31 : A17 54 (fd 2) = A 54 (fd 2) := (frm_f f20 rfl)
    have pf32 := PF_tr pf0 g23 (by omega)
    obtain ⟨v33, e34⟩ : ∃ v, v = A17 54 (fd 0) := ⟨_, rfl⟩
    have q35 : v7 = v33 := (e34.trans ((frm_f f20 rfl).trans e12.symm)).symm
    subst q35
    obtain ⟨v36, e37⟩ : ∃ v, v = A17 54 (fd 1) := ⟨_, rfl⟩
    have q38 : v9 = v36 := (e37.trans ((frm_f f20 rfl).trans e15.symm)).symm
    subst q38
    exact Exists.intro (200 - 0 : Int).toNat (And.intro i18 (And.intro j19 (And.intro f28 (And.intro rfl (And.intro (by rw [← e34]; omega) (And.intro (by rw [← e37]; omega) (And.intro (by omega) (And.intro (by omega) (And.intro (by omega) (And.intro (by omega) (And.intro (by omega) (And.intro g22 (And.intro pf32 (And.intro (by omega) (And.intro (by omega) (by omega))))))))))))))))
def sC_readComparison2_71 : qS := fun as A K => ∃ d : Int, as = [rf 54, ni d] ∧ (iva IC A ∧ ivf JC A ∧ 2 ≤ d ∧ d ≤ 2 ∧ (52 ≤ A 54 (fd 0) ∧ A 54 (fd 0) ≤ 52) ∧ (71 ≤ A 54 (fd 1) ∧ A 54 (fd 1) ≤ 71) ∧ (KO A) ∧ (A 71 (fd 8) ≤ A 54 (fd 3))) ∧ (∀ A' : qA, iva IC A' → ivf JC A' → frm [72, 73] [(71, 8), (54, 3), (54, 4)] A A' → ∀ r : Int, 0 ≤ r → r ≤ 1 → (KO A') → (PF 71 A A') → (A 71 (fd 8) ≤ A' 71 (fd 8)) → (A' 71 (fd 8) + A 54 (fd 3) ≤ A 71 (fd 8) + A' 54 (fd 3)) → K (some (ni r)) A')
theorem okC_readComparison2_71 : okM LC 18 56 sC_readComparison2_71 := by
  refine qmeth [(54, 0, 52), (54, 1, 71)] false [(57, sC_readSum2_71), (46, sC_look_71), (75, sC_putr71), (47, sC_fail_71)] 42 rfl ⟨okC_readSum2_71.le (by decide), ⟨okC_look_71.le (by decide), ⟨okC_putr71.le (by decide), ⟨okC_fail_71.le (by decide), trivial⟩⟩⟩⟩ ?_
  rintro _ A K hA has ⟨d, rfl, ⟨i0, j0, p1, p2, p3, p4, p5, p6⟩, hK⟩
  have rg_d : rng d := has (ni d) (by simp)
  have f0 := frm_0 [72, 73] [(71, 8), (54, 3), (54, 4)] A
  obtain ⟨v7, e8⟩ : ∃ v, v = A 54 (fd 0) := ⟨_, rfl⟩
  rw [← e8] at p3
  obtain ⟨v9, e10⟩ : ∃ v, v = A 54 (fd 1) := ⟨_, rfl⟩
  rw [← e10] at p4
  have pf0 := PF_rf 71 A
  have hb_71_8 := ivf_at j0 12 rfl
  have hb_54_3 := ivf_at j0 1 rfl
  have hb_54_2 := ivf_at j0 0 rfl
  refine ⟨Nat.le_of_ble_eq_true rfl, [], trivial, ?_⟩
  obtain ⟨v11, e12⟩ : ∃ v, v = A 54 (fd 0) := ⟨_, rfl⟩
  have q13 : v7 = v11 := (e12.trans e8.symm).symm
  subst q13
  obtain ⟨v14, e15⟩ : ∃ v, v = A 54 (fd 1) := ⟨_, rfl⟩
  have q16 : v9 = v14 := (e15.trans e10.symm).symm
  subst q16
  refine Exists.intro d (And.intro rfl (And.intro (And.intro i0 (And.intro j0 (And.intro (by omega) (And.intro (by omega) (And.intro (by rw [← e12]; omega) (And.intro (by rw [← e15]; omega) (And.intro p5 (by first | assumption | omega | simp_all)))))))) (fun A17 i18 j19 f20 r21 g26 g27 g22 g23 g24 g25 => ?_)))
  have f28 := frm_c f0 f20 rfl
  have t29 := ivf_at j19 12 rfl
  have t30 := ivf_at j19 1 rfl
  have t31 : A17 54 (fd 2) = A 54 (fd 2) := (frm_f f20 rfl)
  have pf32 := PF_tr pf0 g23 (by omega)
  refine And.intro (fun h33 => ?_) (fun h33 => ?_)
  · obtain ⟨v34, e35⟩ : ∃ v, v = A17 54 (fd 0) := ⟨_, rfl⟩
    have q36 : v7 = v34 := (e35.trans ((frm_f f20 rfl).trans e12.symm)).symm
    subst q36
    obtain ⟨v37, e38⟩ : ∃ v, v = A17 54 (fd 1) := ⟨_, rfl⟩
    have q39 : v9 = v37 := (e38.trans ((frm_f f20 rfl).trans e15.symm)).symm
    subst q39
    refine And.intro rfl (And.intro (And.intro i18 (And.intro j19 (And.intro (by rw [← e35]; omega) (by rw [← e38]; omega)))) (fun r40 g42 g43 g41 => ?_))
    refine fun v44 e45 => ?_
    have h46 := qone_bd 2 r40
    rw [← e45] at h46
    have h47 := qone_p (s := 2) (x := r40) (by omega)
    refine And.intro (fun h48 => ?_) (fun h48 => ?_)
    · refine fun v49 gv49 e50 => ?_
      have b51 := ivf_at j19 1 rfl
      refine fun v52 e53 => ?_
      refine And.intro (by omega) (fun A54 e55 => ?_)
      have i56 := iva_sf i18 e55 rfl
      have j57 := ivf_st j19 e55 (And.intro (by omega) trivial)
      have f58 := frm_sf f28 e55 rfl
      have t59 : A54 71 (fd 8) = A17 71 (fd 8) := (congrFun (st_a e55 rfl) _)
      have t60 := st_v e55
      have t61 : A54 54 (fd 2) = A17 54 (fd 2) := (st_f e55 rfl)
      have kk62 := KO_k g22 (st_a e55 rfl) (st_a e55 rfl) (st_a e55 rfl) (st_a e55 rfl)
      have pf63 := PF_k pf32 (st_a e55 rfl)
      obtain ⟨v64, e65⟩ : ∃ v, v = A54 54 (fd 0) := ⟨_, rfl⟩
      have q66 : v7 = v64 := (e65.trans ((st_f e55 rfl).trans e35.symm)).symm
      subst q66
      obtain ⟨v67, e68⟩ : ∃ v, v = A54 54 (fd 1) := ⟨_, rfl⟩
      have q69 : v9 = v67 := (e68.trans ((st_f e55 rfl).trans e38.symm)).symm
      subst q69
      refine Exists.intro d (And.intro rfl (And.intro (And.intro i56 (And.intro j57 (And.intro (by omega) (And.intro (by omega) (And.intro (by rw [← e65]; omega) (And.intro (by rw [← e68]; omega) (And.intro kk62 (by first | assumption | omega | simp_all)))))))) (fun A70 i71 j72 f73 r74 g79 g80 g75 g76 g77 g78 => ?_)))
      have f81 := frm_c f58 f73 rfl
      have t82 := ivf_at j72 12 rfl
      have t83 := ivf_at j72 1 rfl
      have t84 : A70 54 (fd 2) = A54 54 (fd 2) := (frm_f f73 rfl)
      have pf85 := PF_tr pf63 g76 (by omega)
      refine And.intro (fun h86 => ?_) (fun h86 => ?_)
      · obtain ⟨v87, e88⟩ : ∃ v, v = A70 54 (fd 1) := ⟨_, rfl⟩
        have q89 : v9 = v87 := (e88.trans ((frm_f f73 rfl).trans e68.symm)).symm
        subst q89
        refine And.intro (show A70 54 (fd 1) = ((71 : Nat) : Int) by omega) ?_
        refine Exists.intro r40 (Exists.intro 0 (And.intro rfl (And.intro (And.intro i71 (And.intro j72 (And.intro (by omega) (And.intro (by omega) (And.intro g75 (And.intro (by first | assumption | omega | simp_all) (by first | assumption | omega | simp_all))))))) (fun A90 i91 j92 f93 g94 g95 g96 g97 => ?_))))
        have f98 := frm_c f81 f93 rfl
        have t99 := ivf_at j92 12 rfl
        have t100 : A90 54 (fd 3) = A70 54 (fd 3) := (frm_f f93 rfl)
        have t101 : A90 54 (fd 2) = A70 54 (fd 2) := (frm_f f93 rfl)
        have pf102 := PF_tr pf85 g95 (by omega)
        exact And.intro (by omega) (hK _ i91 j92 f98 _ (by omega) (by omega) g94 pf102 (by first | assumption | omega | simp_all) (by first | assumption | omega | simp_all))
      · exact And.intro (by omega) (hK _ i71 j72 f81 _ (by omega) (by omega) g75 pf85 (by first | assumption | omega | simp_all) (by first | assumption | omega | simp_all))
    · obtain ⟨v103, e104⟩ : ∃ v, v = A17 54 (fd 0) := ⟨_, rfl⟩
      have q105 : v7 = v103 := (e104.trans e35.symm).symm
      subst q105
      obtain ⟨v106, e107⟩ : ∃ v, v = A17 54 (fd 1) := ⟨_, rfl⟩
      have q108 : v9 = v106 := (e107.trans e38.symm).symm
      subst q108
      refine Exists.intro 1 (And.intro rfl (And.intro (And.intro i18 (And.intro j19 (And.intro (by omega) (And.intro (by omega) (And.intro (by rw [← e104]; omega) (by rw [← e107]; omega)))))) (fun A109 i110 j111 f112 => (fun h113 => ?_))))
      · have f114 := frm_c f28 f112 rfl
        have t115 : A109 71 (fd 8) = A17 71 (fd 8) := (frm_f f112 rfl)
        have t116 : A109 54 (fd 3) = A17 54 (fd 3) := (frm_f f112 rfl)
        have t117 : A109 54 (fd 2) = A17 54 (fd 2) := (frm_f f112 rfl)
        have kk118 := KO_fr g22 f112 rfl
        have pf119 := PF_k pf32 (frm_a f112 rfl)
        exact And.intro (by omega) (hK _ i110 j111 f114 _ (by omega) (by omega) kk118 pf119 (by first | assumption | omega | simp_all) (by first | assumption | omega | simp_all))
  · exact And.intro (by omega) (hK _ i18 j19 f28 _ (by omega) (by omega) g22 pf32 (by first | assumption | omega | simp_all) (by first | assumption | omega | simp_all))
def sC_readPiece2_71 : qS := fun as A K => ∃ d : Int, as = [rf 54, ni d] ∧ (iva IC A ∧ ivf JC A ∧ 2 ≤ d ∧ d ≤ 2 ∧ (52 ≤ A 54 (fd 0) ∧ A 54 (fd 0) ≤ 52) ∧ (71 ≤ A 54 (fd 1) ∧ A 54 (fd 1) ≤ 71) ∧ (KO A) ∧ (A 71 (fd 8) ≤ A 54 (fd 3))) ∧ (∀ A' : qA, iva IC A' → ivf JC A' → frm [72, 73] [(71, 8), (54, 3), (54, 4)] A A' → ∀ r : Int, 0 ≤ r → r ≤ 1 → (KO A') → (PF 71 A A') → (A 71 (fd 8) ≤ A' 71 (fd 8)) → (A' 71 (fd 8) + A 54 (fd 3) ≤ A 71 (fd 8) + A' 54 (fd 3)) → K (some (ni r)) A')
theorem okC_readPiece2_71 : okM LC 19 55 sC_readPiece2_71 := by
  refine qmeth [(54, 0, 52), (54, 1, 71)] false [(46, sC_look_71), (56, sC_readComparison2_71), (49, sC_enter_71), (55, sC_readPiece3_71), (75, sC_putr71), (52, sC_readCondition3_71), (48, sC_expect_71)] 56 rfl ⟨okC_look_71.le (by decide), ⟨okC_readComparison2_71.le (by decide), ⟨okC_enter_71.le (by decide), ⟨okC_readPiece3_71.le (by decide), ⟨okC_putr71.le (by decide), ⟨okC_readCondition3_71.le (by decide), ⟨okC_expect_71.le (by decide), trivial⟩⟩⟩⟩⟩⟩⟩ ?_
  rintro _ A K hA has ⟨d, rfl, ⟨i0, j0, p1, p2, p3, p4, p5, p6⟩, hK⟩
  have rg_d : rng d := has (ni d) (by simp)
  have f0 := frm_0 [72, 73] [(71, 8), (54, 3), (54, 4)] A
  obtain ⟨v7, e8⟩ : ∃ v, v = A 54 (fd 0) := ⟨_, rfl⟩
  rw [← e8] at p3
  obtain ⟨v9, e10⟩ : ∃ v, v = A 54 (fd 1) := ⟨_, rfl⟩
  rw [← e10] at p4
  have pf0 := PF_rf 71 A
  have hb_71_8 := ivf_at j0 12 rfl
  have hb_54_3 := ivf_at j0 1 rfl
  have hb_54_2 := ivf_at j0 0 rfl
  refine ⟨Nat.le_of_ble_eq_true rfl, [], trivial, ?_⟩
  obtain ⟨v11, e12⟩ : ∃ v, v = A 54 (fd 0) := ⟨_, rfl⟩
  have q13 : v7 = v11 := (e12.trans e8.symm).symm
  subst q13
  obtain ⟨v14, e15⟩ : ∃ v, v = A 54 (fd 1) := ⟨_, rfl⟩
  have q16 : v9 = v14 := (e15.trans e10.symm).symm
  subst q16
  refine And.intro rfl (And.intro (And.intro i0 (And.intro j0 (And.intro (by rw [← e12]; omega) (by rw [← e15]; omega)))) (fun r17 g19 g20 g18 => ?_))
  refine And.intro (fun h21 => ?_) (fun h21 => ?_)
  · refine And.intro (fun h22 => ?_) (fun h22 => ?_)
    · obtain ⟨v23, e24⟩ : ∃ v, v = A 54 (fd 0) := ⟨_, rfl⟩
      have q25 : v7 = v23 := (e24.trans e12.symm).symm
      subst q25
      obtain ⟨v26, e27⟩ : ∃ v, v = A 54 (fd 1) := ⟨_, rfl⟩
      have q28 : v9 = v26 := (e27.trans e15.symm).symm
      subst q28
      refine Exists.intro d (And.intro rfl (And.intro (And.intro i0 (And.intro j0 (And.intro (by omega) (And.intro (by omega) (And.intro (by rw [← e24]; omega) (And.intro (by rw [← e27]; omega) (And.intro p5 (by first | assumption | omega | simp_all)))))))) (fun A29 i30 j31 f32 r33 g38 g39 g34 g35 g36 g37 => ?_)))
      have f40 := frm_c f0 f32 rfl
      have t41 := ivf_at j31 12 rfl
      have t42 := ivf_at j31 1 rfl
      have t43 : A29 54 (fd 2) = A 54 (fd 2) := (frm_f f32 rfl)
      have pf44 := PF_tr pf0 g35 (by omega)
      exact And.intro (by omega) (hK _ i30 j31 f40 _ (by omega) (by omega) g34 pf44 (by first | assumption | omega | simp_all) (by first | assumption | omega | simp_all))
    · obtain ⟨v45, e46⟩ : ∃ v, v = A 54 (fd 0) := ⟨_, rfl⟩
      have q47 : v7 = v45 := (e46.trans e12.symm).symm
      subst q47
      obtain ⟨v48, e49⟩ : ∃ v, v = A 54 (fd 1) := ⟨_, rfl⟩
      have q50 : v9 = v48 := (e49.trans e15.symm).symm
      subst q50
      refine Exists.intro d (And.intro rfl (And.intro (And.intro i0 (And.intro j0 (And.intro (by omega) (And.intro (by omega) (And.intro (by rw [← e46]; omega) (And.intro (by rw [← e49]; omega) (And.intro p5 (by first | assumption | omega | simp_all)))))))) (fun A51 i52 j53 f54 g55 g56 => (And.intro (fun h57 => ?_) (fun h57 => by exfalso; omega)))))
      · have f58 := frm_c f0 f54 rfl
        have t59 : A51 71 (fd 8) = A 71 (fd 8) := (frm_f f54 rfl)
        have t60 := ivf_at j53 1 rfl
        have t61 : A51 54 (fd 2) = A 54 (fd 2) := (frm_f f54 rfl)
        have kk62 := KO_fr p5 f54 rfl
        have pf63 := PF_k pf0 (frm_a f54 rfl)
        refine And.intro (fun h64 => by exfalso; omega) (fun h64 => ?_)
        refine fun v65 e66 => ?_
        obtain ⟨v67, e68⟩ : ∃ v, v = A51 54 (fd 0) := ⟨_, rfl⟩
        have q69 : v7 = v67 := (e68.trans ((frm_f f54 rfl).trans e46.symm)).symm
        subst q69
        obtain ⟨v70, e71⟩ : ∃ v, v = A51 54 (fd 1) := ⟨_, rfl⟩
        have q72 : v9 = v70 := (e71.trans ((frm_f f54 rfl).trans e49.symm)).symm
        subst q72
        refine And.intro (by omega) (Exists.intro v65 (And.intro rfl (And.intro (And.intro i52 (And.intro j53 (And.intro (by omega) (And.intro (by omega) (And.intro (by rw [← e68]; omega) (And.intro (by rw [← e71]; omega) (And.intro kk62 (by first | assumption | omega | simp_all)))))))) (fun A73 i74 j75 f76 r77 g82 g83 g78 g79 g80 g81 => ?_))))
        have f84 := frm_c f58 f76 rfl
        have t85 := ivf_at j75 12 rfl
        have t86 := ivf_at j75 1 rfl
        have t87 : A73 54 (fd 2) = A51 54 (fd 2) := (frm_f f76 rfl)
        have pf88 := PF_tr pf63 g79 (by omega)
        refine And.intro (fun h89 => ?_) (fun h89 => ?_)
        · obtain ⟨v90, e91⟩ : ∃ v, v = A73 54 (fd 1) := ⟨_, rfl⟩
          have q92 : v9 = v90 := (e91.trans ((frm_f f76 rfl).trans e71.symm)).symm
          subst q92
          refine And.intro (show A73 54 (fd 1) = ((71 : Nat) : Int) by omega) ?_
          refine Exists.intro 33 (Exists.intro 0 (And.intro rfl (And.intro (And.intro i74 (And.intro j75 (And.intro (by omega) (And.intro (by omega) (And.intro g78 (And.intro (by first | assumption | omega | simp_all) (by first | assumption | omega | simp_all))))))) (fun A93 i94 j95 f96 g97 g98 g99 g100 => ?_))))
          have f101 := frm_c f84 f96 rfl
          have t102 := ivf_at j95 12 rfl
          have t103 : A93 54 (fd 3) = A73 54 (fd 3) := (frm_f f96 rfl)
          have t104 : A93 54 (fd 2) = A73 54 (fd 2) := (frm_f f96 rfl)
          have pf105 := PF_tr pf88 g98 (by omega)
          exact And.intro (by omega) (hK _ i94 j95 f101 _ (by omega) (by omega) g97 pf105 (by first | assumption | omega | simp_all) (by first | assumption | omega | simp_all))
        · exact And.intro (by omega) (hK _ i74 j75 f84 _ (by omega) (by omega) g78 pf88 (by first | assumption | omega | simp_all) (by first | assumption | omega | simp_all))
  · obtain ⟨v106, e107⟩ : ∃ v, v = A 54 (fd 0) := ⟨_, rfl⟩
    have q108 : v7 = v106 := (e107.trans e12.symm).symm
    subst q108
    obtain ⟨v109, e110⟩ : ∃ v, v = A 54 (fd 1) := ⟨_, rfl⟩
    have q111 : v9 = v109 := (e110.trans e15.symm).symm
    subst q111
    refine Exists.intro d (And.intro rfl (And.intro (And.intro i0 (And.intro j0 (And.intro (by omega) (And.intro (by omega) (And.intro (by rw [← e107]; omega) (And.intro (by rw [← e110]; omega) (And.intro p5 (by first | assumption | omega | simp_all)))))))) (fun A112 i113 j114 f115 g116 g117 => (And.intro (fun h118 => ?_) (fun h118 => by exfalso; omega)))))
    · have f119 := frm_c f0 f115 rfl
      have t120 : A112 71 (fd 8) = A 71 (fd 8) := (frm_f f115 rfl)
      have t121 := ivf_at j114 1 rfl
      have t122 : A112 54 (fd 2) = A 54 (fd 2) := (frm_f f115 rfl)
      have kk123 := KO_fr p5 f115 rfl
      have pf124 := PF_k pf0 (frm_a f115 rfl)
      refine And.intro (fun h125 => by exfalso; omega) (fun h125 => ?_)
      refine fun v126 e127 => ?_
      obtain ⟨v128, e129⟩ : ∃ v, v = A112 54 (fd 0) := ⟨_, rfl⟩
      have q130 : v7 = v128 := (e129.trans ((frm_f f115 rfl).trans e107.symm)).symm
      subst q130
      obtain ⟨v131, e132⟩ : ∃ v, v = A112 54 (fd 1) := ⟨_, rfl⟩
      have q133 : v9 = v131 := (e132.trans ((frm_f f115 rfl).trans e110.symm)).symm
      subst q133
      refine And.intro (by omega) (Exists.intro v126 (And.intro rfl (And.intro (And.intro i113 (And.intro j114 (And.intro (by omega) (And.intro (by omega) (And.intro (by rw [← e129]; omega) (And.intro (by rw [← e132]; omega) (And.intro kk123 (by first | assumption | omega | simp_all)))))))) (fun A134 i135 j136 f137 r138 g143 g144 g139 g140 g141 g142 => ?_))))
      have f145 := frm_c f119 f137 rfl
      have t146 := ivf_at j136 12 rfl
      have t147 := ivf_at j136 1 rfl
      have t148 : A134 54 (fd 2) = A112 54 (fd 2) := (frm_f f137 rfl)
      have pf149 := PF_tr pf124 g140 (by omega)
      refine And.intro (fun h150 => ?_) (fun h150 => ?_)
      · exact And.intro (by omega) (hK _ i135 j136 f145 _ (by omega) (by omega) g139 pf149 (by first | assumption | omega | simp_all) (by first | assumption | omega | simp_all))
      · obtain ⟨v151, e152⟩ : ∃ v, v = A134 54 (fd 0) := ⟨_, rfl⟩
        have q153 : v7 = v151 := (e152.trans ((frm_f f137 rfl).trans e129.symm)).symm
        subst q153
        obtain ⟨v154, e155⟩ : ∃ v, v = A134 54 (fd 1) := ⟨_, rfl⟩
        have q156 : v9 = v154 := (e155.trans ((frm_f f137 rfl).trans e132.symm)).symm
        subst q156
        refine Exists.intro 41 (And.intro rfl (And.intro (And.intro i135 (And.intro j136 (And.intro (by omega) (And.intro (by omega) (And.intro (by rw [← e152]; omega) (And.intro (by rw [← e155]; omega) (And.intro g139 (by first | assumption | omega | simp_all)))))))) (fun A157 i158 j159 f160 r161 g163 g164 g162 => ?_)))
        have f165 := frm_c f145 f160 rfl
        have t166 : A157 71 (fd 8) = A134 71 (fd 8) := (frm_f f160 rfl)
        have t167 := ivf_at j159 1 rfl
        have t168 : A157 54 (fd 2) = A134 54 (fd 2) := (frm_f f160 rfl)
        have kk169 := KO_fr g139 f160 rfl
        have pf170 := PF_k pf149 (frm_a f160 rfl)
        refine And.intro (fun h171 => ?_) (fun h171 => ?_)
        · exact And.intro (by omega) (hK _ i158 j159 f165 _ (by omega) (by omega) kk169 pf170 (by first | assumption | omega | simp_all) (by first | assumption | omega | simp_all))
        · exact And.intro (by omega) (hK _ i158 j159 f165 _ (by omega) (by omega) kk169 pf170 (by first | assumption | omega | simp_all) (by first | assumption | omega | simp_all))
def sC_readPart2_71 : qS := fun as A K => ∃ d : Int, as = [rf 54, ni d] ∧ (iva IC A ∧ ivf JC A ∧ 2 ≤ d ∧ d ≤ 2 ∧ (52 ≤ A 54 (fd 0) ∧ A 54 (fd 0) ≤ 52) ∧ (71 ≤ A 54 (fd 1) ∧ A 54 (fd 1) ≤ 71) ∧ (KO A) ∧ (A 71 (fd 8) ≤ A 54 (fd 3))) ∧ (∀ A' : qA, iva IC A' → ivf JC A' → frm [72, 73] [(71, 8), (54, 3), (54, 4)] A A' → ∀ r : Int, 0 ≤ r → r ≤ 1 → (KO A') → (PF 71 A A') → (A 71 (fd 8) ≤ A' 71 (fd 8)) → (A' 71 (fd 8) + A 54 (fd 3) ≤ A 71 (fd 8) + A' 54 (fd 3)) → K (some (ni r)) A')
theorem okC_readPart2_71 : okM LC 20 53 sC_readPart2_71 := by
  refine qmeth [(54, 0, 52), (54, 1, 71)] false [(55, sC_readPiece2_71), (46, sC_look_71), (54, sC_readJump_71)] 40 rfl ⟨okC_readPiece2_71.le (by decide), ⟨okC_look_71.le (by decide), ⟨okC_readJump_71.le (by decide), trivial⟩⟩⟩ ?_
  rintro _ A K hA has ⟨d, rfl, ⟨i0, j0, p1, p2, p3, p4, p5, p6⟩, hK⟩
  have rg_d : rng d := has (ni d) (by simp)
  have f0 := frm_0 [72, 73] [(71, 8), (54, 3), (54, 4)] A
  obtain ⟨v7, e8⟩ : ∃ v, v = A 54 (fd 0) := ⟨_, rfl⟩
  rw [← e8] at p3
  obtain ⟨v9, e10⟩ : ∃ v, v = A 54 (fd 1) := ⟨_, rfl⟩
  rw [← e10] at p4
  have pf0 := PF_rf 71 A
  have hb_71_8 := ivf_at j0 12 rfl
  have hb_54_3 := ivf_at j0 1 rfl
  have hb_54_2 := ivf_at j0 0 rfl
  refine ⟨Nat.le_of_ble_eq_true rfl, [(6, [(0, 2, 54), (1, 0, 0), (2, 0, 0), (3, 0, 0)], fun zs B nn => match zs with | [l1, w, i] => iva IC B ∧ ivf JC B ∧ frm [72, 73] [(71, 8), (54, 3), (54, 4)] A B ∧ nn = (200 - i : Int).toNat ∧ (52 ≤ B 54 (fd 0) ∧ B 54 (fd 0) ≤ 52) ∧ (71 ≤ B 54 (fd 1) ∧ B 54 (fd 1) ≤ 71) ∧ (l1 = d) ∧ (0 ≤ i) ∧ (i ≤ 200) ∧ (0 ≤ w) ∧ (w ≤ 1) ∧ (KO B) ∧ (PF 71 A B) ∧ (A 71 (fd 8) ≤ B 71 (fd 8)) ∧ (B 71 (fd 8) + A 54 (fd 3) ≤ A 71 (fd 8) + B 54 (fd 3)) ∧ (B 71 (fd 8) ≤ B 54 (fd 3)) | _ => False)], ?_, ?_⟩
  · refine ⟨⟨rfl, ?_⟩, trivial⟩
    · refine fun l1 w i B mm hB hz hI => ?_
      obtain ⟨i1, j1, f1, hm, d0, d1, c0, c1, c2, c3, c4, c5, c6, c7, c8, c9⟩ := hI
      obtain ⟨hz_l1, hz_w, hz_i, _⟩ := hz
      obtain ⟨v39, e40⟩ : ∃ v, v = B 54 (fd 0) := ⟨_, rfl⟩
      rw [← e40] at d0
      obtain ⟨v41, e42⟩ : ∃ v, v = B 54 (fd 1) := ⟨_, rfl⟩
      rw [← e42] at d1
      have hc_71_8 := ivf_at j1 12 rfl
      have hc_54_3 := ivf_at j1 1 rfl
      have hc_54_2 := ivf_at j1 0 rfl
      have hc_t : B 54 (fd 2) = A 54 (fd 2) := frm_f f1 rfl
      have hc_w : B 53 = A 53 := frm_a f1 rfl
      refine And.intro (fun h43 => ?_) (fun h43 => ?_)
      · exact And.intro (by omega) (hK _ i1 j1 f1 _ (by omega) (by omega) c5 c6 (by first | assumption | omega | simp_all) (by first | assumption | omega | simp_all))
      · refine And.intro (fun h44 => ?_) (fun h44 => ?_)
        · exact And.intro (by omega) (hK _ i1 j1 f1 _ (by omega) (by omega) c5 c6 (by first | assumption | omega | simp_all) (by first | assumption | omega | simp_all))
        · obtain ⟨v45, e46⟩ : ∃ v, v = B 54 (fd 0) := ⟨_, rfl⟩
          have q47 : v39 = v45 := (e46.trans e40.symm).symm
          subst q47
          obtain ⟨v48, e49⟩ : ∃ v, v = B 54 (fd 1) := ⟨_, rfl⟩
          have q50 : v41 = v48 := (e49.trans e42.symm).symm
          subst q50
          refine And.intro rfl (And.intro (And.intro i1 (And.intro j1 (And.intro (by rw [← e46]; omega) (by rw [← e49]; omega)))) (fun r51 g53 g54 g52 => ?_))
          refine And.intro (fun h55 => ?_) (fun h55 => ?_)
          · exact And.intro (by omega) (hK _ i1 j1 f1 _ (by omega) (by omega) c5 c6 (by first | assumption | omega | simp_all) (by first | assumption | omega | simp_all))
          · obtain ⟨v56, e57⟩ : ∃ v, v = B 54 (fd 0) := ⟨_, rfl⟩
            have q58 : v39 = v56 := (e57.trans e46.symm).symm
            subst q58
            obtain ⟨v59, e60⟩ : ∃ v, v = B 54 (fd 1) := ⟨_, rfl⟩
            have q61 : v41 = v59 := (e60.trans e49.symm).symm
            subst q61
            refine And.intro rfl (And.intro (And.intro i1 (And.intro j1 (And.intro (by rw [← e57]; omega) (And.intro (by rw [← e60]; omega) (And.intro c5 (And.intro (by first | assumption | omega | simp_all) (And.intro (by first | assumption | omega | simp_all) (by first | assumption | omega | simp_all)))))))) (fun A62 i63 j64 f65 r66 g73 g74 g67 g68 g69 g70 g71 g72 => ?_))
            have f75 := frm_c f1 f65 rfl
            have t76 := ivf_at j64 12 rfl
            have t77 := ivf_at j64 1 rfl
            have t78 : A62 54 (fd 2) = B 54 (fd 2) := (frm_f f65 rfl)
            have pf79 := PF_tr c6 g68 (by omega)
            obtain ⟨v80, e81⟩ : ∃ v, v = A62 54 (fd 0) := ⟨_, rfl⟩
            have q82 : v39 = v80 := (e81.trans ((frm_f f65 rfl).trans e57.symm)).symm
            subst q82
            obtain ⟨v83, e84⟩ : ∃ v, v = A62 54 (fd 1) := ⟨_, rfl⟩
            have q85 : v41 = v83 := (e84.trans ((frm_f f65 rfl).trans e60.symm)).symm
            subst q85
            refine Exists.intro l1 (And.intro rfl (And.intro (And.intro i63 (And.intro j64 (And.intro (by omega) (And.intro (by omega) (And.intro (by rw [← e81]; omega) (And.intro (by rw [← e84]; omega) (And.intro g67 (by first | assumption | omega | simp_all)))))))) (fun A86 i87 j88 f89 r90 g95 g96 g91 g92 g93 g94 => ?_)))
            have f97 := frm_c f75 f89 rfl
            have t98 := ivf_at j88 12 rfl
            have t99 := ivf_at j88 1 rfl
            have t100 : A86 54 (fd 2) = A62 54 (fd 2) := (frm_f f89 rfl)
            have pf101 := PF_tr pf79 g92 (by omega)
            obtain ⟨v102, e103⟩ : ∃ v, v = A86 54 (fd 1) := ⟨_, rfl⟩
            have q104 : v41 = v102 := (e103.trans ((frm_f f89 rfl).trans e84.symm)).symm
            subst q104
            refine And.intro (show A86 54 (fd 1) = ((71 : Nat) : Int) by omega) ?_
            obtain ⟨v105, e106⟩ : ∃ v, v = A86 54 (fd 1) := ⟨_, rfl⟩
            have q107 : v41 = v105 := (e106.trans e103.symm).symm
            subst q107
            refine And.intro (show A86 54 (fd 1) = ((71 : Nat) : Int) by omega) ?_
            refine fun v108 gv108 e109 => ?_
            have b110 := ivf_at j88 12 rfl
            have hjump : A86 72 r66 ≠ 107 := by have q1 := g92 r66 (by omega) (by omega); simp only [Nat.reduceAdd] at q1; have q2 := g72; omega
            refine And.intro (by omega) (fun A111 e112 => ?_)
            have i113 := iva_st i87 e112 (And.intro (by omega) trivial)
            have j114 := ivf_sa j88 e112 rfl
            have f115 := frm_s f97 e112 rfl
            have t116 : A111 71 (fd 8) = A86 71 (fd 8) := (congrFun (st_a e112 rfl) _)
            have t117 : A111 54 (fd 3) = A86 54 (fd 3) := (congrFun (st_a e112 rfl) _)
            have t118 : A111 54 (fd 2) = A86 54 (fd 2) := (congrFun (st_a e112 rfl) _)
            have kk119 := KO_o73 g91 e112 hjump
            have pf120 := PF_k pf101 (st_a e112 rfl)
            refine fun v121 e122 => ?_
            obtain ⟨v123, e124⟩ : ∃ v, v = A111 54 (fd 0) := ⟨_, rfl⟩
            have q125 : v39 = v123 := (e124.trans ((Eq.trans (congrFun (st_a e112 rfl) _) (frm_f f89 rfl)).trans e81.symm)).symm
            subst q125
            obtain ⟨v126, e127⟩ : ∃ v, v = A111 54 (fd 1) := ⟨_, rfl⟩
            have q128 : v41 = v126 := (e127.trans ((congrFun (st_a e112 rfl) _).trans e106.symm)).symm
            subst q128
            exact And.intro (by omega) (Exists.intro (200 - v121 : Int).toNat (And.intro (by omega) (And.intro i113 (And.intro j114 (And.intro f115 (And.intro rfl (And.intro (by rw [← e124]; omega) (And.intro (by rw [← e127]; omega) (And.intro (by omega) (And.intro (by omega) (And.intro (by omega) (And.intro (by omega) (And.intro (by omega) (And.intro kk119 (And.intro pf120 (And.intro (by omega) (And.intro (by omega) (by omega))))))))))))))))))
  · obtain ⟨v11, e12⟩ : ∃ v, v = A 54 (fd 0) := ⟨_, rfl⟩
    have q13 : v7 = v11 := (e12.trans e8.symm).symm
    subst q13
    obtain ⟨v14, e15⟩ : ∃ v, v = A 54 (fd 1) := ⟨_, rfl⟩
    have q16 : v9 = v14 := (e15.trans e10.symm).symm
    subst q16
    refine Exists.intro d (And.intro rfl (And.intro (And.intro i0 (And.intro j0 (And.intro (by omega) (And.intro (by omega) (And.intro (by rw [← e12]; omega) (And.intro (by rw [← e15]; omega) (And.intro p5 (by first | assumption | omega | simp_all)))))))) (fun A17 i18 j19 f20 r21 g26 g27 g22 g23 g24 g25 => ?_)))
    have f28 := frm_c f0 f20 rfl
    have t29 := ivf_at j19 12 rfl
    have t30 := ivf_at j19 1 rfl
    have t31 : A17 54 (fd 2) = A 54 (fd 2) := (frm_f f20 rfl)
    have pf32 := PF_tr pf0 g23 (by omega)
    obtain ⟨v33, e34⟩ : ∃ v, v = A17 54 (fd 0) := ⟨_, rfl⟩
    have q35 : v7 = v33 := (e34.trans ((frm_f f20 rfl).trans e12.symm)).symm
    subst q35
    obtain ⟨v36, e37⟩ : ∃ v, v = A17 54 (fd 1) := ⟨_, rfl⟩
    have q38 : v9 = v36 := (e37.trans ((frm_f f20 rfl).trans e15.symm)).symm
    subst q38
    exact Exists.intro (200 - 0 : Int).toNat (And.intro i18 (And.intro j19 (And.intro f28 (And.intro rfl (And.intro (by rw [← e34]; omega) (And.intro (by rw [← e37]; omega) (And.intro (by omega) (And.intro (by omega) (And.intro (by omega) (And.intro (by omega) (And.intro (by omega) (And.intro g22 (And.intro pf32 (And.intro (by omega) (And.intro (by omega) (by omega))))))))))))))))
def sC_readCondition2_71 : qS := fun as A K => ∃ d : Int, as = [rf 54, ni d] ∧ (iva IC A ∧ ivf JC A ∧ 2 ≤ d ∧ d ≤ 2 ∧ (52 ≤ A 54 (fd 0) ∧ A 54 (fd 0) ≤ 52) ∧ (71 ≤ A 54 (fd 1) ∧ A 54 (fd 1) ≤ 71) ∧ (KO A) ∧ (A 71 (fd 8) ≤ A 54 (fd 3))) ∧ (∀ A' : qA, iva IC A' → ivf JC A' → frm [72, 73] [(71, 8), (54, 3), (54, 4)] A A' → ∀ r : Int, 0 ≤ r → r ≤ 1 → (KO A') → (PF 71 A A') → (A 71 (fd 8) ≤ A' 71 (fd 8)) → (A' 71 (fd 8) + A 54 (fd 3) ≤ A 71 (fd 8) + A' 54 (fd 3)) → K (some (ni r)) A')
theorem okC_readCondition2_71 : okM LC 21 52 sC_readCondition2_71 := by
  refine qmeth [(54, 0, 52), (54, 1, 71)] false [(53, sC_readPart2_71), (46, sC_look_71), (54, sC_readJump_71)] 40 rfl ⟨okC_readPart2_71.le (by decide), ⟨okC_look_71.le (by decide), ⟨okC_readJump_71.le (by decide), trivial⟩⟩⟩ ?_
  rintro _ A K hA has ⟨d, rfl, ⟨i0, j0, p1, p2, p3, p4, p5, p6⟩, hK⟩
  have rg_d : rng d := has (ni d) (by simp)
  have f0 := frm_0 [72, 73] [(71, 8), (54, 3), (54, 4)] A
  obtain ⟨v7, e8⟩ : ∃ v, v = A 54 (fd 0) := ⟨_, rfl⟩
  rw [← e8] at p3
  obtain ⟨v9, e10⟩ : ∃ v, v = A 54 (fd 1) := ⟨_, rfl⟩
  rw [← e10] at p4
  have pf0 := PF_rf 71 A
  have hb_71_8 := ivf_at j0 12 rfl
  have hb_54_3 := ivf_at j0 1 rfl
  have hb_54_2 := ivf_at j0 0 rfl
  refine ⟨Nat.le_of_ble_eq_true rfl, [(6, [(0, 2, 54), (1, 0, 0), (2, 0, 0), (3, 0, 0)], fun zs B nn => match zs with | [l1, w, i] => iva IC B ∧ ivf JC B ∧ frm [72, 73] [(71, 8), (54, 3), (54, 4)] A B ∧ nn = (200 - i : Int).toNat ∧ (52 ≤ B 54 (fd 0) ∧ B 54 (fd 0) ≤ 52) ∧ (71 ≤ B 54 (fd 1) ∧ B 54 (fd 1) ≤ 71) ∧ (l1 = d) ∧ (0 ≤ i) ∧ (i ≤ 200) ∧ (0 ≤ w) ∧ (w ≤ 1) ∧ (KO B) ∧ (PF 71 A B) ∧ (A 71 (fd 8) ≤ B 71 (fd 8)) ∧ (B 71 (fd 8) + A 54 (fd 3) ≤ A 71 (fd 8) + B 54 (fd 3)) ∧ (B 71 (fd 8) ≤ B 54 (fd 3)) | _ => False)], ?_, ?_⟩
  · refine ⟨⟨rfl, ?_⟩, trivial⟩
    · refine fun l1 w i B mm hB hz hI => ?_
      obtain ⟨i1, j1, f1, hm, d0, d1, c0, c1, c2, c3, c4, c5, c6, c7, c8, c9⟩ := hI
      obtain ⟨hz_l1, hz_w, hz_i, _⟩ := hz
      obtain ⟨v39, e40⟩ : ∃ v, v = B 54 (fd 0) := ⟨_, rfl⟩
      rw [← e40] at d0
      obtain ⟨v41, e42⟩ : ∃ v, v = B 54 (fd 1) := ⟨_, rfl⟩
      rw [← e42] at d1
      have hc_71_8 := ivf_at j1 12 rfl
      have hc_54_3 := ivf_at j1 1 rfl
      have hc_54_2 := ivf_at j1 0 rfl
      have hc_t : B 54 (fd 2) = A 54 (fd 2) := frm_f f1 rfl
      have hc_w : B 53 = A 53 := frm_a f1 rfl
      refine And.intro (fun h43 => ?_) (fun h43 => ?_)
      · exact And.intro (by omega) (hK _ i1 j1 f1 _ (by omega) (by omega) c5 c6 (by first | assumption | omega | simp_all) (by first | assumption | omega | simp_all))
      · refine And.intro (fun h44 => ?_) (fun h44 => ?_)
        · exact And.intro (by omega) (hK _ i1 j1 f1 _ (by omega) (by omega) c5 c6 (by first | assumption | omega | simp_all) (by first | assumption | omega | simp_all))
        · obtain ⟨v45, e46⟩ : ∃ v, v = B 54 (fd 0) := ⟨_, rfl⟩
          have q47 : v39 = v45 := (e46.trans e40.symm).symm
          subst q47
          obtain ⟨v48, e49⟩ : ∃ v, v = B 54 (fd 1) := ⟨_, rfl⟩
          have q50 : v41 = v48 := (e49.trans e42.symm).symm
          subst q50
          refine And.intro rfl (And.intro (And.intro i1 (And.intro j1 (And.intro (by rw [← e46]; omega) (by rw [← e49]; omega)))) (fun r51 g53 g54 g52 => ?_))
          refine And.intro (fun h55 => ?_) (fun h55 => ?_)
          · exact And.intro (by omega) (hK _ i1 j1 f1 _ (by omega) (by omega) c5 c6 (by first | assumption | omega | simp_all) (by first | assumption | omega | simp_all))
          · obtain ⟨v56, e57⟩ : ∃ v, v = B 54 (fd 0) := ⟨_, rfl⟩
            have q58 : v39 = v56 := (e57.trans e46.symm).symm
            subst q58
            obtain ⟨v59, e60⟩ : ∃ v, v = B 54 (fd 1) := ⟨_, rfl⟩
            have q61 : v41 = v59 := (e60.trans e49.symm).symm
            subst q61
            refine And.intro rfl (And.intro (And.intro i1 (And.intro j1 (And.intro (by rw [← e57]; omega) (And.intro (by rw [← e60]; omega) (And.intro c5 (And.intro (by first | assumption | omega | simp_all) (And.intro (by first | assumption | omega | simp_all) (by first | assumption | omega | simp_all)))))))) (fun A62 i63 j64 f65 r66 g73 g74 g67 g68 g69 g70 g71 g72 => ?_))
            have f75 := frm_c f1 f65 rfl
            have t76 := ivf_at j64 12 rfl
            have t77 := ivf_at j64 1 rfl
            have t78 : A62 54 (fd 2) = B 54 (fd 2) := (frm_f f65 rfl)
            have pf79 := PF_tr c6 g68 (by omega)
            obtain ⟨v80, e81⟩ : ∃ v, v = A62 54 (fd 0) := ⟨_, rfl⟩
            have q82 : v39 = v80 := (e81.trans ((frm_f f65 rfl).trans e57.symm)).symm
            subst q82
            obtain ⟨v83, e84⟩ : ∃ v, v = A62 54 (fd 1) := ⟨_, rfl⟩
            have q85 : v41 = v83 := (e84.trans ((frm_f f65 rfl).trans e60.symm)).symm
            subst q85
            refine Exists.intro l1 (And.intro rfl (And.intro (And.intro i63 (And.intro j64 (And.intro (by omega) (And.intro (by omega) (And.intro (by rw [← e81]; omega) (And.intro (by rw [← e84]; omega) (And.intro g67 (by first | assumption | omega | simp_all)))))))) (fun A86 i87 j88 f89 r90 g95 g96 g91 g92 g93 g94 => ?_)))
            have f97 := frm_c f75 f89 rfl
            have t98 := ivf_at j88 12 rfl
            have t99 := ivf_at j88 1 rfl
            have t100 : A86 54 (fd 2) = A62 54 (fd 2) := (frm_f f89 rfl)
            have pf101 := PF_tr pf79 g92 (by omega)
            obtain ⟨v102, e103⟩ : ∃ v, v = A86 54 (fd 1) := ⟨_, rfl⟩
            have q104 : v41 = v102 := (e103.trans ((frm_f f89 rfl).trans e84.symm)).symm
            subst q104
            refine And.intro (show A86 54 (fd 1) = ((71 : Nat) : Int) by omega) ?_
            obtain ⟨v105, e106⟩ : ∃ v, v = A86 54 (fd 1) := ⟨_, rfl⟩
            have q107 : v41 = v105 := (e106.trans e103.symm).symm
            subst q107
            refine And.intro (show A86 54 (fd 1) = ((71 : Nat) : Int) by omega) ?_
            refine fun v108 gv108 e109 => ?_
            have b110 := ivf_at j88 12 rfl
            have hjump : A86 72 r66 ≠ 107 := by have q1 := g92 r66 (by omega) (by omega); simp only [Nat.reduceAdd] at q1; have q2 := g72; omega
            refine And.intro (by omega) (fun A111 e112 => ?_)
            have i113 := iva_st i87 e112 (And.intro (by omega) trivial)
            have j114 := ivf_sa j88 e112 rfl
            have f115 := frm_s f97 e112 rfl
            have t116 : A111 71 (fd 8) = A86 71 (fd 8) := (congrFun (st_a e112 rfl) _)
            have t117 : A111 54 (fd 3) = A86 54 (fd 3) := (congrFun (st_a e112 rfl) _)
            have t118 : A111 54 (fd 2) = A86 54 (fd 2) := (congrFun (st_a e112 rfl) _)
            have kk119 := KO_o73 g91 e112 hjump
            have pf120 := PF_k pf101 (st_a e112 rfl)
            refine fun v121 e122 => ?_
            obtain ⟨v123, e124⟩ : ∃ v, v = A111 54 (fd 0) := ⟨_, rfl⟩
            have q125 : v39 = v123 := (e124.trans ((Eq.trans (congrFun (st_a e112 rfl) _) (frm_f f89 rfl)).trans e81.symm)).symm
            subst q125
            obtain ⟨v126, e127⟩ : ∃ v, v = A111 54 (fd 1) := ⟨_, rfl⟩
            have q128 : v41 = v126 := (e127.trans ((congrFun (st_a e112 rfl) _).trans e106.symm)).symm
            subst q128
            exact And.intro (by omega) (Exists.intro (200 - v121 : Int).toNat (And.intro (by omega) (And.intro i113 (And.intro j114 (And.intro f115 (And.intro rfl (And.intro (by rw [← e124]; omega) (And.intro (by rw [← e127]; omega) (And.intro (by omega) (And.intro (by omega) (And.intro (by omega) (And.intro (by omega) (And.intro (by omega) (And.intro kk119 (And.intro pf120 (And.intro (by omega) (And.intro (by omega) (by omega))))))))))))))))))
  · obtain ⟨v11, e12⟩ : ∃ v, v = A 54 (fd 0) := ⟨_, rfl⟩
    have q13 : v7 = v11 := (e12.trans e8.symm).symm
    subst q13
    obtain ⟨v14, e15⟩ : ∃ v, v = A 54 (fd 1) := ⟨_, rfl⟩
    have q16 : v9 = v14 := (e15.trans e10.symm).symm
    subst q16
    refine Exists.intro d (And.intro rfl (And.intro (And.intro i0 (And.intro j0 (And.intro (by omega) (And.intro (by omega) (And.intro (by rw [← e12]; omega) (And.intro (by rw [← e15]; omega) (And.intro p5 (by first | assumption | omega | simp_all)))))))) (fun A17 i18 j19 f20 r21 g26 g27 g22 g23 g24 g25 => ?_)))
    have f28 := frm_c f0 f20 rfl
    have t29 := ivf_at j19 12 rfl
    have t30 := ivf_at j19 1 rfl
    have t31 : A17 54 (fd 2) = A 54 (fd 2) := (frm_f f20 rfl)
    have pf32 := PF_tr pf0 g23 (by omega)
    obtain ⟨v33, e34⟩ : ∃ v, v = A17 54 (fd 0) := ⟨_, rfl⟩
    have q35 : v7 = v33 := (e34.trans ((frm_f f20 rfl).trans e12.symm)).symm
    subst q35
    obtain ⟨v36, e37⟩ : ∃ v, v = A17 54 (fd 1) := ⟨_, rfl⟩
    have q38 : v9 = v36 := (e37.trans ((frm_f f20 rfl).trans e15.symm)).symm
    subst q38
    exact Exists.intro (200 - 0 : Int).toNat (And.intro i18 (And.intro j19 (And.intro f28 (And.intro rfl (And.intro (by rw [← e34]; omega) (And.intro (by rw [← e37]; omega) (And.intro (by omega) (And.intro (by omega) (And.intro (by omega) (And.intro (by omega) (And.intro (by omega) (And.intro g22 (And.intro pf32 (And.intro (by omega) (And.intro (by omega) (by omega))))))))))))))))
def sC_readFactor1_71 : qS := fun as A K => ∃ d : Int, as = [rf 54, ni d] ∧ (iva IC A ∧ ivf JC A ∧ 1 ≤ d ∧ d ≤ 1 ∧ (52 ≤ A 54 (fd 0) ∧ A 54 (fd 0) ≤ 52) ∧ (71 ≤ A 54 (fd 1) ∧ A 54 (fd 1) ≤ 71) ∧ (KO A) ∧ (A 71 (fd 8) ≤ A 54 (fd 3))) ∧ (∀ A' : qA, iva IC A' → ivf JC A' → frm [72, 73] [(71, 8), (54, 3), (54, 4)] A A' → ∀ r : Int, 0 ≤ r → r ≤ 1 → (KO A') → (PF 71 A A') → (A 71 (fd 8) ≤ A' 71 (fd 8)) → (A' 71 (fd 8) + A 54 (fd 3) ≤ A 71 (fd 8) + A' 54 (fd 3)) → K (some (ni r)) A')
theorem okC_readFactor1_71 : okM LC 18 59 sC_readFactor1_71 := by
  refine qmeth [(54, 0, 52), (54, 1, 71)] false [(46, sC_look_71), (60, sC_isDigit), (61, sC_readNumber_71), (75, sC_putr71), (47, sC_fail_71), (49, sC_enter_71), (57, sC_readSum2_71), (48, sC_expect_71)] 60 rfl ⟨okC_look_71.le (by decide), ⟨okC_isDigit.le (by decide), ⟨okC_readNumber_71.le (by decide), ⟨okC_putr71.le (by decide), ⟨okC_fail_71.le (by decide), ⟨okC_enter_71.le (by decide), ⟨okC_readSum2_71.le (by decide), ⟨okC_expect_71.le (by decide), trivial⟩⟩⟩⟩⟩⟩⟩⟩ ?_
  rintro _ A K hA has ⟨d, rfl, ⟨i0, j0, p1, p2, p3, p4, p5, p6⟩, hK⟩
  have rg_d : rng d := has (ni d) (by simp)
  have f0 := frm_0 [72, 73] [(71, 8), (54, 3), (54, 4)] A
  obtain ⟨v7, e8⟩ : ∃ v, v = A 54 (fd 0) := ⟨_, rfl⟩
  rw [← e8] at p3
  obtain ⟨v9, e10⟩ : ∃ v, v = A 54 (fd 1) := ⟨_, rfl⟩
  rw [← e10] at p4
  have pf0 := PF_rf 71 A
  have hb_71_8 := ivf_at j0 12 rfl
  have hb_54_3 := ivf_at j0 1 rfl
  have hb_54_2 := ivf_at j0 0 rfl
  refine ⟨Nat.le_of_ble_eq_true rfl, [], trivial, ?_⟩
  obtain ⟨v11, e12⟩ : ∃ v, v = A 54 (fd 0) := ⟨_, rfl⟩
  have q13 : v7 = v11 := (e12.trans e8.symm).symm
  subst q13
  obtain ⟨v14, e15⟩ : ∃ v, v = A 54 (fd 1) := ⟨_, rfl⟩
  have q16 : v9 = v14 := (e15.trans e10.symm).symm
  subst q16
  refine And.intro rfl (And.intro (And.intro i0 (And.intro j0 (And.intro (by rw [← e12]; omega) (by rw [← e15]; omega)))) (fun r17 g19 g20 g18 => ?_))
  refine And.intro (fun h21 => ?_) (fun h21 => ?_)
  · refine Exists.intro r17 (And.intro rfl (And.intro (fun h22 => ?_) (fun h22 => ?_)))
    · refine And.intro (fun h23 => by exfalso; omega) (fun h23 => ?_)
      obtain ⟨v24, e25⟩ : ∃ v, v = A 54 (fd 0) := ⟨_, rfl⟩
      have q26 : v7 = v24 := (e25.trans e12.symm).symm
      subst q26
      obtain ⟨v27, e28⟩ : ∃ v, v = A 54 (fd 1) := ⟨_, rfl⟩
      have q29 : v9 = v27 := (e28.trans e15.symm).symm
      subst q29
      refine And.intro rfl (And.intro (And.intro i0 (And.intro j0 (And.intro (by rw [← e25]; omega) (And.intro (by rw [← e28]; omega) (And.intro p5 (And.intro (by first | assumption | omega | simp_all) (And.intro (by first | assumption | omega | simp_all) (And.intro (by first | assumption | omega | simp_all) (by first | assumption | omega | simp_all))))))))) (fun A30 i31 j32 f33 r34 g39 g40 g35 g36 g37 g38 => ?_))
      have f41 := frm_c f0 f33 rfl
      have t42 := ivf_at j32 12 rfl
      have t43 := ivf_at j32 1 rfl
      have t44 : A30 54 (fd 2) = A 54 (fd 2) := (frm_f f33 rfl)
      have pf45 := PF_tr pf0 g36 (by omega)
      exact And.intro (by omega) (hK _ i31 j32 f41 _ (by omega) (by omega) g35 pf45 (by first | assumption | omega | simp_all) (by first | assumption | omega | simp_all))
    · refine And.intro (fun h46 => ?_) (fun h46 => by exfalso; omega)
      refine fun v47 e48 => ?_
      have h49 := qone_bd 0 r17
      rw [← e48] at h49
      have h50 := qone_p (s := 0) (x := r17) (by omega)
      refine And.intro (fun h51 => ?_) (fun h51 => ?_)
      · obtain ⟨v52, e53⟩ : ∃ v, v = A 54 (fd 1) := ⟨_, rfl⟩
        have q54 : v9 = v52 := (e53.trans e15.symm).symm
        subst q54
        refine And.intro (show A 54 (fd 1) = ((71 : Nat) : Int) by omega) ?_
        refine fun v55 e56 => ?_
        have h57 := qix_bd 0 r17
        rw [← e56] at h57
        refine Exists.intro 107 (Exists.intro v55 (And.intro rfl (And.intro (And.intro i0 (And.intro j0 (And.intro (by omega) (And.intro (by omega) (And.intro p5 (And.intro (by first | assumption | omega | simp_all) (by first | assumption | omega | simp_all))))))) (fun A58 i59 j60 f61 g62 g63 g64 g65 => ?_))))
        have f66 := frm_c f0 f61 rfl
        have t67 := ivf_at j60 12 rfl
        have t68 : A58 54 (fd 3) = A 54 (fd 3) := (frm_f f61 rfl)
        have t69 : A58 54 (fd 2) = A 54 (fd 2) := (frm_f f61 rfl)
        have pf70 := PF_tr pf0 g63 (by omega)
        refine fun v71 gv71 e72 => ?_
        have b73 := ivf_at j60 1 rfl
        refine fun v74 e75 => ?_
        refine And.intro (by omega) (fun A76 e77 => ?_)
        have i78 := iva_sf i59 e77 rfl
        have j79 := ivf_st j60 e77 (And.intro (by omega) trivial)
        have f80 := frm_sf f66 e77 rfl
        have t81 : A76 71 (fd 8) = A58 71 (fd 8) := (congrFun (st_a e77 rfl) _)
        have t82 := st_v e77
        have t83 : A76 54 (fd 2) = A58 54 (fd 2) := (st_f e77 rfl)
        have kk84 := KO_k g62 (st_a e77 rfl) (st_a e77 rfl) (st_a e77 rfl) (st_a e77 rfl)
        have pf85 := PF_k pf70 (st_a e77 rfl)
        exact And.intro (by omega) (hK _ i78 j79 f80 _ (by omega) (by omega) kk84 pf85 (by first | assumption | omega | simp_all) (by first | assumption | omega | simp_all))
      · obtain ⟨v86, e87⟩ : ∃ v, v = A 54 (fd 0) := ⟨_, rfl⟩
        have q88 : v7 = v86 := (e87.trans e12.symm).symm
        subst q88
        obtain ⟨v89, e90⟩ : ∃ v, v = A 54 (fd 1) := ⟨_, rfl⟩
        have q91 : v9 = v89 := (e90.trans e15.symm).symm
        subst q91
        refine Exists.intro 1 (And.intro rfl (And.intro (And.intro i0 (And.intro j0 (And.intro (by omega) (And.intro (by omega) (And.intro (by rw [← e87]; omega) (by rw [← e90]; omega)))))) (fun A92 i93 j94 f95 => (fun h96 => ?_))))
        · have f97 := frm_c f0 f95 rfl
          have t98 : A92 71 (fd 8) = A 71 (fd 8) := (frm_f f95 rfl)
          have t99 : A92 54 (fd 3) = A 54 (fd 3) := (frm_f f95 rfl)
          have t100 : A92 54 (fd 2) = A 54 (fd 2) := (frm_f f95 rfl)
          have kk101 := KO_fr p5 f95 rfl
          have pf102 := PF_k pf0 (frm_a f95 rfl)
          exact And.intro (by omega) (hK _ i93 j94 f97 _ (by omega) (by omega) kk101 pf102 (by first | assumption | omega | simp_all) (by first | assumption | omega | simp_all))
  · obtain ⟨v103, e104⟩ : ∃ v, v = A 54 (fd 0) := ⟨_, rfl⟩
    have q105 : v7 = v103 := (e104.trans e12.symm).symm
    subst q105
    obtain ⟨v106, e107⟩ : ∃ v, v = A 54 (fd 1) := ⟨_, rfl⟩
    have q108 : v9 = v106 := (e107.trans e15.symm).symm
    subst q108
    refine Exists.intro d (And.intro rfl (And.intro (And.intro i0 (And.intro j0 (And.intro (by omega) (And.intro (by omega) (And.intro (by rw [← e104]; omega) (And.intro (by rw [← e107]; omega) (And.intro p5 (by first | assumption | omega | simp_all)))))))) (fun A109 i110 j111 f112 g113 g114 => (And.intro (fun h115 => ?_) (fun h115 => by exfalso; omega)))))
    · have f116 := frm_c f0 f112 rfl
      have t117 : A109 71 (fd 8) = A 71 (fd 8) := (frm_f f112 rfl)
      have t118 := ivf_at j111 1 rfl
      have t119 : A109 54 (fd 2) = A 54 (fd 2) := (frm_f f112 rfl)
      have kk120 := KO_fr p5 f112 rfl
      have pf121 := PF_k pf0 (frm_a f112 rfl)
      refine And.intro (fun h122 => by exfalso; omega) (fun h122 => ?_)
      refine fun v123 e124 => ?_
      obtain ⟨v125, e126⟩ : ∃ v, v = A109 54 (fd 0) := ⟨_, rfl⟩
      have q127 : v7 = v125 := (e126.trans ((frm_f f112 rfl).trans e104.symm)).symm
      subst q127
      obtain ⟨v128, e129⟩ : ∃ v, v = A109 54 (fd 1) := ⟨_, rfl⟩
      have q130 : v9 = v128 := (e129.trans ((frm_f f112 rfl).trans e107.symm)).symm
      subst q130
      refine And.intro (by omega) (Exists.intro v123 (And.intro rfl (And.intro (And.intro i110 (And.intro j111 (And.intro (by omega) (And.intro (by omega) (And.intro (by rw [← e126]; omega) (And.intro (by rw [← e129]; omega) (And.intro kk120 (by first | assumption | omega | simp_all)))))))) (fun A131 i132 j133 f134 r135 g140 g141 g136 g137 g138 g139 => ?_))))
      have f142 := frm_c f116 f134 rfl
      have t143 := ivf_at j133 12 rfl
      have t144 := ivf_at j133 1 rfl
      have t145 : A131 54 (fd 2) = A109 54 (fd 2) := (frm_f f134 rfl)
      have pf146 := PF_tr pf121 g137 (by omega)
      refine And.intro (fun h147 => ?_) (fun h147 => ?_)
      · exact And.intro (by omega) (hK _ i132 j133 f142 _ (by omega) (by omega) g136 pf146 (by first | assumption | omega | simp_all) (by first | assumption | omega | simp_all))
      · obtain ⟨v148, e149⟩ : ∃ v, v = A131 54 (fd 0) := ⟨_, rfl⟩
        have q150 : v7 = v148 := (e149.trans ((frm_f f134 rfl).trans e126.symm)).symm
        subst q150
        obtain ⟨v151, e152⟩ : ∃ v, v = A131 54 (fd 1) := ⟨_, rfl⟩
        have q153 : v9 = v151 := (e152.trans ((frm_f f134 rfl).trans e129.symm)).symm
        subst q153
        refine Exists.intro 93 (And.intro rfl (And.intro (And.intro i132 (And.intro j133 (And.intro (by omega) (And.intro (by omega) (And.intro (by rw [← e149]; omega) (And.intro (by rw [← e152]; omega) (And.intro g136 (by first | assumption | omega | simp_all)))))))) (fun A154 i155 j156 f157 r158 g160 g161 g159 => ?_)))
        have f162 := frm_c f142 f157 rfl
        have t163 : A154 71 (fd 8) = A131 71 (fd 8) := (frm_f f157 rfl)
        have t164 := ivf_at j156 1 rfl
        have t165 : A154 54 (fd 2) = A131 54 (fd 2) := (frm_f f157 rfl)
        have kk166 := KO_fr g136 f157 rfl
        have pf167 := PF_k pf146 (frm_a f157 rfl)
        refine And.intro (fun h168 => ?_) (fun h168 => ?_)
        · exact And.intro (by omega) (hK _ i155 j156 f162 _ (by omega) (by omega) kk166 pf167 (by first | assumption | omega | simp_all) (by first | assumption | omega | simp_all))
        · exact And.intro (by omega) (hK _ i155 j156 f162 _ (by omega) (by omega) kk166 pf167 (by first | assumption | omega | simp_all) (by first | assumption | omega | simp_all))
def sC_readTerm1_71 : qS := fun as A K => ∃ d : Int, as = [rf 54, ni d] ∧ (iva IC A ∧ ivf JC A ∧ 1 ≤ d ∧ d ≤ 1 ∧ (52 ≤ A 54 (fd 0) ∧ A 54 (fd 0) ≤ 52) ∧ (71 ≤ A 54 (fd 1) ∧ A 54 (fd 1) ≤ 71) ∧ (KO A) ∧ (A 71 (fd 8) ≤ A 54 (fd 3))) ∧ (∀ A' : qA, iva IC A' → ivf JC A' → frm [72, 73] [(71, 8), (54, 3), (54, 4)] A A' → ∀ r : Int, 0 ≤ r → r ≤ 1 → (KO A') → (PF 71 A A') → (A 71 (fd 8) ≤ A' 71 (fd 8)) → (A' 71 (fd 8) + A 54 (fd 3) ≤ A 71 (fd 8) + A' 54 (fd 3)) → K (some (ni r)) A')
theorem okC_readTerm1_71 : okM LC 19 58 sC_readTerm1_71 := by
  refine qmeth [(54, 0, 52), (54, 1, 71)] false [(59, sC_readFactor1_71), (46, sC_look_71), (75, sC_putr71)] 44 rfl ⟨okC_readFactor1_71.le (by decide), ⟨okC_look_71.le (by decide), ⟨okC_putr71.le (by decide), trivial⟩⟩⟩ ?_
  rintro _ A K hA has ⟨d, rfl, ⟨i0, j0, p1, p2, p3, p4, p5, p6⟩, hK⟩
  have rg_d : rng d := has (ni d) (by simp)
  have f0 := frm_0 [72, 73] [(71, 8), (54, 3), (54, 4)] A
  obtain ⟨v7, e8⟩ : ∃ v, v = A 54 (fd 0) := ⟨_, rfl⟩
  rw [← e8] at p3
  obtain ⟨v9, e10⟩ : ∃ v, v = A 54 (fd 1) := ⟨_, rfl⟩
  rw [← e10] at p4
  have pf0 := PF_rf 71 A
  have hb_71_8 := ivf_at j0 12 rfl
  have hb_54_3 := ivf_at j0 1 rfl
  have hb_54_2 := ivf_at j0 0 rfl
  refine ⟨Nat.le_of_ble_eq_true rfl, [(6, [(0, 2, 54), (1, 0, 0), (2, 0, 0), (3, 0, 0)], fun zs B nn => match zs with | [l1, w, i] => iva IC B ∧ ivf JC B ∧ frm [72, 73] [(71, 8), (54, 3), (54, 4)] A B ∧ nn = (200 - i : Int).toNat ∧ (52 ≤ B 54 (fd 0) ∧ B 54 (fd 0) ≤ 52) ∧ (71 ≤ B 54 (fd 1) ∧ B 54 (fd 1) ≤ 71) ∧ (l1 = d) ∧ (0 ≤ i) ∧ (i ≤ 200) ∧ (0 ≤ w) ∧ (w ≤ 1) ∧ (KO B) ∧ (PF 71 A B) ∧ (A 71 (fd 8) ≤ B 71 (fd 8)) ∧ (B 71 (fd 8) + A 54 (fd 3) ≤ A 71 (fd 8) + B 54 (fd 3)) ∧ (B 71 (fd 8) ≤ B 54 (fd 3)) | _ => False)], ?_, ?_⟩
  · refine ⟨⟨rfl, ?_⟩, trivial⟩
    · refine fun l1 w i B mm hB hz hI => ?_
      obtain ⟨i1, j1, f1, hm, d0, d1, c0, c1, c2, c3, c4, c5, c6, c7, c8, c9⟩ := hI
      obtain ⟨hz_l1, hz_w, hz_i, _⟩ := hz
      obtain ⟨v39, e40⟩ : ∃ v, v = B 54 (fd 0) := ⟨_, rfl⟩
      rw [← e40] at d0
      obtain ⟨v41, e42⟩ : ∃ v, v = B 54 (fd 1) := ⟨_, rfl⟩
      rw [← e42] at d1
      have hc_71_8 := ivf_at j1 12 rfl
      have hc_54_3 := ivf_at j1 1 rfl
      have hc_54_2 := ivf_at j1 0 rfl
      have hc_t : B 54 (fd 2) = A 54 (fd 2) := frm_f f1 rfl
      have hc_w : B 53 = A 53 := frm_a f1 rfl
      refine And.intro (fun h43 => ?_) (fun h43 => ?_)
      · exact And.intro (by omega) (hK _ i1 j1 f1 _ (by omega) (by omega) c5 c6 (by first | assumption | omega | simp_all) (by first | assumption | omega | simp_all))
      · refine And.intro (fun h44 => ?_) (fun h44 => ?_)
        · exact And.intro (by omega) (hK _ i1 j1 f1 _ (by omega) (by omega) c5 c6 (by first | assumption | omega | simp_all) (by first | assumption | omega | simp_all))
        · obtain ⟨v45, e46⟩ : ∃ v, v = B 54 (fd 0) := ⟨_, rfl⟩
          have q47 : v39 = v45 := (e46.trans e40.symm).symm
          subst q47
          obtain ⟨v48, e49⟩ : ∃ v, v = B 54 (fd 1) := ⟨_, rfl⟩
          have q50 : v41 = v48 := (e49.trans e42.symm).symm
          subst q50
          refine And.intro rfl (And.intro (And.intro i1 (And.intro j1 (And.intro (by rw [← e46]; omega) (by rw [← e49]; omega)))) (fun r51 g53 g54 g52 => ?_))
          refine fun v55 e56 => ?_
          have h57 := qone_bd 4 r51
          rw [← e56] at h57
          have h58 := qone_p (s := 4) (x := r51) (by omega)
          refine And.intro (fun h59 => ?_) (fun h59 => ?_)
          · exact And.intro (by omega) (hK _ i1 j1 f1 _ (by omega) (by omega) c5 c6 (by first | assumption | omega | simp_all) (by first | assumption | omega | simp_all))
          · obtain ⟨v60, e61⟩ : ∃ v, v = B 54 (fd 0) := ⟨_, rfl⟩
            have q62 : v39 = v60 := (e61.trans e46.symm).symm
            subst q62
            obtain ⟨v63, e64⟩ : ∃ v, v = B 54 (fd 1) := ⟨_, rfl⟩
            have q65 : v41 = v63 := (e64.trans e49.symm).symm
            subst q65
            refine And.intro rfl (And.intro (And.intro i1 (And.intro j1 (And.intro (by rw [← e61]; omega) (by rw [← e64]; omega)))) (fun r66 g68 g69 g67 => ?_))
            refine fun v70 gv70 e71 => ?_
            have b72 := ivf_at j1 1 rfl
            refine fun v73 e74 => ?_
            refine And.intro (by omega) (fun A75 e76 => ?_)
            have i77 := iva_sf i1 e76 rfl
            have j78 := ivf_st j1 e76 (And.intro (by omega) trivial)
            have f79 := frm_sf f1 e76 rfl
            have t80 : A75 71 (fd 8) = B 71 (fd 8) := (congrFun (st_a e76 rfl) _)
            have t81 := st_v e76
            have t82 : A75 54 (fd 2) = B 54 (fd 2) := (st_f e76 rfl)
            have kk83 := KO_k c5 (st_a e76 rfl) (st_a e76 rfl) (st_a e76 rfl) (st_a e76 rfl)
            have pf84 := PF_k c6 (st_a e76 rfl)
            obtain ⟨v85, e86⟩ : ∃ v, v = A75 54 (fd 0) := ⟨_, rfl⟩
            have q87 : v39 = v85 := (e86.trans ((st_f e76 rfl).trans e61.symm)).symm
            subst q87
            obtain ⟨v88, e89⟩ : ∃ v, v = A75 54 (fd 1) := ⟨_, rfl⟩
            have q90 : v41 = v88 := (e89.trans ((st_f e76 rfl).trans e64.symm)).symm
            subst q90
            refine Exists.intro l1 (And.intro rfl (And.intro (And.intro i77 (And.intro j78 (And.intro (by omega) (And.intro (by omega) (And.intro (by rw [← e86]; omega) (And.intro (by rw [← e89]; omega) (And.intro kk83 (by first | assumption | omega | simp_all)))))))) (fun A91 i92 j93 f94 r95 g100 g101 g96 g97 g98 g99 => ?_)))
            have f102 := frm_c f79 f94 rfl
            have t103 := ivf_at j93 12 rfl
            have t104 := ivf_at j93 1 rfl
            have t105 : A91 54 (fd 2) = A75 54 (fd 2) := (frm_f f94 rfl)
            have pf106 := PF_tr pf84 g97 (by omega)
            obtain ⟨v107, e108⟩ : ∃ v, v = A91 54 (fd 1) := ⟨_, rfl⟩
            have q109 : v41 = v107 := (e108.trans ((frm_f f94 rfl).trans e89.symm)).symm
            subst q109
            refine And.intro (show A91 54 (fd 1) = ((71 : Nat) : Int) by omega) ?_
            refine Exists.intro r66 (Exists.intro 0 (And.intro rfl (And.intro (And.intro i92 (And.intro j93 (And.intro (by omega) (And.intro (by omega) (And.intro g96 (And.intro (by first | assumption | omega | simp_all) (by first | assumption | omega | simp_all))))))) (fun A110 i111 j112 f113 g114 g115 g116 g117 => ?_))))
            have f118 := frm_c f102 f113 rfl
            have t119 := ivf_at j112 12 rfl
            have t120 : A110 54 (fd 3) = A91 54 (fd 3) := (frm_f f113 rfl)
            have t121 : A110 54 (fd 2) = A91 54 (fd 2) := (frm_f f113 rfl)
            have pf122 := PF_tr pf106 g115 (by omega)
            refine fun v123 e124 => ?_
            obtain ⟨v125, e126⟩ : ∃ v, v = A110 54 (fd 0) := ⟨_, rfl⟩
            have q127 : v39 = v125 := (e126.trans ((Eq.trans (frm_f f113 rfl) (frm_f f94 rfl)).trans e86.symm)).symm
            subst q127
            obtain ⟨v128, e129⟩ : ∃ v, v = A110 54 (fd 1) := ⟨_, rfl⟩
            have q130 : v41 = v128 := (e129.trans ((frm_f f113 rfl).trans e108.symm)).symm
            subst q130
            exact And.intro (by omega) (Exists.intro (200 - v123 : Int).toNat (And.intro (by omega) (And.intro i111 (And.intro j112 (And.intro f118 (And.intro rfl (And.intro (by rw [← e126]; omega) (And.intro (by rw [← e129]; omega) (And.intro (by omega) (And.intro (by omega) (And.intro (by omega) (And.intro (by omega) (And.intro (by omega) (And.intro g114 (And.intro pf122 (And.intro (by omega) (And.intro (by omega) (by omega))))))))))))))))))
  · obtain ⟨v11, e12⟩ : ∃ v, v = A 54 (fd 0) := ⟨_, rfl⟩
    have q13 : v7 = v11 := (e12.trans e8.symm).symm
    subst q13
    obtain ⟨v14, e15⟩ : ∃ v, v = A 54 (fd 1) := ⟨_, rfl⟩
    have q16 : v9 = v14 := (e15.trans e10.symm).symm
    subst q16
    refine Exists.intro d (And.intro rfl (And.intro (And.intro i0 (And.intro j0 (And.intro (by omega) (And.intro (by omega) (And.intro (by rw [← e12]; omega) (And.intro (by rw [← e15]; omega) (And.intro p5 (by first | assumption | omega | simp_all)))))))) (fun A17 i18 j19 f20 r21 g26 g27 g22 g23 g24 g25 => ?_)))
    have f28 := frm_c f0 f20 rfl
    have t29 := ivf_at j19 12 rfl
    have t30 := ivf_at j19 1 rfl
    have t31 : A17 54 (fd 2) = A 54 (fd 2) := (frm_f f20 rfl)
    have pf32 := PF_tr pf0 g23 (by omega)
    obtain ⟨v33, e34⟩ : ∃ v, v = A17 54 (fd 0) := ⟨_, rfl⟩
    have q35 : v7 = v33 := (e34.trans ((frm_f f20 rfl).trans e12.symm)).symm
    subst q35
    obtain ⟨v36, e37⟩ : ∃ v, v = A17 54 (fd 1) := ⟨_, rfl⟩
    have q38 : v9 = v36 := (e37.trans ((frm_f f20 rfl).trans e15.symm)).symm
    subst q38
    exact Exists.intro (200 - 0 : Int).toNat (And.intro i18 (And.intro j19 (And.intro f28 (And.intro rfl (And.intro (by rw [← e34]; omega) (And.intro (by rw [← e37]; omega) (And.intro (by omega) (And.intro (by omega) (And.intro (by omega) (And.intro (by omega) (And.intro (by omega) (And.intro g22 (And.intro pf32 (And.intro (by omega) (And.intro (by omega) (by omega))))))))))))))))
def sC_readSum1_71 : qS := fun as A K => ∃ d : Int, as = [rf 54, ni d] ∧ (iva IC A ∧ ivf JC A ∧ 1 ≤ d ∧ d ≤ 1 ∧ (52 ≤ A 54 (fd 0) ∧ A 54 (fd 0) ≤ 52) ∧ (71 ≤ A 54 (fd 1) ∧ A 54 (fd 1) ≤ 71) ∧ (KO A) ∧ (A 71 (fd 8) ≤ A 54 (fd 3))) ∧ (∀ A' : qA, iva IC A' → ivf JC A' → frm [72, 73] [(71, 8), (54, 3), (54, 4)] A A' → ∀ r : Int, 0 ≤ r → r ≤ 1 → (KO A') → (PF 71 A A') → (A 71 (fd 8) ≤ A' 71 (fd 8)) → (A' 71 (fd 8) + A 54 (fd 3) ≤ A 71 (fd 8) + A' 54 (fd 3)) → K (some (ni r)) A')
theorem okC_readSum1_71 : okM LC 20 57 sC_readSum1_71 := by
  refine qmeth [(54, 0, 52), (54, 1, 71)] false [(58, sC_readTerm1_71), (46, sC_look_71), (75, sC_putr71)] 44 rfl ⟨okC_readTerm1_71.le (by decide), ⟨okC_look_71.le (by decide), ⟨okC_putr71.le (by decide), trivial⟩⟩⟩ ?_
  rintro _ A K hA has ⟨d, rfl, ⟨i0, j0, p1, p2, p3, p4, p5, p6⟩, hK⟩
  have rg_d : rng d := has (ni d) (by simp)
  have f0 := frm_0 [72, 73] [(71, 8), (54, 3), (54, 4)] A
  obtain ⟨v7, e8⟩ : ∃ v, v = A 54 (fd 0) := ⟨_, rfl⟩
  rw [← e8] at p3
  obtain ⟨v9, e10⟩ : ∃ v, v = A 54 (fd 1) := ⟨_, rfl⟩
  rw [← e10] at p4
  have pf0 := PF_rf 71 A
  have hb_71_8 := ivf_at j0 12 rfl
  have hb_54_3 := ivf_at j0 1 rfl
  have hb_54_2 := ivf_at j0 0 rfl
  refine ⟨Nat.le_of_ble_eq_true rfl, [(6, [(0, 2, 54), (1, 0, 0), (2, 0, 0), (3, 0, 0)], fun zs B nn => match zs with | [l1, w, i] => iva IC B ∧ ivf JC B ∧ frm [72, 73] [(71, 8), (54, 3), (54, 4)] A B ∧ nn = (200 - i : Int).toNat ∧ (52 ≤ B 54 (fd 0) ∧ B 54 (fd 0) ≤ 52) ∧ (71 ≤ B 54 (fd 1) ∧ B 54 (fd 1) ≤ 71) ∧ (l1 = d) ∧ (0 ≤ i) ∧ (i ≤ 200) ∧ (0 ≤ w) ∧ (w ≤ 1) ∧ (KO B) ∧ (PF 71 A B) ∧ (A 71 (fd 8) ≤ B 71 (fd 8)) ∧ (B 71 (fd 8) + A 54 (fd 3) ≤ A 71 (fd 8) + B 54 (fd 3)) ∧ (B 71 (fd 8) ≤ B 54 (fd 3)) | _ => False)], ?_, ?_⟩
  · refine ⟨⟨rfl, ?_⟩, trivial⟩
    · refine fun l1 w i B mm hB hz hI => ?_
      obtain ⟨i1, j1, f1, hm, d0, d1, c0, c1, c2, c3, c4, c5, c6, c7, c8, c9⟩ := hI
      obtain ⟨hz_l1, hz_w, hz_i, _⟩ := hz
      obtain ⟨v39, e40⟩ : ∃ v, v = B 54 (fd 0) := ⟨_, rfl⟩
      rw [← e40] at d0
      obtain ⟨v41, e42⟩ : ∃ v, v = B 54 (fd 1) := ⟨_, rfl⟩
      rw [← e42] at d1
      have hc_71_8 := ivf_at j1 12 rfl
      have hc_54_3 := ivf_at j1 1 rfl
      have hc_54_2 := ivf_at j1 0 rfl
      have hc_t : B 54 (fd 2) = A 54 (fd 2) := frm_f f1 rfl
      have hc_w : B 53 = A 53 := frm_a f1 rfl
      refine And.intro (fun h43 => ?_) (fun h43 => ?_)
      · exact And.intro (by omega) (hK _ i1 j1 f1 _ (by omega) (by omega) c5 c6 (by first | assumption | omega | simp_all) (by first | assumption | omega | simp_all))
      · refine And.intro (fun h44 => ?_) (fun h44 => ?_)
        · exact And.intro (by omega) (hK _ i1 j1 f1 _ (by omega) (by omega) c5 c6 (by first | assumption | omega | simp_all) (by first | assumption | omega | simp_all))
        · obtain ⟨v45, e46⟩ : ∃ v, v = B 54 (fd 0) := ⟨_, rfl⟩
          have q47 : v39 = v45 := (e46.trans e40.symm).symm
          subst q47
          obtain ⟨v48, e49⟩ : ∃ v, v = B 54 (fd 1) := ⟨_, rfl⟩
          have q50 : v41 = v48 := (e49.trans e42.symm).symm
          subst q50
          refine And.intro rfl (And.intro (And.intro i1 (And.intro j1 (And.intro (by rw [← e46]; omega) (by rw [← e49]; omega)))) (fun r51 g53 g54 g52 => ?_))
          refine fun v55 e56 => ?_
          have h57 := qone_bd 3 r51
          rw [← e56] at h57
          have h58 := qone_p (s := 3) (x := r51) (by omega)
          refine And.intro (fun h59 => ?_) (fun h59 => ?_)
          · exact And.intro (by omega) (hK _ i1 j1 f1 _ (by omega) (by omega) c5 c6 (by first | assumption | omega | simp_all) (by first | assumption | omega | simp_all))
          · obtain ⟨v60, e61⟩ : ∃ v, v = B 54 (fd 0) := ⟨_, rfl⟩
            have q62 : v39 = v60 := (e61.trans e46.symm).symm
            subst q62
            obtain ⟨v63, e64⟩ : ∃ v, v = B 54 (fd 1) := ⟨_, rfl⟩
            have q65 : v41 = v63 := (e64.trans e49.symm).symm
            subst q65
            refine And.intro rfl (And.intro (And.intro i1 (And.intro j1 (And.intro (by rw [← e61]; omega) (by rw [← e64]; omega)))) (fun r66 g68 g69 g67 => ?_))
            refine fun v70 gv70 e71 => ?_
            have b72 := ivf_at j1 1 rfl
            refine fun v73 e74 => ?_
            refine And.intro (by omega) (fun A75 e76 => ?_)
            have i77 := iva_sf i1 e76 rfl
            have j78 := ivf_st j1 e76 (And.intro (by omega) trivial)
            have f79 := frm_sf f1 e76 rfl
            have t80 : A75 71 (fd 8) = B 71 (fd 8) := (congrFun (st_a e76 rfl) _)
            have t81 := st_v e76
            have t82 : A75 54 (fd 2) = B 54 (fd 2) := (st_f e76 rfl)
            have kk83 := KO_k c5 (st_a e76 rfl) (st_a e76 rfl) (st_a e76 rfl) (st_a e76 rfl)
            have pf84 := PF_k c6 (st_a e76 rfl)
            obtain ⟨v85, e86⟩ : ∃ v, v = A75 54 (fd 0) := ⟨_, rfl⟩
            have q87 : v39 = v85 := (e86.trans ((st_f e76 rfl).trans e61.symm)).symm
            subst q87
            obtain ⟨v88, e89⟩ : ∃ v, v = A75 54 (fd 1) := ⟨_, rfl⟩
            have q90 : v41 = v88 := (e89.trans ((st_f e76 rfl).trans e64.symm)).symm
            subst q90
            refine Exists.intro l1 (And.intro rfl (And.intro (And.intro i77 (And.intro j78 (And.intro (by omega) (And.intro (by omega) (And.intro (by rw [← e86]; omega) (And.intro (by rw [← e89]; omega) (And.intro kk83 (by first | assumption | omega | simp_all)))))))) (fun A91 i92 j93 f94 r95 g100 g101 g96 g97 g98 g99 => ?_)))
            have f102 := frm_c f79 f94 rfl
            have t103 := ivf_at j93 12 rfl
            have t104 := ivf_at j93 1 rfl
            have t105 : A91 54 (fd 2) = A75 54 (fd 2) := (frm_f f94 rfl)
            have pf106 := PF_tr pf84 g97 (by omega)
            obtain ⟨v107, e108⟩ : ∃ v, v = A91 54 (fd 1) := ⟨_, rfl⟩
            have q109 : v41 = v107 := (e108.trans ((frm_f f94 rfl).trans e89.symm)).symm
            subst q109
            refine And.intro (show A91 54 (fd 1) = ((71 : Nat) : Int) by omega) ?_
            refine Exists.intro r66 (Exists.intro 0 (And.intro rfl (And.intro (And.intro i92 (And.intro j93 (And.intro (by omega) (And.intro (by omega) (And.intro g96 (And.intro (by first | assumption | omega | simp_all) (by first | assumption | omega | simp_all))))))) (fun A110 i111 j112 f113 g114 g115 g116 g117 => ?_))))
            have f118 := frm_c f102 f113 rfl
            have t119 := ivf_at j112 12 rfl
            have t120 : A110 54 (fd 3) = A91 54 (fd 3) := (frm_f f113 rfl)
            have t121 : A110 54 (fd 2) = A91 54 (fd 2) := (frm_f f113 rfl)
            have pf122 := PF_tr pf106 g115 (by omega)
            refine fun v123 e124 => ?_
            obtain ⟨v125, e126⟩ : ∃ v, v = A110 54 (fd 0) := ⟨_, rfl⟩
            have q127 : v39 = v125 := (e126.trans ((Eq.trans (frm_f f113 rfl) (frm_f f94 rfl)).trans e86.symm)).symm
            subst q127
            obtain ⟨v128, e129⟩ : ∃ v, v = A110 54 (fd 1) := ⟨_, rfl⟩
            have q130 : v41 = v128 := (e129.trans ((frm_f f113 rfl).trans e108.symm)).symm
            subst q130
            exact And.intro (by omega) (Exists.intro (200 - v123 : Int).toNat (And.intro (by omega) (And.intro i111 (And.intro j112 (And.intro f118 (And.intro rfl (And.intro (by rw [← e126]; omega) (And.intro (by rw [← e129]; omega) (And.intro (by omega) (And.intro (by omega) (And.intro (by omega) (And.intro (by omega) (And.intro (by omega) (And.intro g114 (And.intro pf122 (And.intro (by omega) (And.intro (by omega) (by omega))))))))))))))))))
  · obtain ⟨v11, e12⟩ : ∃ v, v = A 54 (fd 0) := ⟨_, rfl⟩
    have q13 : v7 = v11 := (e12.trans e8.symm).symm
    subst q13
    obtain ⟨v14, e15⟩ : ∃ v, v = A 54 (fd 1) := ⟨_, rfl⟩
    have q16 : v9 = v14 := (e15.trans e10.symm).symm
    subst q16
    refine Exists.intro d (And.intro rfl (And.intro (And.intro i0 (And.intro j0 (And.intro (by omega) (And.intro (by omega) (And.intro (by rw [← e12]; omega) (And.intro (by rw [← e15]; omega) (And.intro p5 (by first | assumption | omega | simp_all)))))))) (fun A17 i18 j19 f20 r21 g26 g27 g22 g23 g24 g25 => ?_)))
    have f28 := frm_c f0 f20 rfl
    have t29 := ivf_at j19 12 rfl
    have t30 := ivf_at j19 1 rfl
    have t31 : A17 54 (fd 2) = A 54 (fd 2) := (frm_f f20 rfl)
    have pf32 := PF_tr pf0 g23 (by omega)
    obtain ⟨v33, e34⟩ : ∃ v, v = A17 54 (fd 0) := ⟨_, rfl⟩
    have q35 : v7 = v33 := (e34.trans ((frm_f f20 rfl).trans e12.symm)).symm
    subst q35
    obtain ⟨v36, e37⟩ : ∃ v, v = A17 54 (fd 1) := ⟨_, rfl⟩
    have q38 : v9 = v36 := (e37.trans ((frm_f f20 rfl).trans e15.symm)).symm
    subst q38
    exact Exists.intro (200 - 0 : Int).toNat (And.intro i18 (And.intro j19 (And.intro f28 (And.intro rfl (And.intro (by rw [← e34]; omega) (And.intro (by rw [← e37]; omega) (And.intro (by omega) (And.intro (by omega) (And.intro (by omega) (And.intro (by omega) (And.intro (by omega) (And.intro g22 (And.intro pf32 (And.intro (by omega) (And.intro (by omega) (by omega))))))))))))))))
def sC_readComparison1_71 : qS := fun as A K => ∃ d : Int, as = [rf 54, ni d] ∧ (iva IC A ∧ ivf JC A ∧ 1 ≤ d ∧ d ≤ 1 ∧ (52 ≤ A 54 (fd 0) ∧ A 54 (fd 0) ≤ 52) ∧ (71 ≤ A 54 (fd 1) ∧ A 54 (fd 1) ≤ 71) ∧ (KO A) ∧ (A 71 (fd 8) ≤ A 54 (fd 3))) ∧ (∀ A' : qA, iva IC A' → ivf JC A' → frm [72, 73] [(71, 8), (54, 3), (54, 4)] A A' → ∀ r : Int, 0 ≤ r → r ≤ 1 → (KO A') → (PF 71 A A') → (A 71 (fd 8) ≤ A' 71 (fd 8)) → (A' 71 (fd 8) + A 54 (fd 3) ≤ A 71 (fd 8) + A' 54 (fd 3)) → K (some (ni r)) A')
theorem okC_readComparison1_71 : okM LC 21 56 sC_readComparison1_71 := by
  refine qmeth [(54, 0, 52), (54, 1, 71)] false [(57, sC_readSum1_71), (46, sC_look_71), (75, sC_putr71), (47, sC_fail_71)] 42 rfl ⟨okC_readSum1_71.le (by decide), ⟨okC_look_71.le (by decide), ⟨okC_putr71.le (by decide), ⟨okC_fail_71.le (by decide), trivial⟩⟩⟩⟩ ?_
  rintro _ A K hA has ⟨d, rfl, ⟨i0, j0, p1, p2, p3, p4, p5, p6⟩, hK⟩
  have rg_d : rng d := has (ni d) (by simp)
  have f0 := frm_0 [72, 73] [(71, 8), (54, 3), (54, 4)] A
  obtain ⟨v7, e8⟩ : ∃ v, v = A 54 (fd 0) := ⟨_, rfl⟩
  rw [← e8] at p3
  obtain ⟨v9, e10⟩ : ∃ v, v = A 54 (fd 1) := ⟨_, rfl⟩
  rw [← e10] at p4
  have pf0 := PF_rf 71 A
  have hb_71_8 := ivf_at j0 12 rfl
  have hb_54_3 := ivf_at j0 1 rfl
  have hb_54_2 := ivf_at j0 0 rfl
  refine ⟨Nat.le_of_ble_eq_true rfl, [], trivial, ?_⟩
  obtain ⟨v11, e12⟩ : ∃ v, v = A 54 (fd 0) := ⟨_, rfl⟩
  have q13 : v7 = v11 := (e12.trans e8.symm).symm
  subst q13
  obtain ⟨v14, e15⟩ : ∃ v, v = A 54 (fd 1) := ⟨_, rfl⟩
  have q16 : v9 = v14 := (e15.trans e10.symm).symm
  subst q16
  refine Exists.intro d (And.intro rfl (And.intro (And.intro i0 (And.intro j0 (And.intro (by omega) (And.intro (by omega) (And.intro (by rw [← e12]; omega) (And.intro (by rw [← e15]; omega) (And.intro p5 (by first | assumption | omega | simp_all)))))))) (fun A17 i18 j19 f20 r21 g26 g27 g22 g23 g24 g25 => ?_)))
  have f28 := frm_c f0 f20 rfl
  have t29 := ivf_at j19 12 rfl
  have t30 := ivf_at j19 1 rfl
  have t31 : A17 54 (fd 2) = A 54 (fd 2) := (frm_f f20 rfl)
  have pf32 := PF_tr pf0 g23 (by omega)
  refine And.intro (fun h33 => ?_) (fun h33 => ?_)
  · obtain ⟨v34, e35⟩ : ∃ v, v = A17 54 (fd 0) := ⟨_, rfl⟩
    have q36 : v7 = v34 := (e35.trans ((frm_f f20 rfl).trans e12.symm)).symm
    subst q36
    obtain ⟨v37, e38⟩ : ∃ v, v = A17 54 (fd 1) := ⟨_, rfl⟩
    have q39 : v9 = v37 := (e38.trans ((frm_f f20 rfl).trans e15.symm)).symm
    subst q39
    refine And.intro rfl (And.intro (And.intro i18 (And.intro j19 (And.intro (by rw [← e35]; omega) (by rw [← e38]; omega)))) (fun r40 g42 g43 g41 => ?_))
    refine fun v44 e45 => ?_
    have h46 := qone_bd 2 r40
    rw [← e45] at h46
    have h47 := qone_p (s := 2) (x := r40) (by omega)
    refine And.intro (fun h48 => ?_) (fun h48 => ?_)
    · refine fun v49 gv49 e50 => ?_
      have b51 := ivf_at j19 1 rfl
      refine fun v52 e53 => ?_
      refine And.intro (by omega) (fun A54 e55 => ?_)
      have i56 := iva_sf i18 e55 rfl
      have j57 := ivf_st j19 e55 (And.intro (by omega) trivial)
      have f58 := frm_sf f28 e55 rfl
      have t59 : A54 71 (fd 8) = A17 71 (fd 8) := (congrFun (st_a e55 rfl) _)
      have t60 := st_v e55
      have t61 : A54 54 (fd 2) = A17 54 (fd 2) := (st_f e55 rfl)
      have kk62 := KO_k g22 (st_a e55 rfl) (st_a e55 rfl) (st_a e55 rfl) (st_a e55 rfl)
      have pf63 := PF_k pf32 (st_a e55 rfl)
      obtain ⟨v64, e65⟩ : ∃ v, v = A54 54 (fd 0) := ⟨_, rfl⟩
      have q66 : v7 = v64 := (e65.trans ((st_f e55 rfl).trans e35.symm)).symm
      subst q66
      obtain ⟨v67, e68⟩ : ∃ v, v = A54 54 (fd 1) := ⟨_, rfl⟩
      have q69 : v9 = v67 := (e68.trans ((st_f e55 rfl).trans e38.symm)).symm
      subst q69
      refine Exists.intro d (And.intro rfl (And.intro (And.intro i56 (And.intro j57 (And.intro (by omega) (And.intro (by omega) (And.intro (by rw [← e65]; omega) (And.intro (by rw [← e68]; omega) (And.intro kk62 (by first | assumption | omega | simp_all)))))))) (fun A70 i71 j72 f73 r74 g79 g80 g75 g76 g77 g78 => ?_)))
      have f81 := frm_c f58 f73 rfl
      have t82 := ivf_at j72 12 rfl
      have t83 := ivf_at j72 1 rfl
      have t84 : A70 54 (fd 2) = A54 54 (fd 2) := (frm_f f73 rfl)
      have pf85 := PF_tr pf63 g76 (by omega)
      refine And.intro (fun h86 => ?_) (fun h86 => ?_)
      · obtain ⟨v87, e88⟩ : ∃ v, v = A70 54 (fd 1) := ⟨_, rfl⟩
        have q89 : v9 = v87 := (e88.trans ((frm_f f73 rfl).trans e68.symm)).symm
        subst q89
        refine And.intro (show A70 54 (fd 1) = ((71 : Nat) : Int) by omega) ?_
        refine Exists.intro r40 (Exists.intro 0 (And.intro rfl (And.intro (And.intro i71 (And.intro j72 (And.intro (by omega) (And.intro (by omega) (And.intro g75 (And.intro (by first | assumption | omega | simp_all) (by first | assumption | omega | simp_all))))))) (fun A90 i91 j92 f93 g94 g95 g96 g97 => ?_))))
        have f98 := frm_c f81 f93 rfl
        have t99 := ivf_at j92 12 rfl
        have t100 : A90 54 (fd 3) = A70 54 (fd 3) := (frm_f f93 rfl)
        have t101 : A90 54 (fd 2) = A70 54 (fd 2) := (frm_f f93 rfl)
        have pf102 := PF_tr pf85 g95 (by omega)
        exact And.intro (by omega) (hK _ i91 j92 f98 _ (by omega) (by omega) g94 pf102 (by first | assumption | omega | simp_all) (by first | assumption | omega | simp_all))
      · exact And.intro (by omega) (hK _ i71 j72 f81 _ (by omega) (by omega) g75 pf85 (by first | assumption | omega | simp_all) (by first | assumption | omega | simp_all))
    · obtain ⟨v103, e104⟩ : ∃ v, v = A17 54 (fd 0) := ⟨_, rfl⟩
      have q105 : v7 = v103 := (e104.trans e35.symm).symm
      subst q105
      obtain ⟨v106, e107⟩ : ∃ v, v = A17 54 (fd 1) := ⟨_, rfl⟩
      have q108 : v9 = v106 := (e107.trans e38.symm).symm
      subst q108
      refine Exists.intro 1 (And.intro rfl (And.intro (And.intro i18 (And.intro j19 (And.intro (by omega) (And.intro (by omega) (And.intro (by rw [← e104]; omega) (by rw [← e107]; omega)))))) (fun A109 i110 j111 f112 => (fun h113 => ?_))))
      · have f114 := frm_c f28 f112 rfl
        have t115 : A109 71 (fd 8) = A17 71 (fd 8) := (frm_f f112 rfl)
        have t116 : A109 54 (fd 3) = A17 54 (fd 3) := (frm_f f112 rfl)
        have t117 : A109 54 (fd 2) = A17 54 (fd 2) := (frm_f f112 rfl)
        have kk118 := KO_fr g22 f112 rfl
        have pf119 := PF_k pf32 (frm_a f112 rfl)
        exact And.intro (by omega) (hK _ i110 j111 f114 _ (by omega) (by omega) kk118 pf119 (by first | assumption | omega | simp_all) (by first | assumption | omega | simp_all))
  · exact And.intro (by omega) (hK _ i18 j19 f28 _ (by omega) (by omega) g22 pf32 (by first | assumption | omega | simp_all) (by first | assumption | omega | simp_all))
def sC_readPiece1_71 : qS := fun as A K => ∃ d : Int, as = [rf 54, ni d] ∧ (iva IC A ∧ ivf JC A ∧ 1 ≤ d ∧ d ≤ 1 ∧ (52 ≤ A 54 (fd 0) ∧ A 54 (fd 0) ≤ 52) ∧ (71 ≤ A 54 (fd 1) ∧ A 54 (fd 1) ≤ 71) ∧ (KO A) ∧ (A 71 (fd 8) ≤ A 54 (fd 3))) ∧ (∀ A' : qA, iva IC A' → ivf JC A' → frm [72, 73] [(71, 8), (54, 3), (54, 4)] A A' → ∀ r : Int, 0 ≤ r → r ≤ 1 → (KO A') → (PF 71 A A') → (A 71 (fd 8) ≤ A' 71 (fd 8)) → (A' 71 (fd 8) + A 54 (fd 3) ≤ A 71 (fd 8) + A' 54 (fd 3)) → K (some (ni r)) A')
theorem okC_readPiece1_71 : okM LC 22 55 sC_readPiece1_71 := by
  refine qmeth [(54, 0, 52), (54, 1, 71)] false [(46, sC_look_71), (56, sC_readComparison1_71), (49, sC_enter_71), (55, sC_readPiece2_71), (75, sC_putr71), (52, sC_readCondition2_71), (48, sC_expect_71)] 56 rfl ⟨okC_look_71.le (by decide), ⟨okC_readComparison1_71.le (by decide), ⟨okC_enter_71.le (by decide), ⟨okC_readPiece2_71.le (by decide), ⟨okC_putr71.le (by decide), ⟨okC_readCondition2_71.le (by decide), ⟨okC_expect_71.le (by decide), trivial⟩⟩⟩⟩⟩⟩⟩ ?_
  rintro _ A K hA has ⟨d, rfl, ⟨i0, j0, p1, p2, p3, p4, p5, p6⟩, hK⟩
  have rg_d : rng d := has (ni d) (by simp)
  have f0 := frm_0 [72, 73] [(71, 8), (54, 3), (54, 4)] A
  obtain ⟨v7, e8⟩ : ∃ v, v = A 54 (fd 0) := ⟨_, rfl⟩
  rw [← e8] at p3
  obtain ⟨v9, e10⟩ : ∃ v, v = A 54 (fd 1) := ⟨_, rfl⟩
  rw [← e10] at p4
  have pf0 := PF_rf 71 A
  have hb_71_8 := ivf_at j0 12 rfl
  have hb_54_3 := ivf_at j0 1 rfl
  have hb_54_2 := ivf_at j0 0 rfl
  refine ⟨Nat.le_of_ble_eq_true rfl, [], trivial, ?_⟩
  obtain ⟨v11, e12⟩ : ∃ v, v = A 54 (fd 0) := ⟨_, rfl⟩
  have q13 : v7 = v11 := (e12.trans e8.symm).symm
  subst q13
  obtain ⟨v14, e15⟩ : ∃ v, v = A 54 (fd 1) := ⟨_, rfl⟩
  have q16 : v9 = v14 := (e15.trans e10.symm).symm
  subst q16
  refine And.intro rfl (And.intro (And.intro i0 (And.intro j0 (And.intro (by rw [← e12]; omega) (by rw [← e15]; omega)))) (fun r17 g19 g20 g18 => ?_))
  refine And.intro (fun h21 => ?_) (fun h21 => ?_)
  · refine And.intro (fun h22 => ?_) (fun h22 => ?_)
    · obtain ⟨v23, e24⟩ : ∃ v, v = A 54 (fd 0) := ⟨_, rfl⟩
      have q25 : v7 = v23 := (e24.trans e12.symm).symm
      subst q25
      obtain ⟨v26, e27⟩ : ∃ v, v = A 54 (fd 1) := ⟨_, rfl⟩
      have q28 : v9 = v26 := (e27.trans e15.symm).symm
      subst q28
      refine Exists.intro d (And.intro rfl (And.intro (And.intro i0 (And.intro j0 (And.intro (by omega) (And.intro (by omega) (And.intro (by rw [← e24]; omega) (And.intro (by rw [← e27]; omega) (And.intro p5 (by first | assumption | omega | simp_all)))))))) (fun A29 i30 j31 f32 r33 g38 g39 g34 g35 g36 g37 => ?_)))
      have f40 := frm_c f0 f32 rfl
      have t41 := ivf_at j31 12 rfl
      have t42 := ivf_at j31 1 rfl
      have t43 : A29 54 (fd 2) = A 54 (fd 2) := (frm_f f32 rfl)
      have pf44 := PF_tr pf0 g35 (by omega)
      exact And.intro (by omega) (hK _ i30 j31 f40 _ (by omega) (by omega) g34 pf44 (by first | assumption | omega | simp_all) (by first | assumption | omega | simp_all))
    · obtain ⟨v45, e46⟩ : ∃ v, v = A 54 (fd 0) := ⟨_, rfl⟩
      have q47 : v7 = v45 := (e46.trans e12.symm).symm
      subst q47
      obtain ⟨v48, e49⟩ : ∃ v, v = A 54 (fd 1) := ⟨_, rfl⟩
      have q50 : v9 = v48 := (e49.trans e15.symm).symm
      subst q50
      refine Exists.intro d (And.intro rfl (And.intro (And.intro i0 (And.intro j0 (And.intro (by omega) (And.intro (by omega) (And.intro (by rw [← e46]; omega) (And.intro (by rw [← e49]; omega) (And.intro p5 (by first | assumption | omega | simp_all)))))))) (fun A51 i52 j53 f54 g55 g56 => (And.intro (fun h57 => ?_) (fun h57 => by exfalso; omega)))))
      · have f58 := frm_c f0 f54 rfl
        have t59 : A51 71 (fd 8) = A 71 (fd 8) := (frm_f f54 rfl)
        have t60 := ivf_at j53 1 rfl
        have t61 : A51 54 (fd 2) = A 54 (fd 2) := (frm_f f54 rfl)
        have kk62 := KO_fr p5 f54 rfl
        have pf63 := PF_k pf0 (frm_a f54 rfl)
        refine And.intro (fun h64 => by exfalso; omega) (fun h64 => ?_)
        refine fun v65 e66 => ?_
        obtain ⟨v67, e68⟩ : ∃ v, v = A51 54 (fd 0) := ⟨_, rfl⟩
        have q69 : v7 = v67 := (e68.trans ((frm_f f54 rfl).trans e46.symm)).symm
        subst q69
        obtain ⟨v70, e71⟩ : ∃ v, v = A51 54 (fd 1) := ⟨_, rfl⟩
        have q72 : v9 = v70 := (e71.trans ((frm_f f54 rfl).trans e49.symm)).symm
        subst q72
        refine And.intro (by omega) (Exists.intro v65 (And.intro rfl (And.intro (And.intro i52 (And.intro j53 (And.intro (by omega) (And.intro (by omega) (And.intro (by rw [← e68]; omega) (And.intro (by rw [← e71]; omega) (And.intro kk62 (by first | assumption | omega | simp_all)))))))) (fun A73 i74 j75 f76 r77 g82 g83 g78 g79 g80 g81 => ?_))))
        have f84 := frm_c f58 f76 rfl
        have t85 := ivf_at j75 12 rfl
        have t86 := ivf_at j75 1 rfl
        have t87 : A73 54 (fd 2) = A51 54 (fd 2) := (frm_f f76 rfl)
        have pf88 := PF_tr pf63 g79 (by omega)
        refine And.intro (fun h89 => ?_) (fun h89 => ?_)
        · obtain ⟨v90, e91⟩ : ∃ v, v = A73 54 (fd 1) := ⟨_, rfl⟩
          have q92 : v9 = v90 := (e91.trans ((frm_f f76 rfl).trans e71.symm)).symm
          subst q92
          refine And.intro (show A73 54 (fd 1) = ((71 : Nat) : Int) by omega) ?_
          refine Exists.intro 33 (Exists.intro 0 (And.intro rfl (And.intro (And.intro i74 (And.intro j75 (And.intro (by omega) (And.intro (by omega) (And.intro g78 (And.intro (by first | assumption | omega | simp_all) (by first | assumption | omega | simp_all))))))) (fun A93 i94 j95 f96 g97 g98 g99 g100 => ?_))))
          have f101 := frm_c f84 f96 rfl
          have t102 := ivf_at j95 12 rfl
          have t103 : A93 54 (fd 3) = A73 54 (fd 3) := (frm_f f96 rfl)
          have t104 : A93 54 (fd 2) = A73 54 (fd 2) := (frm_f f96 rfl)
          have pf105 := PF_tr pf88 g98 (by omega)
          exact And.intro (by omega) (hK _ i94 j95 f101 _ (by omega) (by omega) g97 pf105 (by first | assumption | omega | simp_all) (by first | assumption | omega | simp_all))
        · exact And.intro (by omega) (hK _ i74 j75 f84 _ (by omega) (by omega) g78 pf88 (by first | assumption | omega | simp_all) (by first | assumption | omega | simp_all))
  · obtain ⟨v106, e107⟩ : ∃ v, v = A 54 (fd 0) := ⟨_, rfl⟩
    have q108 : v7 = v106 := (e107.trans e12.symm).symm
    subst q108
    obtain ⟨v109, e110⟩ : ∃ v, v = A 54 (fd 1) := ⟨_, rfl⟩
    have q111 : v9 = v109 := (e110.trans e15.symm).symm
    subst q111
    refine Exists.intro d (And.intro rfl (And.intro (And.intro i0 (And.intro j0 (And.intro (by omega) (And.intro (by omega) (And.intro (by rw [← e107]; omega) (And.intro (by rw [← e110]; omega) (And.intro p5 (by first | assumption | omega | simp_all)))))))) (fun A112 i113 j114 f115 g116 g117 => (And.intro (fun h118 => ?_) (fun h118 => by exfalso; omega)))))
    · have f119 := frm_c f0 f115 rfl
      have t120 : A112 71 (fd 8) = A 71 (fd 8) := (frm_f f115 rfl)
      have t121 := ivf_at j114 1 rfl
      have t122 : A112 54 (fd 2) = A 54 (fd 2) := (frm_f f115 rfl)
      have kk123 := KO_fr p5 f115 rfl
      have pf124 := PF_k pf0 (frm_a f115 rfl)
      refine And.intro (fun h125 => by exfalso; omega) (fun h125 => ?_)
      refine fun v126 e127 => ?_
      obtain ⟨v128, e129⟩ : ∃ v, v = A112 54 (fd 0) := ⟨_, rfl⟩
      have q130 : v7 = v128 := (e129.trans ((frm_f f115 rfl).trans e107.symm)).symm
      subst q130
      obtain ⟨v131, e132⟩ : ∃ v, v = A112 54 (fd 1) := ⟨_, rfl⟩
      have q133 : v9 = v131 := (e132.trans ((frm_f f115 rfl).trans e110.symm)).symm
      subst q133
      refine And.intro (by omega) (Exists.intro v126 (And.intro rfl (And.intro (And.intro i113 (And.intro j114 (And.intro (by omega) (And.intro (by omega) (And.intro (by rw [← e129]; omega) (And.intro (by rw [← e132]; omega) (And.intro kk123 (by first | assumption | omega | simp_all)))))))) (fun A134 i135 j136 f137 r138 g143 g144 g139 g140 g141 g142 => ?_))))
      have f145 := frm_c f119 f137 rfl
      have t146 := ivf_at j136 12 rfl
      have t147 := ivf_at j136 1 rfl
      have t148 : A134 54 (fd 2) = A112 54 (fd 2) := (frm_f f137 rfl)
      have pf149 := PF_tr pf124 g140 (by omega)
      refine And.intro (fun h150 => ?_) (fun h150 => ?_)
      · exact And.intro (by omega) (hK _ i135 j136 f145 _ (by omega) (by omega) g139 pf149 (by first | assumption | omega | simp_all) (by first | assumption | omega | simp_all))
      · obtain ⟨v151, e152⟩ : ∃ v, v = A134 54 (fd 0) := ⟨_, rfl⟩
        have q153 : v7 = v151 := (e152.trans ((frm_f f137 rfl).trans e129.symm)).symm
        subst q153
        obtain ⟨v154, e155⟩ : ∃ v, v = A134 54 (fd 1) := ⟨_, rfl⟩
        have q156 : v9 = v154 := (e155.trans ((frm_f f137 rfl).trans e132.symm)).symm
        subst q156
        refine Exists.intro 41 (And.intro rfl (And.intro (And.intro i135 (And.intro j136 (And.intro (by omega) (And.intro (by omega) (And.intro (by rw [← e152]; omega) (And.intro (by rw [← e155]; omega) (And.intro g139 (by first | assumption | omega | simp_all)))))))) (fun A157 i158 j159 f160 r161 g163 g164 g162 => ?_)))
        have f165 := frm_c f145 f160 rfl
        have t166 : A157 71 (fd 8) = A134 71 (fd 8) := (frm_f f160 rfl)
        have t167 := ivf_at j159 1 rfl
        have t168 : A157 54 (fd 2) = A134 54 (fd 2) := (frm_f f160 rfl)
        have kk169 := KO_fr g139 f160 rfl
        have pf170 := PF_k pf149 (frm_a f160 rfl)
        refine And.intro (fun h171 => ?_) (fun h171 => ?_)
        · exact And.intro (by omega) (hK _ i158 j159 f165 _ (by omega) (by omega) kk169 pf170 (by first | assumption | omega | simp_all) (by first | assumption | omega | simp_all))
        · exact And.intro (by omega) (hK _ i158 j159 f165 _ (by omega) (by omega) kk169 pf170 (by first | assumption | omega | simp_all) (by first | assumption | omega | simp_all))
def sC_readPart1_71 : qS := fun as A K => ∃ d : Int, as = [rf 54, ni d] ∧ (iva IC A ∧ ivf JC A ∧ 1 ≤ d ∧ d ≤ 1 ∧ (52 ≤ A 54 (fd 0) ∧ A 54 (fd 0) ≤ 52) ∧ (71 ≤ A 54 (fd 1) ∧ A 54 (fd 1) ≤ 71) ∧ (KO A) ∧ (A 71 (fd 8) ≤ A 54 (fd 3))) ∧ (∀ A' : qA, iva IC A' → ivf JC A' → frm [72, 73] [(71, 8), (54, 3), (54, 4)] A A' → ∀ r : Int, 0 ≤ r → r ≤ 1 → (KO A') → (PF 71 A A') → (A 71 (fd 8) ≤ A' 71 (fd 8)) → (A' 71 (fd 8) + A 54 (fd 3) ≤ A 71 (fd 8) + A' 54 (fd 3)) → K (some (ni r)) A')
theorem okC_readPart1_71 : okM LC 23 53 sC_readPart1_71 := by
  refine qmeth [(54, 0, 52), (54, 1, 71)] false [(55, sC_readPiece1_71), (46, sC_look_71), (54, sC_readJump_71)] 40 rfl ⟨okC_readPiece1_71.le (by decide), ⟨okC_look_71.le (by decide), ⟨okC_readJump_71.le (by decide), trivial⟩⟩⟩ ?_
  rintro _ A K hA has ⟨d, rfl, ⟨i0, j0, p1, p2, p3, p4, p5, p6⟩, hK⟩
  have rg_d : rng d := has (ni d) (by simp)
  have f0 := frm_0 [72, 73] [(71, 8), (54, 3), (54, 4)] A
  obtain ⟨v7, e8⟩ : ∃ v, v = A 54 (fd 0) := ⟨_, rfl⟩
  rw [← e8] at p3
  obtain ⟨v9, e10⟩ : ∃ v, v = A 54 (fd 1) := ⟨_, rfl⟩
  rw [← e10] at p4
  have pf0 := PF_rf 71 A
  have hb_71_8 := ivf_at j0 12 rfl
  have hb_54_3 := ivf_at j0 1 rfl
  have hb_54_2 := ivf_at j0 0 rfl
  refine ⟨Nat.le_of_ble_eq_true rfl, [(6, [(0, 2, 54), (1, 0, 0), (2, 0, 0), (3, 0, 0)], fun zs B nn => match zs with | [l1, w, i] => iva IC B ∧ ivf JC B ∧ frm [72, 73] [(71, 8), (54, 3), (54, 4)] A B ∧ nn = (200 - i : Int).toNat ∧ (52 ≤ B 54 (fd 0) ∧ B 54 (fd 0) ≤ 52) ∧ (71 ≤ B 54 (fd 1) ∧ B 54 (fd 1) ≤ 71) ∧ (l1 = d) ∧ (0 ≤ i) ∧ (i ≤ 200) ∧ (0 ≤ w) ∧ (w ≤ 1) ∧ (KO B) ∧ (PF 71 A B) ∧ (A 71 (fd 8) ≤ B 71 (fd 8)) ∧ (B 71 (fd 8) + A 54 (fd 3) ≤ A 71 (fd 8) + B 54 (fd 3)) ∧ (B 71 (fd 8) ≤ B 54 (fd 3)) | _ => False)], ?_, ?_⟩
  · refine ⟨⟨rfl, ?_⟩, trivial⟩
    · refine fun l1 w i B mm hB hz hI => ?_
      obtain ⟨i1, j1, f1, hm, d0, d1, c0, c1, c2, c3, c4, c5, c6, c7, c8, c9⟩ := hI
      obtain ⟨hz_l1, hz_w, hz_i, _⟩ := hz
      obtain ⟨v39, e40⟩ : ∃ v, v = B 54 (fd 0) := ⟨_, rfl⟩
      rw [← e40] at d0
      obtain ⟨v41, e42⟩ : ∃ v, v = B 54 (fd 1) := ⟨_, rfl⟩
      rw [← e42] at d1
      have hc_71_8 := ivf_at j1 12 rfl
      have hc_54_3 := ivf_at j1 1 rfl
      have hc_54_2 := ivf_at j1 0 rfl
      have hc_t : B 54 (fd 2) = A 54 (fd 2) := frm_f f1 rfl
      have hc_w : B 53 = A 53 := frm_a f1 rfl
      refine And.intro (fun h43 => ?_) (fun h43 => ?_)
      · exact And.intro (by omega) (hK _ i1 j1 f1 _ (by omega) (by omega) c5 c6 (by first | assumption | omega | simp_all) (by first | assumption | omega | simp_all))
      · refine And.intro (fun h44 => ?_) (fun h44 => ?_)
        · exact And.intro (by omega) (hK _ i1 j1 f1 _ (by omega) (by omega) c5 c6 (by first | assumption | omega | simp_all) (by first | assumption | omega | simp_all))
        · obtain ⟨v45, e46⟩ : ∃ v, v = B 54 (fd 0) := ⟨_, rfl⟩
          have q47 : v39 = v45 := (e46.trans e40.symm).symm
          subst q47
          obtain ⟨v48, e49⟩ : ∃ v, v = B 54 (fd 1) := ⟨_, rfl⟩
          have q50 : v41 = v48 := (e49.trans e42.symm).symm
          subst q50
          refine And.intro rfl (And.intro (And.intro i1 (And.intro j1 (And.intro (by rw [← e46]; omega) (by rw [← e49]; omega)))) (fun r51 g53 g54 g52 => ?_))
          refine And.intro (fun h55 => ?_) (fun h55 => ?_)
          · exact And.intro (by omega) (hK _ i1 j1 f1 _ (by omega) (by omega) c5 c6 (by first | assumption | omega | simp_all) (by first | assumption | omega | simp_all))
          · obtain ⟨v56, e57⟩ : ∃ v, v = B 54 (fd 0) := ⟨_, rfl⟩
            have q58 : v39 = v56 := (e57.trans e46.symm).symm
            subst q58
            obtain ⟨v59, e60⟩ : ∃ v, v = B 54 (fd 1) := ⟨_, rfl⟩
            have q61 : v41 = v59 := (e60.trans e49.symm).symm
            subst q61
            refine And.intro rfl (And.intro (And.intro i1 (And.intro j1 (And.intro (by rw [← e57]; omega) (And.intro (by rw [← e60]; omega) (And.intro c5 (And.intro (by first | assumption | omega | simp_all) (And.intro (by first | assumption | omega | simp_all) (by first | assumption | omega | simp_all)))))))) (fun A62 i63 j64 f65 r66 g73 g74 g67 g68 g69 g70 g71 g72 => ?_))
            have f75 := frm_c f1 f65 rfl
            have t76 := ivf_at j64 12 rfl
            have t77 := ivf_at j64 1 rfl
            have t78 : A62 54 (fd 2) = B 54 (fd 2) := (frm_f f65 rfl)
            have pf79 := PF_tr c6 g68 (by omega)
            obtain ⟨v80, e81⟩ : ∃ v, v = A62 54 (fd 0) := ⟨_, rfl⟩
            have q82 : v39 = v80 := (e81.trans ((frm_f f65 rfl).trans e57.symm)).symm
            subst q82
            obtain ⟨v83, e84⟩ : ∃ v, v = A62 54 (fd 1) := ⟨_, rfl⟩
            have q85 : v41 = v83 := (e84.trans ((frm_f f65 rfl).trans e60.symm)).symm
            subst q85
            refine Exists.intro l1 (And.intro rfl (And.intro (And.intro i63 (And.intro j64 (And.intro (by omega) (And.intro (by omega) (And.intro (by rw [← e81]; omega) (And.intro (by rw [← e84]; omega) (And.intro g67 (by first | assumption | omega | simp_all)))))))) (fun A86 i87 j88 f89 r90 g95 g96 g91 g92 g93 g94 => ?_)))
            have f97 := frm_c f75 f89 rfl
            have t98 := ivf_at j88 12 rfl
            have t99 := ivf_at j88 1 rfl
            have t100 : A86 54 (fd 2) = A62 54 (fd 2) := (frm_f f89 rfl)
            have pf101 := PF_tr pf79 g92 (by omega)
            obtain ⟨v102, e103⟩ : ∃ v, v = A86 54 (fd 1) := ⟨_, rfl⟩
            have q104 : v41 = v102 := (e103.trans ((frm_f f89 rfl).trans e84.symm)).symm
            subst q104
            refine And.intro (show A86 54 (fd 1) = ((71 : Nat) : Int) by omega) ?_
            obtain ⟨v105, e106⟩ : ∃ v, v = A86 54 (fd 1) := ⟨_, rfl⟩
            have q107 : v41 = v105 := (e106.trans e103.symm).symm
            subst q107
            refine And.intro (show A86 54 (fd 1) = ((71 : Nat) : Int) by omega) ?_
            refine fun v108 gv108 e109 => ?_
            have b110 := ivf_at j88 12 rfl
            have hjump : A86 72 r66 ≠ 107 := by have q1 := g92 r66 (by omega) (by omega); simp only [Nat.reduceAdd] at q1; have q2 := g72; omega
            refine And.intro (by omega) (fun A111 e112 => ?_)
            have i113 := iva_st i87 e112 (And.intro (by omega) trivial)
            have j114 := ivf_sa j88 e112 rfl
            have f115 := frm_s f97 e112 rfl
            have t116 : A111 71 (fd 8) = A86 71 (fd 8) := (congrFun (st_a e112 rfl) _)
            have t117 : A111 54 (fd 3) = A86 54 (fd 3) := (congrFun (st_a e112 rfl) _)
            have t118 : A111 54 (fd 2) = A86 54 (fd 2) := (congrFun (st_a e112 rfl) _)
            have kk119 := KO_o73 g91 e112 hjump
            have pf120 := PF_k pf101 (st_a e112 rfl)
            refine fun v121 e122 => ?_
            obtain ⟨v123, e124⟩ : ∃ v, v = A111 54 (fd 0) := ⟨_, rfl⟩
            have q125 : v39 = v123 := (e124.trans ((Eq.trans (congrFun (st_a e112 rfl) _) (frm_f f89 rfl)).trans e81.symm)).symm
            subst q125
            obtain ⟨v126, e127⟩ : ∃ v, v = A111 54 (fd 1) := ⟨_, rfl⟩
            have q128 : v41 = v126 := (e127.trans ((congrFun (st_a e112 rfl) _).trans e106.symm)).symm
            subst q128
            exact And.intro (by omega) (Exists.intro (200 - v121 : Int).toNat (And.intro (by omega) (And.intro i113 (And.intro j114 (And.intro f115 (And.intro rfl (And.intro (by rw [← e124]; omega) (And.intro (by rw [← e127]; omega) (And.intro (by omega) (And.intro (by omega) (And.intro (by omega) (And.intro (by omega) (And.intro (by omega) (And.intro kk119 (And.intro pf120 (And.intro (by omega) (And.intro (by omega) (by omega))))))))))))))))))
  · obtain ⟨v11, e12⟩ : ∃ v, v = A 54 (fd 0) := ⟨_, rfl⟩
    have q13 : v7 = v11 := (e12.trans e8.symm).symm
    subst q13
    obtain ⟨v14, e15⟩ : ∃ v, v = A 54 (fd 1) := ⟨_, rfl⟩
    have q16 : v9 = v14 := (e15.trans e10.symm).symm
    subst q16
    refine Exists.intro d (And.intro rfl (And.intro (And.intro i0 (And.intro j0 (And.intro (by omega) (And.intro (by omega) (And.intro (by rw [← e12]; omega) (And.intro (by rw [← e15]; omega) (And.intro p5 (by first | assumption | omega | simp_all)))))))) (fun A17 i18 j19 f20 r21 g26 g27 g22 g23 g24 g25 => ?_)))
    have f28 := frm_c f0 f20 rfl
    have t29 := ivf_at j19 12 rfl
    have t30 := ivf_at j19 1 rfl
    have t31 : A17 54 (fd 2) = A 54 (fd 2) := (frm_f f20 rfl)
    have pf32 := PF_tr pf0 g23 (by omega)
    obtain ⟨v33, e34⟩ : ∃ v, v = A17 54 (fd 0) := ⟨_, rfl⟩
    have q35 : v7 = v33 := (e34.trans ((frm_f f20 rfl).trans e12.symm)).symm
    subst q35
    obtain ⟨v36, e37⟩ : ∃ v, v = A17 54 (fd 1) := ⟨_, rfl⟩
    have q38 : v9 = v36 := (e37.trans ((frm_f f20 rfl).trans e15.symm)).symm
    subst q38
    exact Exists.intro (200 - 0 : Int).toNat (And.intro i18 (And.intro j19 (And.intro f28 (And.intro rfl (And.intro (by rw [← e34]; omega) (And.intro (by rw [← e37]; omega) (And.intro (by omega) (And.intro (by omega) (And.intro (by omega) (And.intro (by omega) (And.intro (by omega) (And.intro g22 (And.intro pf32 (And.intro (by omega) (And.intro (by omega) (by omega))))))))))))))))
def sC_readCondition1_71 : qS := fun as A K => ∃ d : Int, as = [rf 54, ni d] ∧ (iva IC A ∧ ivf JC A ∧ 1 ≤ d ∧ d ≤ 1 ∧ (52 ≤ A 54 (fd 0) ∧ A 54 (fd 0) ≤ 52) ∧ (71 ≤ A 54 (fd 1) ∧ A 54 (fd 1) ≤ 71) ∧ (KO A) ∧ (A 71 (fd 8) ≤ A 54 (fd 3))) ∧ (∀ A' : qA, iva IC A' → ivf JC A' → frm [72, 73] [(71, 8), (54, 3), (54, 4)] A A' → ∀ r : Int, 0 ≤ r → r ≤ 1 → (KO A') → (PF 71 A A') → (A 71 (fd 8) ≤ A' 71 (fd 8)) → (A' 71 (fd 8) + A 54 (fd 3) ≤ A 71 (fd 8) + A' 54 (fd 3)) → K (some (ni r)) A')
theorem okC_readCondition1_71 : okM LC 24 52 sC_readCondition1_71 := by
  refine qmeth [(54, 0, 52), (54, 1, 71)] false [(53, sC_readPart1_71), (46, sC_look_71), (54, sC_readJump_71)] 40 rfl ⟨okC_readPart1_71.le (by decide), ⟨okC_look_71.le (by decide), ⟨okC_readJump_71.le (by decide), trivial⟩⟩⟩ ?_
  rintro _ A K hA has ⟨d, rfl, ⟨i0, j0, p1, p2, p3, p4, p5, p6⟩, hK⟩
  have rg_d : rng d := has (ni d) (by simp)
  have f0 := frm_0 [72, 73] [(71, 8), (54, 3), (54, 4)] A
  obtain ⟨v7, e8⟩ : ∃ v, v = A 54 (fd 0) := ⟨_, rfl⟩
  rw [← e8] at p3
  obtain ⟨v9, e10⟩ : ∃ v, v = A 54 (fd 1) := ⟨_, rfl⟩
  rw [← e10] at p4
  have pf0 := PF_rf 71 A
  have hb_71_8 := ivf_at j0 12 rfl
  have hb_54_3 := ivf_at j0 1 rfl
  have hb_54_2 := ivf_at j0 0 rfl
  refine ⟨Nat.le_of_ble_eq_true rfl, [(6, [(0, 2, 54), (1, 0, 0), (2, 0, 0), (3, 0, 0)], fun zs B nn => match zs with | [l1, w, i] => iva IC B ∧ ivf JC B ∧ frm [72, 73] [(71, 8), (54, 3), (54, 4)] A B ∧ nn = (200 - i : Int).toNat ∧ (52 ≤ B 54 (fd 0) ∧ B 54 (fd 0) ≤ 52) ∧ (71 ≤ B 54 (fd 1) ∧ B 54 (fd 1) ≤ 71) ∧ (l1 = d) ∧ (0 ≤ i) ∧ (i ≤ 200) ∧ (0 ≤ w) ∧ (w ≤ 1) ∧ (KO B) ∧ (PF 71 A B) ∧ (A 71 (fd 8) ≤ B 71 (fd 8)) ∧ (B 71 (fd 8) + A 54 (fd 3) ≤ A 71 (fd 8) + B 54 (fd 3)) ∧ (B 71 (fd 8) ≤ B 54 (fd 3)) | _ => False)], ?_, ?_⟩
  · refine ⟨⟨rfl, ?_⟩, trivial⟩
    · refine fun l1 w i B mm hB hz hI => ?_
      obtain ⟨i1, j1, f1, hm, d0, d1, c0, c1, c2, c3, c4, c5, c6, c7, c8, c9⟩ := hI
      obtain ⟨hz_l1, hz_w, hz_i, _⟩ := hz
      obtain ⟨v39, e40⟩ : ∃ v, v = B 54 (fd 0) := ⟨_, rfl⟩
      rw [← e40] at d0
      obtain ⟨v41, e42⟩ : ∃ v, v = B 54 (fd 1) := ⟨_, rfl⟩
      rw [← e42] at d1
      have hc_71_8 := ivf_at j1 12 rfl
      have hc_54_3 := ivf_at j1 1 rfl
      have hc_54_2 := ivf_at j1 0 rfl
      have hc_t : B 54 (fd 2) = A 54 (fd 2) := frm_f f1 rfl
      have hc_w : B 53 = A 53 := frm_a f1 rfl
      refine And.intro (fun h43 => ?_) (fun h43 => ?_)
      · exact And.intro (by omega) (hK _ i1 j1 f1 _ (by omega) (by omega) c5 c6 (by first | assumption | omega | simp_all) (by first | assumption | omega | simp_all))
      · refine And.intro (fun h44 => ?_) (fun h44 => ?_)
        · exact And.intro (by omega) (hK _ i1 j1 f1 _ (by omega) (by omega) c5 c6 (by first | assumption | omega | simp_all) (by first | assumption | omega | simp_all))
        · obtain ⟨v45, e46⟩ : ∃ v, v = B 54 (fd 0) := ⟨_, rfl⟩
          have q47 : v39 = v45 := (e46.trans e40.symm).symm
          subst q47
          obtain ⟨v48, e49⟩ : ∃ v, v = B 54 (fd 1) := ⟨_, rfl⟩
          have q50 : v41 = v48 := (e49.trans e42.symm).symm
          subst q50
          refine And.intro rfl (And.intro (And.intro i1 (And.intro j1 (And.intro (by rw [← e46]; omega) (by rw [← e49]; omega)))) (fun r51 g53 g54 g52 => ?_))
          refine And.intro (fun h55 => ?_) (fun h55 => ?_)
          · exact And.intro (by omega) (hK _ i1 j1 f1 _ (by omega) (by omega) c5 c6 (by first | assumption | omega | simp_all) (by first | assumption | omega | simp_all))
          · obtain ⟨v56, e57⟩ : ∃ v, v = B 54 (fd 0) := ⟨_, rfl⟩
            have q58 : v39 = v56 := (e57.trans e46.symm).symm
            subst q58
            obtain ⟨v59, e60⟩ : ∃ v, v = B 54 (fd 1) := ⟨_, rfl⟩
            have q61 : v41 = v59 := (e60.trans e49.symm).symm
            subst q61
            refine And.intro rfl (And.intro (And.intro i1 (And.intro j1 (And.intro (by rw [← e57]; omega) (And.intro (by rw [← e60]; omega) (And.intro c5 (And.intro (by first | assumption | omega | simp_all) (And.intro (by first | assumption | omega | simp_all) (by first | assumption | omega | simp_all)))))))) (fun A62 i63 j64 f65 r66 g73 g74 g67 g68 g69 g70 g71 g72 => ?_))
            have f75 := frm_c f1 f65 rfl
            have t76 := ivf_at j64 12 rfl
            have t77 := ivf_at j64 1 rfl
            have t78 : A62 54 (fd 2) = B 54 (fd 2) := (frm_f f65 rfl)
            have pf79 := PF_tr c6 g68 (by omega)
            obtain ⟨v80, e81⟩ : ∃ v, v = A62 54 (fd 0) := ⟨_, rfl⟩
            have q82 : v39 = v80 := (e81.trans ((frm_f f65 rfl).trans e57.symm)).symm
            subst q82
            obtain ⟨v83, e84⟩ : ∃ v, v = A62 54 (fd 1) := ⟨_, rfl⟩
            have q85 : v41 = v83 := (e84.trans ((frm_f f65 rfl).trans e60.symm)).symm
            subst q85
            refine Exists.intro l1 (And.intro rfl (And.intro (And.intro i63 (And.intro j64 (And.intro (by omega) (And.intro (by omega) (And.intro (by rw [← e81]; omega) (And.intro (by rw [← e84]; omega) (And.intro g67 (by first | assumption | omega | simp_all)))))))) (fun A86 i87 j88 f89 r90 g95 g96 g91 g92 g93 g94 => ?_)))
            have f97 := frm_c f75 f89 rfl
            have t98 := ivf_at j88 12 rfl
            have t99 := ivf_at j88 1 rfl
            have t100 : A86 54 (fd 2) = A62 54 (fd 2) := (frm_f f89 rfl)
            have pf101 := PF_tr pf79 g92 (by omega)
            obtain ⟨v102, e103⟩ : ∃ v, v = A86 54 (fd 1) := ⟨_, rfl⟩
            have q104 : v41 = v102 := (e103.trans ((frm_f f89 rfl).trans e84.symm)).symm
            subst q104
            refine And.intro (show A86 54 (fd 1) = ((71 : Nat) : Int) by omega) ?_
            obtain ⟨v105, e106⟩ : ∃ v, v = A86 54 (fd 1) := ⟨_, rfl⟩
            have q107 : v41 = v105 := (e106.trans e103.symm).symm
            subst q107
            refine And.intro (show A86 54 (fd 1) = ((71 : Nat) : Int) by omega) ?_
            refine fun v108 gv108 e109 => ?_
            have b110 := ivf_at j88 12 rfl
            have hjump : A86 72 r66 ≠ 107 := by have q1 := g92 r66 (by omega) (by omega); simp only [Nat.reduceAdd] at q1; have q2 := g72; omega
            refine And.intro (by omega) (fun A111 e112 => ?_)
            have i113 := iva_st i87 e112 (And.intro (by omega) trivial)
            have j114 := ivf_sa j88 e112 rfl
            have f115 := frm_s f97 e112 rfl
            have t116 : A111 71 (fd 8) = A86 71 (fd 8) := (congrFun (st_a e112 rfl) _)
            have t117 : A111 54 (fd 3) = A86 54 (fd 3) := (congrFun (st_a e112 rfl) _)
            have t118 : A111 54 (fd 2) = A86 54 (fd 2) := (congrFun (st_a e112 rfl) _)
            have kk119 := KO_o73 g91 e112 hjump
            have pf120 := PF_k pf101 (st_a e112 rfl)
            refine fun v121 e122 => ?_
            obtain ⟨v123, e124⟩ : ∃ v, v = A111 54 (fd 0) := ⟨_, rfl⟩
            have q125 : v39 = v123 := (e124.trans ((Eq.trans (congrFun (st_a e112 rfl) _) (frm_f f89 rfl)).trans e81.symm)).symm
            subst q125
            obtain ⟨v126, e127⟩ : ∃ v, v = A111 54 (fd 1) := ⟨_, rfl⟩
            have q128 : v41 = v126 := (e127.trans ((congrFun (st_a e112 rfl) _).trans e106.symm)).symm
            subst q128
            exact And.intro (by omega) (Exists.intro (200 - v121 : Int).toNat (And.intro (by omega) (And.intro i113 (And.intro j114 (And.intro f115 (And.intro rfl (And.intro (by rw [← e124]; omega) (And.intro (by rw [← e127]; omega) (And.intro (by omega) (And.intro (by omega) (And.intro (by omega) (And.intro (by omega) (And.intro (by omega) (And.intro kk119 (And.intro pf120 (And.intro (by omega) (And.intro (by omega) (by omega))))))))))))))))))
  · obtain ⟨v11, e12⟩ : ∃ v, v = A 54 (fd 0) := ⟨_, rfl⟩
    have q13 : v7 = v11 := (e12.trans e8.symm).symm
    subst q13
    obtain ⟨v14, e15⟩ : ∃ v, v = A 54 (fd 1) := ⟨_, rfl⟩
    have q16 : v9 = v14 := (e15.trans e10.symm).symm
    subst q16
    refine Exists.intro d (And.intro rfl (And.intro (And.intro i0 (And.intro j0 (And.intro (by omega) (And.intro (by omega) (And.intro (by rw [← e12]; omega) (And.intro (by rw [← e15]; omega) (And.intro p5 (by first | assumption | omega | simp_all)))))))) (fun A17 i18 j19 f20 r21 g26 g27 g22 g23 g24 g25 => ?_)))
    have f28 := frm_c f0 f20 rfl
    have t29 := ivf_at j19 12 rfl
    have t30 := ivf_at j19 1 rfl
    have t31 : A17 54 (fd 2) = A 54 (fd 2) := (frm_f f20 rfl)
    have pf32 := PF_tr pf0 g23 (by omega)
    obtain ⟨v33, e34⟩ : ∃ v, v = A17 54 (fd 0) := ⟨_, rfl⟩
    have q35 : v7 = v33 := (e34.trans ((frm_f f20 rfl).trans e12.symm)).symm
    subst q35
    obtain ⟨v36, e37⟩ : ∃ v, v = A17 54 (fd 1) := ⟨_, rfl⟩
    have q38 : v9 = v36 := (e37.trans ((frm_f f20 rfl).trans e15.symm)).symm
    subst q38
    exact Exists.intro (200 - 0 : Int).toNat (And.intro i18 (And.intro j19 (And.intro f28 (And.intro rfl (And.intro (by rw [← e34]; omega) (And.intro (by rw [← e37]; omega) (And.intro (by omega) (And.intro (by omega) (And.intro (by omega) (And.intro (by omega) (And.intro (by omega) (And.intro g22 (And.intro pf32 (And.intro (by omega) (And.intro (by omega) (by omega))))))))))))))))
def sC_readFactor0_71 : qS := fun as A K => ∃ d : Int, as = [rf 54, ni d] ∧ (iva IC A ∧ ivf JC A ∧ 0 ≤ d ∧ d ≤ 0 ∧ (52 ≤ A 54 (fd 0) ∧ A 54 (fd 0) ≤ 52) ∧ (71 ≤ A 54 (fd 1) ∧ A 54 (fd 1) ≤ 71) ∧ (KO A) ∧ (A 71 (fd 8) ≤ A 54 (fd 3))) ∧ (∀ A' : qA, iva IC A' → ivf JC A' → frm [72, 73] [(71, 8), (54, 3), (54, 4)] A A' → ∀ r : Int, 0 ≤ r → r ≤ 1 → (KO A') → (PF 71 A A') → (A 71 (fd 8) ≤ A' 71 (fd 8)) → (A' 71 (fd 8) + A 54 (fd 3) ≤ A 71 (fd 8) + A' 54 (fd 3)) → K (some (ni r)) A')
theorem okC_readFactor0_71 : okM LC 21 59 sC_readFactor0_71 := by
  refine qmeth [(54, 0, 52), (54, 1, 71)] false [(46, sC_look_71), (60, sC_isDigit), (61, sC_readNumber_71), (75, sC_putr71), (47, sC_fail_71), (49, sC_enter_71), (57, sC_readSum1_71), (48, sC_expect_71)] 60 rfl ⟨okC_look_71.le (by decide), ⟨okC_isDigit.le (by decide), ⟨okC_readNumber_71.le (by decide), ⟨okC_putr71.le (by decide), ⟨okC_fail_71.le (by decide), ⟨okC_enter_71.le (by decide), ⟨okC_readSum1_71.le (by decide), ⟨okC_expect_71.le (by decide), trivial⟩⟩⟩⟩⟩⟩⟩⟩ ?_
  rintro _ A K hA has ⟨d, rfl, ⟨i0, j0, p1, p2, p3, p4, p5, p6⟩, hK⟩
  have rg_d : rng d := has (ni d) (by simp)
  have f0 := frm_0 [72, 73] [(71, 8), (54, 3), (54, 4)] A
  obtain ⟨v7, e8⟩ : ∃ v, v = A 54 (fd 0) := ⟨_, rfl⟩
  rw [← e8] at p3
  obtain ⟨v9, e10⟩ : ∃ v, v = A 54 (fd 1) := ⟨_, rfl⟩
  rw [← e10] at p4
  have pf0 := PF_rf 71 A
  have hb_71_8 := ivf_at j0 12 rfl
  have hb_54_3 := ivf_at j0 1 rfl
  have hb_54_2 := ivf_at j0 0 rfl
  refine ⟨Nat.le_of_ble_eq_true rfl, [], trivial, ?_⟩
  obtain ⟨v11, e12⟩ : ∃ v, v = A 54 (fd 0) := ⟨_, rfl⟩
  have q13 : v7 = v11 := (e12.trans e8.symm).symm
  subst q13
  obtain ⟨v14, e15⟩ : ∃ v, v = A 54 (fd 1) := ⟨_, rfl⟩
  have q16 : v9 = v14 := (e15.trans e10.symm).symm
  subst q16
  refine And.intro rfl (And.intro (And.intro i0 (And.intro j0 (And.intro (by rw [← e12]; omega) (by rw [← e15]; omega)))) (fun r17 g19 g20 g18 => ?_))
  refine And.intro (fun h21 => ?_) (fun h21 => ?_)
  · refine Exists.intro r17 (And.intro rfl (And.intro (fun h22 => ?_) (fun h22 => ?_)))
    · refine And.intro (fun h23 => by exfalso; omega) (fun h23 => ?_)
      obtain ⟨v24, e25⟩ : ∃ v, v = A 54 (fd 0) := ⟨_, rfl⟩
      have q26 : v7 = v24 := (e25.trans e12.symm).symm
      subst q26
      obtain ⟨v27, e28⟩ : ∃ v, v = A 54 (fd 1) := ⟨_, rfl⟩
      have q29 : v9 = v27 := (e28.trans e15.symm).symm
      subst q29
      refine And.intro rfl (And.intro (And.intro i0 (And.intro j0 (And.intro (by rw [← e25]; omega) (And.intro (by rw [← e28]; omega) (And.intro p5 (And.intro (by first | assumption | omega | simp_all) (And.intro (by first | assumption | omega | simp_all) (And.intro (by first | assumption | omega | simp_all) (by first | assumption | omega | simp_all))))))))) (fun A30 i31 j32 f33 r34 g39 g40 g35 g36 g37 g38 => ?_))
      have f41 := frm_c f0 f33 rfl
      have t42 := ivf_at j32 12 rfl
      have t43 := ivf_at j32 1 rfl
      have t44 : A30 54 (fd 2) = A 54 (fd 2) := (frm_f f33 rfl)
      have pf45 := PF_tr pf0 g36 (by omega)
      exact And.intro (by omega) (hK _ i31 j32 f41 _ (by omega) (by omega) g35 pf45 (by first | assumption | omega | simp_all) (by first | assumption | omega | simp_all))
    · refine And.intro (fun h46 => ?_) (fun h46 => by exfalso; omega)
      refine fun v47 e48 => ?_
      have h49 := qone_bd 0 r17
      rw [← e48] at h49
      have h50 := qone_p (s := 0) (x := r17) (by omega)
      refine And.intro (fun h51 => ?_) (fun h51 => ?_)
      · obtain ⟨v52, e53⟩ : ∃ v, v = A 54 (fd 1) := ⟨_, rfl⟩
        have q54 : v9 = v52 := (e53.trans e15.symm).symm
        subst q54
        refine And.intro (show A 54 (fd 1) = ((71 : Nat) : Int) by omega) ?_
        refine fun v55 e56 => ?_
        have h57 := qix_bd 0 r17
        rw [← e56] at h57
        refine Exists.intro 107 (Exists.intro v55 (And.intro rfl (And.intro (And.intro i0 (And.intro j0 (And.intro (by omega) (And.intro (by omega) (And.intro p5 (And.intro (by first | assumption | omega | simp_all) (by first | assumption | omega | simp_all))))))) (fun A58 i59 j60 f61 g62 g63 g64 g65 => ?_))))
        have f66 := frm_c f0 f61 rfl
        have t67 := ivf_at j60 12 rfl
        have t68 : A58 54 (fd 3) = A 54 (fd 3) := (frm_f f61 rfl)
        have t69 : A58 54 (fd 2) = A 54 (fd 2) := (frm_f f61 rfl)
        have pf70 := PF_tr pf0 g63 (by omega)
        refine fun v71 gv71 e72 => ?_
        have b73 := ivf_at j60 1 rfl
        refine fun v74 e75 => ?_
        refine And.intro (by omega) (fun A76 e77 => ?_)
        have i78 := iva_sf i59 e77 rfl
        have j79 := ivf_st j60 e77 (And.intro (by omega) trivial)
        have f80 := frm_sf f66 e77 rfl
        have t81 : A76 71 (fd 8) = A58 71 (fd 8) := (congrFun (st_a e77 rfl) _)
        have t82 := st_v e77
        have t83 : A76 54 (fd 2) = A58 54 (fd 2) := (st_f e77 rfl)
        have kk84 := KO_k g62 (st_a e77 rfl) (st_a e77 rfl) (st_a e77 rfl) (st_a e77 rfl)
        have pf85 := PF_k pf70 (st_a e77 rfl)
        exact And.intro (by omega) (hK _ i78 j79 f80 _ (by omega) (by omega) kk84 pf85 (by first | assumption | omega | simp_all) (by first | assumption | omega | simp_all))
      · obtain ⟨v86, e87⟩ : ∃ v, v = A 54 (fd 0) := ⟨_, rfl⟩
        have q88 : v7 = v86 := (e87.trans e12.symm).symm
        subst q88
        obtain ⟨v89, e90⟩ : ∃ v, v = A 54 (fd 1) := ⟨_, rfl⟩
        have q91 : v9 = v89 := (e90.trans e15.symm).symm
        subst q91
        refine Exists.intro 1 (And.intro rfl (And.intro (And.intro i0 (And.intro j0 (And.intro (by omega) (And.intro (by omega) (And.intro (by rw [← e87]; omega) (by rw [← e90]; omega)))))) (fun A92 i93 j94 f95 => (fun h96 => ?_))))
        · have f97 := frm_c f0 f95 rfl
          have t98 : A92 71 (fd 8) = A 71 (fd 8) := (frm_f f95 rfl)
          have t99 : A92 54 (fd 3) = A 54 (fd 3) := (frm_f f95 rfl)
          have t100 : A92 54 (fd 2) = A 54 (fd 2) := (frm_f f95 rfl)
          have kk101 := KO_fr p5 f95 rfl
          have pf102 := PF_k pf0 (frm_a f95 rfl)
          exact And.intro (by omega) (hK _ i93 j94 f97 _ (by omega) (by omega) kk101 pf102 (by first | assumption | omega | simp_all) (by first | assumption | omega | simp_all))
  · obtain ⟨v103, e104⟩ : ∃ v, v = A 54 (fd 0) := ⟨_, rfl⟩
    have q105 : v7 = v103 := (e104.trans e12.symm).symm
    subst q105
    obtain ⟨v106, e107⟩ : ∃ v, v = A 54 (fd 1) := ⟨_, rfl⟩
    have q108 : v9 = v106 := (e107.trans e15.symm).symm
    subst q108
    refine Exists.intro d (And.intro rfl (And.intro (And.intro i0 (And.intro j0 (And.intro (by omega) (And.intro (by omega) (And.intro (by rw [← e104]; omega) (And.intro (by rw [← e107]; omega) (And.intro p5 (by first | assumption | omega | simp_all)))))))) (fun A109 i110 j111 f112 g113 g114 => (And.intro (fun h115 => ?_) (fun h115 => by exfalso; omega)))))
    · have f116 := frm_c f0 f112 rfl
      have t117 : A109 71 (fd 8) = A 71 (fd 8) := (frm_f f112 rfl)
      have t118 := ivf_at j111 1 rfl
      have t119 : A109 54 (fd 2) = A 54 (fd 2) := (frm_f f112 rfl)
      have kk120 := KO_fr p5 f112 rfl
      have pf121 := PF_k pf0 (frm_a f112 rfl)
      refine And.intro (fun h122 => by exfalso; omega) (fun h122 => ?_)
      refine fun v123 e124 => ?_
      obtain ⟨v125, e126⟩ : ∃ v, v = A109 54 (fd 0) := ⟨_, rfl⟩
      have q127 : v7 = v125 := (e126.trans ((frm_f f112 rfl).trans e104.symm)).symm
      subst q127
      obtain ⟨v128, e129⟩ : ∃ v, v = A109 54 (fd 1) := ⟨_, rfl⟩
      have q130 : v9 = v128 := (e129.trans ((frm_f f112 rfl).trans e107.symm)).symm
      subst q130
      refine And.intro (by omega) (Exists.intro v123 (And.intro rfl (And.intro (And.intro i110 (And.intro j111 (And.intro (by omega) (And.intro (by omega) (And.intro (by rw [← e126]; omega) (And.intro (by rw [← e129]; omega) (And.intro kk120 (by first | assumption | omega | simp_all)))))))) (fun A131 i132 j133 f134 r135 g140 g141 g136 g137 g138 g139 => ?_))))
      have f142 := frm_c f116 f134 rfl
      have t143 := ivf_at j133 12 rfl
      have t144 := ivf_at j133 1 rfl
      have t145 : A131 54 (fd 2) = A109 54 (fd 2) := (frm_f f134 rfl)
      have pf146 := PF_tr pf121 g137 (by omega)
      refine And.intro (fun h147 => ?_) (fun h147 => ?_)
      · exact And.intro (by omega) (hK _ i132 j133 f142 _ (by omega) (by omega) g136 pf146 (by first | assumption | omega | simp_all) (by first | assumption | omega | simp_all))
      · obtain ⟨v148, e149⟩ : ∃ v, v = A131 54 (fd 0) := ⟨_, rfl⟩
        have q150 : v7 = v148 := (e149.trans ((frm_f f134 rfl).trans e126.symm)).symm
        subst q150
        obtain ⟨v151, e152⟩ : ∃ v, v = A131 54 (fd 1) := ⟨_, rfl⟩
        have q153 : v9 = v151 := (e152.trans ((frm_f f134 rfl).trans e129.symm)).symm
        subst q153
        refine Exists.intro 93 (And.intro rfl (And.intro (And.intro i132 (And.intro j133 (And.intro (by omega) (And.intro (by omega) (And.intro (by rw [← e149]; omega) (And.intro (by rw [← e152]; omega) (And.intro g136 (by first | assumption | omega | simp_all)))))))) (fun A154 i155 j156 f157 r158 g160 g161 g159 => ?_)))
        have f162 := frm_c f142 f157 rfl
        have t163 : A154 71 (fd 8) = A131 71 (fd 8) := (frm_f f157 rfl)
        have t164 := ivf_at j156 1 rfl
        have t165 : A154 54 (fd 2) = A131 54 (fd 2) := (frm_f f157 rfl)
        have kk166 := KO_fr g136 f157 rfl
        have pf167 := PF_k pf146 (frm_a f157 rfl)
        refine And.intro (fun h168 => ?_) (fun h168 => ?_)
        · exact And.intro (by omega) (hK _ i155 j156 f162 _ (by omega) (by omega) kk166 pf167 (by first | assumption | omega | simp_all) (by first | assumption | omega | simp_all))
        · exact And.intro (by omega) (hK _ i155 j156 f162 _ (by omega) (by omega) kk166 pf167 (by first | assumption | omega | simp_all) (by first | assumption | omega | simp_all))
def sC_readTerm0_71 : qS := fun as A K => ∃ d : Int, as = [rf 54, ni d] ∧ (iva IC A ∧ ivf JC A ∧ 0 ≤ d ∧ d ≤ 0 ∧ (52 ≤ A 54 (fd 0) ∧ A 54 (fd 0) ≤ 52) ∧ (71 ≤ A 54 (fd 1) ∧ A 54 (fd 1) ≤ 71) ∧ (KO A) ∧ (A 71 (fd 8) ≤ A 54 (fd 3))) ∧ (∀ A' : qA, iva IC A' → ivf JC A' → frm [72, 73] [(71, 8), (54, 3), (54, 4)] A A' → ∀ r : Int, 0 ≤ r → r ≤ 1 → (KO A') → (PF 71 A A') → (A 71 (fd 8) ≤ A' 71 (fd 8)) → (A' 71 (fd 8) + A 54 (fd 3) ≤ A 71 (fd 8) + A' 54 (fd 3)) → K (some (ni r)) A')
theorem okC_readTerm0_71 : okM LC 22 58 sC_readTerm0_71 := by
  refine qmeth [(54, 0, 52), (54, 1, 71)] false [(59, sC_readFactor0_71), (46, sC_look_71), (75, sC_putr71)] 44 rfl ⟨okC_readFactor0_71.le (by decide), ⟨okC_look_71.le (by decide), ⟨okC_putr71.le (by decide), trivial⟩⟩⟩ ?_
  rintro _ A K hA has ⟨d, rfl, ⟨i0, j0, p1, p2, p3, p4, p5, p6⟩, hK⟩
  have rg_d : rng d := has (ni d) (by simp)
  have f0 := frm_0 [72, 73] [(71, 8), (54, 3), (54, 4)] A
  obtain ⟨v7, e8⟩ : ∃ v, v = A 54 (fd 0) := ⟨_, rfl⟩
  rw [← e8] at p3
  obtain ⟨v9, e10⟩ : ∃ v, v = A 54 (fd 1) := ⟨_, rfl⟩
  rw [← e10] at p4
  have pf0 := PF_rf 71 A
  have hb_71_8 := ivf_at j0 12 rfl
  have hb_54_3 := ivf_at j0 1 rfl
  have hb_54_2 := ivf_at j0 0 rfl
  refine ⟨Nat.le_of_ble_eq_true rfl, [(6, [(0, 2, 54), (1, 0, 0), (2, 0, 0), (3, 0, 0)], fun zs B nn => match zs with | [l1, w, i] => iva IC B ∧ ivf JC B ∧ frm [72, 73] [(71, 8), (54, 3), (54, 4)] A B ∧ nn = (200 - i : Int).toNat ∧ (52 ≤ B 54 (fd 0) ∧ B 54 (fd 0) ≤ 52) ∧ (71 ≤ B 54 (fd 1) ∧ B 54 (fd 1) ≤ 71) ∧ (l1 = d) ∧ (0 ≤ i) ∧ (i ≤ 200) ∧ (0 ≤ w) ∧ (w ≤ 1) ∧ (KO B) ∧ (PF 71 A B) ∧ (A 71 (fd 8) ≤ B 71 (fd 8)) ∧ (B 71 (fd 8) + A 54 (fd 3) ≤ A 71 (fd 8) + B 54 (fd 3)) ∧ (B 71 (fd 8) ≤ B 54 (fd 3)) | _ => False)], ?_, ?_⟩
  · refine ⟨⟨rfl, ?_⟩, trivial⟩
    · refine fun l1 w i B mm hB hz hI => ?_
      obtain ⟨i1, j1, f1, hm, d0, d1, c0, c1, c2, c3, c4, c5, c6, c7, c8, c9⟩ := hI
      obtain ⟨hz_l1, hz_w, hz_i, _⟩ := hz
      obtain ⟨v39, e40⟩ : ∃ v, v = B 54 (fd 0) := ⟨_, rfl⟩
      rw [← e40] at d0
      obtain ⟨v41, e42⟩ : ∃ v, v = B 54 (fd 1) := ⟨_, rfl⟩
      rw [← e42] at d1
      have hc_71_8 := ivf_at j1 12 rfl
      have hc_54_3 := ivf_at j1 1 rfl
      have hc_54_2 := ivf_at j1 0 rfl
      have hc_t : B 54 (fd 2) = A 54 (fd 2) := frm_f f1 rfl
      have hc_w : B 53 = A 53 := frm_a f1 rfl
      refine And.intro (fun h43 => ?_) (fun h43 => ?_)
      · exact And.intro (by omega) (hK _ i1 j1 f1 _ (by omega) (by omega) c5 c6 (by first | assumption | omega | simp_all) (by first | assumption | omega | simp_all))
      · refine And.intro (fun h44 => ?_) (fun h44 => ?_)
        · exact And.intro (by omega) (hK _ i1 j1 f1 _ (by omega) (by omega) c5 c6 (by first | assumption | omega | simp_all) (by first | assumption | omega | simp_all))
        · obtain ⟨v45, e46⟩ : ∃ v, v = B 54 (fd 0) := ⟨_, rfl⟩
          have q47 : v39 = v45 := (e46.trans e40.symm).symm
          subst q47
          obtain ⟨v48, e49⟩ : ∃ v, v = B 54 (fd 1) := ⟨_, rfl⟩
          have q50 : v41 = v48 := (e49.trans e42.symm).symm
          subst q50
          refine And.intro rfl (And.intro (And.intro i1 (And.intro j1 (And.intro (by rw [← e46]; omega) (by rw [← e49]; omega)))) (fun r51 g53 g54 g52 => ?_))
          refine fun v55 e56 => ?_
          have h57 := qone_bd 4 r51
          rw [← e56] at h57
          have h58 := qone_p (s := 4) (x := r51) (by omega)
          refine And.intro (fun h59 => ?_) (fun h59 => ?_)
          · exact And.intro (by omega) (hK _ i1 j1 f1 _ (by omega) (by omega) c5 c6 (by first | assumption | omega | simp_all) (by first | assumption | omega | simp_all))
          · obtain ⟨v60, e61⟩ : ∃ v, v = B 54 (fd 0) := ⟨_, rfl⟩
            have q62 : v39 = v60 := (e61.trans e46.symm).symm
            subst q62
            obtain ⟨v63, e64⟩ : ∃ v, v = B 54 (fd 1) := ⟨_, rfl⟩
            have q65 : v41 = v63 := (e64.trans e49.symm).symm
            subst q65
            refine And.intro rfl (And.intro (And.intro i1 (And.intro j1 (And.intro (by rw [← e61]; omega) (by rw [← e64]; omega)))) (fun r66 g68 g69 g67 => ?_))
            refine fun v70 gv70 e71 => ?_
            have b72 := ivf_at j1 1 rfl
            refine fun v73 e74 => ?_
            refine And.intro (by omega) (fun A75 e76 => ?_)
            have i77 := iva_sf i1 e76 rfl
            have j78 := ivf_st j1 e76 (And.intro (by omega) trivial)
            have f79 := frm_sf f1 e76 rfl
            have t80 : A75 71 (fd 8) = B 71 (fd 8) := (congrFun (st_a e76 rfl) _)
            have t81 := st_v e76
            have t82 : A75 54 (fd 2) = B 54 (fd 2) := (st_f e76 rfl)
            have kk83 := KO_k c5 (st_a e76 rfl) (st_a e76 rfl) (st_a e76 rfl) (st_a e76 rfl)
            have pf84 := PF_k c6 (st_a e76 rfl)
            obtain ⟨v85, e86⟩ : ∃ v, v = A75 54 (fd 0) := ⟨_, rfl⟩
            have q87 : v39 = v85 := (e86.trans ((st_f e76 rfl).trans e61.symm)).symm
            subst q87
            obtain ⟨v88, e89⟩ : ∃ v, v = A75 54 (fd 1) := ⟨_, rfl⟩
            have q90 : v41 = v88 := (e89.trans ((st_f e76 rfl).trans e64.symm)).symm
            subst q90
            refine Exists.intro l1 (And.intro rfl (And.intro (And.intro i77 (And.intro j78 (And.intro (by omega) (And.intro (by omega) (And.intro (by rw [← e86]; omega) (And.intro (by rw [← e89]; omega) (And.intro kk83 (by first | assumption | omega | simp_all)))))))) (fun A91 i92 j93 f94 r95 g100 g101 g96 g97 g98 g99 => ?_)))
            have f102 := frm_c f79 f94 rfl
            have t103 := ivf_at j93 12 rfl
            have t104 := ivf_at j93 1 rfl
            have t105 : A91 54 (fd 2) = A75 54 (fd 2) := (frm_f f94 rfl)
            have pf106 := PF_tr pf84 g97 (by omega)
            obtain ⟨v107, e108⟩ : ∃ v, v = A91 54 (fd 1) := ⟨_, rfl⟩
            have q109 : v41 = v107 := (e108.trans ((frm_f f94 rfl).trans e89.symm)).symm
            subst q109
            refine And.intro (show A91 54 (fd 1) = ((71 : Nat) : Int) by omega) ?_
            refine Exists.intro r66 (Exists.intro 0 (And.intro rfl (And.intro (And.intro i92 (And.intro j93 (And.intro (by omega) (And.intro (by omega) (And.intro g96 (And.intro (by first | assumption | omega | simp_all) (by first | assumption | omega | simp_all))))))) (fun A110 i111 j112 f113 g114 g115 g116 g117 => ?_))))
            have f118 := frm_c f102 f113 rfl
            have t119 := ivf_at j112 12 rfl
            have t120 : A110 54 (fd 3) = A91 54 (fd 3) := (frm_f f113 rfl)
            have t121 : A110 54 (fd 2) = A91 54 (fd 2) := (frm_f f113 rfl)
            have pf122 := PF_tr pf106 g115 (by omega)
            refine fun v123 e124 => ?_
            obtain ⟨v125, e126⟩ : ∃ v, v = A110 54 (fd 0) := ⟨_, rfl⟩
            have q127 : v39 = v125 := (e126.trans ((Eq.trans (frm_f f113 rfl) (frm_f f94 rfl)).trans e86.symm)).symm
            subst q127
            obtain ⟨v128, e129⟩ : ∃ v, v = A110 54 (fd 1) := ⟨_, rfl⟩
            have q130 : v41 = v128 := (e129.trans ((frm_f f113 rfl).trans e108.symm)).symm
            subst q130
            exact And.intro (by omega) (Exists.intro (200 - v123 : Int).toNat (And.intro (by omega) (And.intro i111 (And.intro j112 (And.intro f118 (And.intro rfl (And.intro (by rw [← e126]; omega) (And.intro (by rw [← e129]; omega) (And.intro (by omega) (And.intro (by omega) (And.intro (by omega) (And.intro (by omega) (And.intro (by omega) (And.intro g114 (And.intro pf122 (And.intro (by omega) (And.intro (by omega) (by omega))))))))))))))))))
  · obtain ⟨v11, e12⟩ : ∃ v, v = A 54 (fd 0) := ⟨_, rfl⟩
    have q13 : v7 = v11 := (e12.trans e8.symm).symm
    subst q13
    obtain ⟨v14, e15⟩ : ∃ v, v = A 54 (fd 1) := ⟨_, rfl⟩
    have q16 : v9 = v14 := (e15.trans e10.symm).symm
    subst q16
    refine Exists.intro d (And.intro rfl (And.intro (And.intro i0 (And.intro j0 (And.intro (by omega) (And.intro (by omega) (And.intro (by rw [← e12]; omega) (And.intro (by rw [← e15]; omega) (And.intro p5 (by first | assumption | omega | simp_all)))))))) (fun A17 i18 j19 f20 r21 g26 g27 g22 g23 g24 g25 => ?_)))
    have f28 := frm_c f0 f20 rfl
    have t29 := ivf_at j19 12 rfl
    have t30 := ivf_at j19 1 rfl
    have t31 : A17 54 (fd 2) = A 54 (fd 2) := (frm_f f20 rfl)
    have pf32 := PF_tr pf0 g23 (by omega)
    obtain ⟨v33, e34⟩ : ∃ v, v = A17 54 (fd 0) := ⟨_, rfl⟩
    have q35 : v7 = v33 := (e34.trans ((frm_f f20 rfl).trans e12.symm)).symm
    subst q35
    obtain ⟨v36, e37⟩ : ∃ v, v = A17 54 (fd 1) := ⟨_, rfl⟩
    have q38 : v9 = v36 := (e37.trans ((frm_f f20 rfl).trans e15.symm)).symm
    subst q38
    exact Exists.intro (200 - 0 : Int).toNat (And.intro i18 (And.intro j19 (And.intro f28 (And.intro rfl (And.intro (by rw [← e34]; omega) (And.intro (by rw [← e37]; omega) (And.intro (by omega) (And.intro (by omega) (And.intro (by omega) (And.intro (by omega) (And.intro (by omega) (And.intro g22 (And.intro pf32 (And.intro (by omega) (And.intro (by omega) (by omega))))))))))))))))
def sC_readSum0_71 : qS := fun as A K => ∃ d : Int, as = [rf 54, ni d] ∧ (iva IC A ∧ ivf JC A ∧ 0 ≤ d ∧ d ≤ 0 ∧ (52 ≤ A 54 (fd 0) ∧ A 54 (fd 0) ≤ 52) ∧ (71 ≤ A 54 (fd 1) ∧ A 54 (fd 1) ≤ 71) ∧ (KO A) ∧ (A 71 (fd 8) ≤ A 54 (fd 3))) ∧ (∀ A' : qA, iva IC A' → ivf JC A' → frm [72, 73] [(71, 8), (54, 3), (54, 4)] A A' → ∀ r : Int, 0 ≤ r → r ≤ 1 → (KO A') → (PF 71 A A') → (A 71 (fd 8) ≤ A' 71 (fd 8)) → (A' 71 (fd 8) + A 54 (fd 3) ≤ A 71 (fd 8) + A' 54 (fd 3)) → K (some (ni r)) A')
theorem okC_readSum0_71 : okM LC 23 57 sC_readSum0_71 := by
  refine qmeth [(54, 0, 52), (54, 1, 71)] false [(58, sC_readTerm0_71), (46, sC_look_71), (75, sC_putr71)] 44 rfl ⟨okC_readTerm0_71.le (by decide), ⟨okC_look_71.le (by decide), ⟨okC_putr71.le (by decide), trivial⟩⟩⟩ ?_
  rintro _ A K hA has ⟨d, rfl, ⟨i0, j0, p1, p2, p3, p4, p5, p6⟩, hK⟩
  have rg_d : rng d := has (ni d) (by simp)
  have f0 := frm_0 [72, 73] [(71, 8), (54, 3), (54, 4)] A
  obtain ⟨v7, e8⟩ : ∃ v, v = A 54 (fd 0) := ⟨_, rfl⟩
  rw [← e8] at p3
  obtain ⟨v9, e10⟩ : ∃ v, v = A 54 (fd 1) := ⟨_, rfl⟩
  rw [← e10] at p4
  have pf0 := PF_rf 71 A
  have hb_71_8 := ivf_at j0 12 rfl
  have hb_54_3 := ivf_at j0 1 rfl
  have hb_54_2 := ivf_at j0 0 rfl
  refine ⟨Nat.le_of_ble_eq_true rfl, [(6, [(0, 2, 54), (1, 0, 0), (2, 0, 0), (3, 0, 0)], fun zs B nn => match zs with | [l1, w, i] => iva IC B ∧ ivf JC B ∧ frm [72, 73] [(71, 8), (54, 3), (54, 4)] A B ∧ nn = (200 - i : Int).toNat ∧ (52 ≤ B 54 (fd 0) ∧ B 54 (fd 0) ≤ 52) ∧ (71 ≤ B 54 (fd 1) ∧ B 54 (fd 1) ≤ 71) ∧ (l1 = d) ∧ (0 ≤ i) ∧ (i ≤ 200) ∧ (0 ≤ w) ∧ (w ≤ 1) ∧ (KO B) ∧ (PF 71 A B) ∧ (A 71 (fd 8) ≤ B 71 (fd 8)) ∧ (B 71 (fd 8) + A 54 (fd 3) ≤ A 71 (fd 8) + B 54 (fd 3)) ∧ (B 71 (fd 8) ≤ B 54 (fd 3)) | _ => False)], ?_, ?_⟩
  · refine ⟨⟨rfl, ?_⟩, trivial⟩
    · refine fun l1 w i B mm hB hz hI => ?_
      obtain ⟨i1, j1, f1, hm, d0, d1, c0, c1, c2, c3, c4, c5, c6, c7, c8, c9⟩ := hI
      obtain ⟨hz_l1, hz_w, hz_i, _⟩ := hz
      obtain ⟨v39, e40⟩ : ∃ v, v = B 54 (fd 0) := ⟨_, rfl⟩
      rw [← e40] at d0
      obtain ⟨v41, e42⟩ : ∃ v, v = B 54 (fd 1) := ⟨_, rfl⟩
      rw [← e42] at d1
      have hc_71_8 := ivf_at j1 12 rfl
      have hc_54_3 := ivf_at j1 1 rfl
      have hc_54_2 := ivf_at j1 0 rfl
      have hc_t : B 54 (fd 2) = A 54 (fd 2) := frm_f f1 rfl
      have hc_w : B 53 = A 53 := frm_a f1 rfl
      refine And.intro (fun h43 => ?_) (fun h43 => ?_)
      · exact And.intro (by omega) (hK _ i1 j1 f1 _ (by omega) (by omega) c5 c6 (by first | assumption | omega | simp_all) (by first | assumption | omega | simp_all))
      · refine And.intro (fun h44 => ?_) (fun h44 => ?_)
        · exact And.intro (by omega) (hK _ i1 j1 f1 _ (by omega) (by omega) c5 c6 (by first | assumption | omega | simp_all) (by first | assumption | omega | simp_all))
        · obtain ⟨v45, e46⟩ : ∃ v, v = B 54 (fd 0) := ⟨_, rfl⟩
          have q47 : v39 = v45 := (e46.trans e40.symm).symm
          subst q47
          obtain ⟨v48, e49⟩ : ∃ v, v = B 54 (fd 1) := ⟨_, rfl⟩
          have q50 : v41 = v48 := (e49.trans e42.symm).symm
          subst q50
          refine And.intro rfl (And.intro (And.intro i1 (And.intro j1 (And.intro (by rw [← e46]; omega) (by rw [← e49]; omega)))) (fun r51 g53 g54 g52 => ?_))
          refine fun v55 e56 => ?_
          have h57 := qone_bd 3 r51
          rw [← e56] at h57
          have h58 := qone_p (s := 3) (x := r51) (by omega)
          refine And.intro (fun h59 => ?_) (fun h59 => ?_)
          · exact And.intro (by omega) (hK _ i1 j1 f1 _ (by omega) (by omega) c5 c6 (by first | assumption | omega | simp_all) (by first | assumption | omega | simp_all))
          · obtain ⟨v60, e61⟩ : ∃ v, v = B 54 (fd 0) := ⟨_, rfl⟩
            have q62 : v39 = v60 := (e61.trans e46.symm).symm
            subst q62
            obtain ⟨v63, e64⟩ : ∃ v, v = B 54 (fd 1) := ⟨_, rfl⟩
            have q65 : v41 = v63 := (e64.trans e49.symm).symm
            subst q65
            refine And.intro rfl (And.intro (And.intro i1 (And.intro j1 (And.intro (by rw [← e61]; omega) (by rw [← e64]; omega)))) (fun r66 g68 g69 g67 => ?_))
            refine fun v70 gv70 e71 => ?_
            have b72 := ivf_at j1 1 rfl
            refine fun v73 e74 => ?_
            refine And.intro (by omega) (fun A75 e76 => ?_)
            have i77 := iva_sf i1 e76 rfl
            have j78 := ivf_st j1 e76 (And.intro (by omega) trivial)
            have f79 := frm_sf f1 e76 rfl
            have t80 : A75 71 (fd 8) = B 71 (fd 8) := (congrFun (st_a e76 rfl) _)
            have t81 := st_v e76
            have t82 : A75 54 (fd 2) = B 54 (fd 2) := (st_f e76 rfl)
            have kk83 := KO_k c5 (st_a e76 rfl) (st_a e76 rfl) (st_a e76 rfl) (st_a e76 rfl)
            have pf84 := PF_k c6 (st_a e76 rfl)
            obtain ⟨v85, e86⟩ : ∃ v, v = A75 54 (fd 0) := ⟨_, rfl⟩
            have q87 : v39 = v85 := (e86.trans ((st_f e76 rfl).trans e61.symm)).symm
            subst q87
            obtain ⟨v88, e89⟩ : ∃ v, v = A75 54 (fd 1) := ⟨_, rfl⟩
            have q90 : v41 = v88 := (e89.trans ((st_f e76 rfl).trans e64.symm)).symm
            subst q90
            refine Exists.intro l1 (And.intro rfl (And.intro (And.intro i77 (And.intro j78 (And.intro (by omega) (And.intro (by omega) (And.intro (by rw [← e86]; omega) (And.intro (by rw [← e89]; omega) (And.intro kk83 (by first | assumption | omega | simp_all)))))))) (fun A91 i92 j93 f94 r95 g100 g101 g96 g97 g98 g99 => ?_)))
            have f102 := frm_c f79 f94 rfl
            have t103 := ivf_at j93 12 rfl
            have t104 := ivf_at j93 1 rfl
            have t105 : A91 54 (fd 2) = A75 54 (fd 2) := (frm_f f94 rfl)
            have pf106 := PF_tr pf84 g97 (by omega)
            obtain ⟨v107, e108⟩ : ∃ v, v = A91 54 (fd 1) := ⟨_, rfl⟩
            have q109 : v41 = v107 := (e108.trans ((frm_f f94 rfl).trans e89.symm)).symm
            subst q109
            refine And.intro (show A91 54 (fd 1) = ((71 : Nat) : Int) by omega) ?_
            refine Exists.intro r66 (Exists.intro 0 (And.intro rfl (And.intro (And.intro i92 (And.intro j93 (And.intro (by omega) (And.intro (by omega) (And.intro g96 (And.intro (by first | assumption | omega | simp_all) (by first | assumption | omega | simp_all))))))) (fun A110 i111 j112 f113 g114 g115 g116 g117 => ?_))))
            have f118 := frm_c f102 f113 rfl
            have t119 := ivf_at j112 12 rfl
            have t120 : A110 54 (fd 3) = A91 54 (fd 3) := (frm_f f113 rfl)
            have t121 : A110 54 (fd 2) = A91 54 (fd 2) := (frm_f f113 rfl)
            have pf122 := PF_tr pf106 g115 (by omega)
            refine fun v123 e124 => ?_
            obtain ⟨v125, e126⟩ : ∃ v, v = A110 54 (fd 0) := ⟨_, rfl⟩
            have q127 : v39 = v125 := (e126.trans ((Eq.trans (frm_f f113 rfl) (frm_f f94 rfl)).trans e86.symm)).symm
            subst q127
            obtain ⟨v128, e129⟩ : ∃ v, v = A110 54 (fd 1) := ⟨_, rfl⟩
            have q130 : v41 = v128 := (e129.trans ((frm_f f113 rfl).trans e108.symm)).symm
            subst q130
            exact And.intro (by omega) (Exists.intro (200 - v123 : Int).toNat (And.intro (by omega) (And.intro i111 (And.intro j112 (And.intro f118 (And.intro rfl (And.intro (by rw [← e126]; omega) (And.intro (by rw [← e129]; omega) (And.intro (by omega) (And.intro (by omega) (And.intro (by omega) (And.intro (by omega) (And.intro (by omega) (And.intro g114 (And.intro pf122 (And.intro (by omega) (And.intro (by omega) (by omega))))))))))))))))))
  · obtain ⟨v11, e12⟩ : ∃ v, v = A 54 (fd 0) := ⟨_, rfl⟩
    have q13 : v7 = v11 := (e12.trans e8.symm).symm
    subst q13
    obtain ⟨v14, e15⟩ : ∃ v, v = A 54 (fd 1) := ⟨_, rfl⟩
    have q16 : v9 = v14 := (e15.trans e10.symm).symm
    subst q16
    refine Exists.intro d (And.intro rfl (And.intro (And.intro i0 (And.intro j0 (And.intro (by omega) (And.intro (by omega) (And.intro (by rw [← e12]; omega) (And.intro (by rw [← e15]; omega) (And.intro p5 (by first | assumption | omega | simp_all)))))))) (fun A17 i18 j19 f20 r21 g26 g27 g22 g23 g24 g25 => ?_)))
    have f28 := frm_c f0 f20 rfl
    have t29 := ivf_at j19 12 rfl
    have t30 := ivf_at j19 1 rfl
    have t31 : A17 54 (fd 2) = A 54 (fd 2) := (frm_f f20 rfl)
    have pf32 := PF_tr pf0 g23 (by omega)
    obtain ⟨v33, e34⟩ : ∃ v, v = A17 54 (fd 0) := ⟨_, rfl⟩
    have q35 : v7 = v33 := (e34.trans ((frm_f f20 rfl).trans e12.symm)).symm
    subst q35
    obtain ⟨v36, e37⟩ : ∃ v, v = A17 54 (fd 1) := ⟨_, rfl⟩
    have q38 : v9 = v36 := (e37.trans ((frm_f f20 rfl).trans e15.symm)).symm
    subst q38
    exact Exists.intro (200 - 0 : Int).toNat (And.intro i18 (And.intro j19 (And.intro f28 (And.intro rfl (And.intro (by rw [← e34]; omega) (And.intro (by rw [← e37]; omega) (And.intro (by omega) (And.intro (by omega) (And.intro (by omega) (And.intro (by omega) (And.intro (by omega) (And.intro g22 (And.intro pf32 (And.intro (by omega) (And.intro (by omega) (by omega))))))))))))))))
def sC_readComparison0_71 : qS := fun as A K => ∃ d : Int, as = [rf 54, ni d] ∧ (iva IC A ∧ ivf JC A ∧ 0 ≤ d ∧ d ≤ 0 ∧ (52 ≤ A 54 (fd 0) ∧ A 54 (fd 0) ≤ 52) ∧ (71 ≤ A 54 (fd 1) ∧ A 54 (fd 1) ≤ 71) ∧ (KO A) ∧ (A 71 (fd 8) ≤ A 54 (fd 3))) ∧ (∀ A' : qA, iva IC A' → ivf JC A' → frm [72, 73] [(71, 8), (54, 3), (54, 4)] A A' → ∀ r : Int, 0 ≤ r → r ≤ 1 → (KO A') → (PF 71 A A') → (A 71 (fd 8) ≤ A' 71 (fd 8)) → (A' 71 (fd 8) + A 54 (fd 3) ≤ A 71 (fd 8) + A' 54 (fd 3)) → K (some (ni r)) A')
theorem okC_readComparison0_71 : okM LC 24 56 sC_readComparison0_71 := by
  refine qmeth [(54, 0, 52), (54, 1, 71)] false [(57, sC_readSum0_71), (46, sC_look_71), (75, sC_putr71), (47, sC_fail_71)] 42 rfl ⟨okC_readSum0_71.le (by decide), ⟨okC_look_71.le (by decide), ⟨okC_putr71.le (by decide), ⟨okC_fail_71.le (by decide), trivial⟩⟩⟩⟩ ?_
  rintro _ A K hA has ⟨d, rfl, ⟨i0, j0, p1, p2, p3, p4, p5, p6⟩, hK⟩
  have rg_d : rng d := has (ni d) (by simp)
  have f0 := frm_0 [72, 73] [(71, 8), (54, 3), (54, 4)] A
  obtain ⟨v7, e8⟩ : ∃ v, v = A 54 (fd 0) := ⟨_, rfl⟩
  rw [← e8] at p3
  obtain ⟨v9, e10⟩ : ∃ v, v = A 54 (fd 1) := ⟨_, rfl⟩
  rw [← e10] at p4
  have pf0 := PF_rf 71 A
  have hb_71_8 := ivf_at j0 12 rfl
  have hb_54_3 := ivf_at j0 1 rfl
  have hb_54_2 := ivf_at j0 0 rfl
  refine ⟨Nat.le_of_ble_eq_true rfl, [], trivial, ?_⟩
  obtain ⟨v11, e12⟩ : ∃ v, v = A 54 (fd 0) := ⟨_, rfl⟩
  have q13 : v7 = v11 := (e12.trans e8.symm).symm
  subst q13
  obtain ⟨v14, e15⟩ : ∃ v, v = A 54 (fd 1) := ⟨_, rfl⟩
  have q16 : v9 = v14 := (e15.trans e10.symm).symm
  subst q16
  refine Exists.intro d (And.intro rfl (And.intro (And.intro i0 (And.intro j0 (And.intro (by omega) (And.intro (by omega) (And.intro (by rw [← e12]; omega) (And.intro (by rw [← e15]; omega) (And.intro p5 (by first | assumption | omega | simp_all)))))))) (fun A17 i18 j19 f20 r21 g26 g27 g22 g23 g24 g25 => ?_)))
  have f28 := frm_c f0 f20 rfl
  have t29 := ivf_at j19 12 rfl
  have t30 := ivf_at j19 1 rfl
  have t31 : A17 54 (fd 2) = A 54 (fd 2) := (frm_f f20 rfl)
  have pf32 := PF_tr pf0 g23 (by omega)
  refine And.intro (fun h33 => ?_) (fun h33 => ?_)
  · obtain ⟨v34, e35⟩ : ∃ v, v = A17 54 (fd 0) := ⟨_, rfl⟩
    have q36 : v7 = v34 := (e35.trans ((frm_f f20 rfl).trans e12.symm)).symm
    subst q36
    obtain ⟨v37, e38⟩ : ∃ v, v = A17 54 (fd 1) := ⟨_, rfl⟩
    have q39 : v9 = v37 := (e38.trans ((frm_f f20 rfl).trans e15.symm)).symm
    subst q39
    refine And.intro rfl (And.intro (And.intro i18 (And.intro j19 (And.intro (by rw [← e35]; omega) (by rw [← e38]; omega)))) (fun r40 g42 g43 g41 => ?_))
    refine fun v44 e45 => ?_
    have h46 := qone_bd 2 r40
    rw [← e45] at h46
    have h47 := qone_p (s := 2) (x := r40) (by omega)
    refine And.intro (fun h48 => ?_) (fun h48 => ?_)
    · refine fun v49 gv49 e50 => ?_
      have b51 := ivf_at j19 1 rfl
      refine fun v52 e53 => ?_
      refine And.intro (by omega) (fun A54 e55 => ?_)
      have i56 := iva_sf i18 e55 rfl
      have j57 := ivf_st j19 e55 (And.intro (by omega) trivial)
      have f58 := frm_sf f28 e55 rfl
      have t59 : A54 71 (fd 8) = A17 71 (fd 8) := (congrFun (st_a e55 rfl) _)
      have t60 := st_v e55
      have t61 : A54 54 (fd 2) = A17 54 (fd 2) := (st_f e55 rfl)
      have kk62 := KO_k g22 (st_a e55 rfl) (st_a e55 rfl) (st_a e55 rfl) (st_a e55 rfl)
      have pf63 := PF_k pf32 (st_a e55 rfl)
      obtain ⟨v64, e65⟩ : ∃ v, v = A54 54 (fd 0) := ⟨_, rfl⟩
      have q66 : v7 = v64 := (e65.trans ((st_f e55 rfl).trans e35.symm)).symm
      subst q66
      obtain ⟨v67, e68⟩ : ∃ v, v = A54 54 (fd 1) := ⟨_, rfl⟩
      have q69 : v9 = v67 := (e68.trans ((st_f e55 rfl).trans e38.symm)).symm
      subst q69
      refine Exists.intro d (And.intro rfl (And.intro (And.intro i56 (And.intro j57 (And.intro (by omega) (And.intro (by omega) (And.intro (by rw [← e65]; omega) (And.intro (by rw [← e68]; omega) (And.intro kk62 (by first | assumption | omega | simp_all)))))))) (fun A70 i71 j72 f73 r74 g79 g80 g75 g76 g77 g78 => ?_)))
      have f81 := frm_c f58 f73 rfl
      have t82 := ivf_at j72 12 rfl
      have t83 := ivf_at j72 1 rfl
      have t84 : A70 54 (fd 2) = A54 54 (fd 2) := (frm_f f73 rfl)
      have pf85 := PF_tr pf63 g76 (by omega)
      refine And.intro (fun h86 => ?_) (fun h86 => ?_)
      · obtain ⟨v87, e88⟩ : ∃ v, v = A70 54 (fd 1) := ⟨_, rfl⟩
        have q89 : v9 = v87 := (e88.trans ((frm_f f73 rfl).trans e68.symm)).symm
        subst q89
        refine And.intro (show A70 54 (fd 1) = ((71 : Nat) : Int) by omega) ?_
        refine Exists.intro r40 (Exists.intro 0 (And.intro rfl (And.intro (And.intro i71 (And.intro j72 (And.intro (by omega) (And.intro (by omega) (And.intro g75 (And.intro (by first | assumption | omega | simp_all) (by first | assumption | omega | simp_all))))))) (fun A90 i91 j92 f93 g94 g95 g96 g97 => ?_))))
        have f98 := frm_c f81 f93 rfl
        have t99 := ivf_at j92 12 rfl
        have t100 : A90 54 (fd 3) = A70 54 (fd 3) := (frm_f f93 rfl)
        have t101 : A90 54 (fd 2) = A70 54 (fd 2) := (frm_f f93 rfl)
        have pf102 := PF_tr pf85 g95 (by omega)
        exact And.intro (by omega) (hK _ i91 j92 f98 _ (by omega) (by omega) g94 pf102 (by first | assumption | omega | simp_all) (by first | assumption | omega | simp_all))
      · exact And.intro (by omega) (hK _ i71 j72 f81 _ (by omega) (by omega) g75 pf85 (by first | assumption | omega | simp_all) (by first | assumption | omega | simp_all))
    · obtain ⟨v103, e104⟩ : ∃ v, v = A17 54 (fd 0) := ⟨_, rfl⟩
      have q105 : v7 = v103 := (e104.trans e35.symm).symm
      subst q105
      obtain ⟨v106, e107⟩ : ∃ v, v = A17 54 (fd 1) := ⟨_, rfl⟩
      have q108 : v9 = v106 := (e107.trans e38.symm).symm
      subst q108
      refine Exists.intro 1 (And.intro rfl (And.intro (And.intro i18 (And.intro j19 (And.intro (by omega) (And.intro (by omega) (And.intro (by rw [← e104]; omega) (by rw [← e107]; omega)))))) (fun A109 i110 j111 f112 => (fun h113 => ?_))))
      · have f114 := frm_c f28 f112 rfl
        have t115 : A109 71 (fd 8) = A17 71 (fd 8) := (frm_f f112 rfl)
        have t116 : A109 54 (fd 3) = A17 54 (fd 3) := (frm_f f112 rfl)
        have t117 : A109 54 (fd 2) = A17 54 (fd 2) := (frm_f f112 rfl)
        have kk118 := KO_fr g22 f112 rfl
        have pf119 := PF_k pf32 (frm_a f112 rfl)
        exact And.intro (by omega) (hK _ i110 j111 f114 _ (by omega) (by omega) kk118 pf119 (by first | assumption | omega | simp_all) (by first | assumption | omega | simp_all))
  · exact And.intro (by omega) (hK _ i18 j19 f28 _ (by omega) (by omega) g22 pf32 (by first | assumption | omega | simp_all) (by first | assumption | omega | simp_all))
def sC_readPiece0_71 : qS := fun as A K => ∃ d : Int, as = [rf 54, ni d] ∧ (iva IC A ∧ ivf JC A ∧ 0 ≤ d ∧ d ≤ 0 ∧ (52 ≤ A 54 (fd 0) ∧ A 54 (fd 0) ≤ 52) ∧ (71 ≤ A 54 (fd 1) ∧ A 54 (fd 1) ≤ 71) ∧ (KO A) ∧ (A 71 (fd 8) ≤ A 54 (fd 3))) ∧ (∀ A' : qA, iva IC A' → ivf JC A' → frm [72, 73] [(71, 8), (54, 3), (54, 4)] A A' → ∀ r : Int, 0 ≤ r → r ≤ 1 → (KO A') → (PF 71 A A') → (A 71 (fd 8) ≤ A' 71 (fd 8)) → (A' 71 (fd 8) + A 54 (fd 3) ≤ A 71 (fd 8) + A' 54 (fd 3)) → K (some (ni r)) A')
theorem okC_readPiece0_71 : okM LC 25 55 sC_readPiece0_71 := by
  refine qmeth [(54, 0, 52), (54, 1, 71)] false [(46, sC_look_71), (56, sC_readComparison0_71), (49, sC_enter_71), (55, sC_readPiece1_71), (75, sC_putr71), (52, sC_readCondition1_71), (48, sC_expect_71)] 56 rfl ⟨okC_look_71.le (by decide), ⟨okC_readComparison0_71.le (by decide), ⟨okC_enter_71.le (by decide), ⟨okC_readPiece1_71.le (by decide), ⟨okC_putr71.le (by decide), ⟨okC_readCondition1_71.le (by decide), ⟨okC_expect_71.le (by decide), trivial⟩⟩⟩⟩⟩⟩⟩ ?_
  rintro _ A K hA has ⟨d, rfl, ⟨i0, j0, p1, p2, p3, p4, p5, p6⟩, hK⟩
  have rg_d : rng d := has (ni d) (by simp)
  have f0 := frm_0 [72, 73] [(71, 8), (54, 3), (54, 4)] A
  obtain ⟨v7, e8⟩ : ∃ v, v = A 54 (fd 0) := ⟨_, rfl⟩
  rw [← e8] at p3
  obtain ⟨v9, e10⟩ : ∃ v, v = A 54 (fd 1) := ⟨_, rfl⟩
  rw [← e10] at p4
  have pf0 := PF_rf 71 A
  have hb_71_8 := ivf_at j0 12 rfl
  have hb_54_3 := ivf_at j0 1 rfl
  have hb_54_2 := ivf_at j0 0 rfl
  refine ⟨Nat.le_of_ble_eq_true rfl, [], trivial, ?_⟩
  obtain ⟨v11, e12⟩ : ∃ v, v = A 54 (fd 0) := ⟨_, rfl⟩
  have q13 : v7 = v11 := (e12.trans e8.symm).symm
  subst q13
  obtain ⟨v14, e15⟩ : ∃ v, v = A 54 (fd 1) := ⟨_, rfl⟩
  have q16 : v9 = v14 := (e15.trans e10.symm).symm
  subst q16
  refine And.intro rfl (And.intro (And.intro i0 (And.intro j0 (And.intro (by rw [← e12]; omega) (by rw [← e15]; omega)))) (fun r17 g19 g20 g18 => ?_))
  refine And.intro (fun h21 => ?_) (fun h21 => ?_)
  · refine And.intro (fun h22 => ?_) (fun h22 => ?_)
    · obtain ⟨v23, e24⟩ : ∃ v, v = A 54 (fd 0) := ⟨_, rfl⟩
      have q25 : v7 = v23 := (e24.trans e12.symm).symm
      subst q25
      obtain ⟨v26, e27⟩ : ∃ v, v = A 54 (fd 1) := ⟨_, rfl⟩
      have q28 : v9 = v26 := (e27.trans e15.symm).symm
      subst q28
      refine Exists.intro d (And.intro rfl (And.intro (And.intro i0 (And.intro j0 (And.intro (by omega) (And.intro (by omega) (And.intro (by rw [← e24]; omega) (And.intro (by rw [← e27]; omega) (And.intro p5 (by first | assumption | omega | simp_all)))))))) (fun A29 i30 j31 f32 r33 g38 g39 g34 g35 g36 g37 => ?_)))
      have f40 := frm_c f0 f32 rfl
      have t41 := ivf_at j31 12 rfl
      have t42 := ivf_at j31 1 rfl
      have t43 : A29 54 (fd 2) = A 54 (fd 2) := (frm_f f32 rfl)
      have pf44 := PF_tr pf0 g35 (by omega)
      exact And.intro (by omega) (hK _ i30 j31 f40 _ (by omega) (by omega) g34 pf44 (by first | assumption | omega | simp_all) (by first | assumption | omega | simp_all))
    · obtain ⟨v45, e46⟩ : ∃ v, v = A 54 (fd 0) := ⟨_, rfl⟩
      have q47 : v7 = v45 := (e46.trans e12.symm).symm
      subst q47
      obtain ⟨v48, e49⟩ : ∃ v, v = A 54 (fd 1) := ⟨_, rfl⟩
      have q50 : v9 = v48 := (e49.trans e15.symm).symm
      subst q50
      refine Exists.intro d (And.intro rfl (And.intro (And.intro i0 (And.intro j0 (And.intro (by omega) (And.intro (by omega) (And.intro (by rw [← e46]; omega) (And.intro (by rw [← e49]; omega) (And.intro p5 (by first | assumption | omega | simp_all)))))))) (fun A51 i52 j53 f54 g55 g56 => (And.intro (fun h57 => ?_) (fun h57 => by exfalso; omega)))))
      · have f58 := frm_c f0 f54 rfl
        have t59 : A51 71 (fd 8) = A 71 (fd 8) := (frm_f f54 rfl)
        have t60 := ivf_at j53 1 rfl
        have t61 : A51 54 (fd 2) = A 54 (fd 2) := (frm_f f54 rfl)
        have kk62 := KO_fr p5 f54 rfl
        have pf63 := PF_k pf0 (frm_a f54 rfl)
        refine And.intro (fun h64 => by exfalso; omega) (fun h64 => ?_)
        refine fun v65 e66 => ?_
        obtain ⟨v67, e68⟩ : ∃ v, v = A51 54 (fd 0) := ⟨_, rfl⟩
        have q69 : v7 = v67 := (e68.trans ((frm_f f54 rfl).trans e46.symm)).symm
        subst q69
        obtain ⟨v70, e71⟩ : ∃ v, v = A51 54 (fd 1) := ⟨_, rfl⟩
        have q72 : v9 = v70 := (e71.trans ((frm_f f54 rfl).trans e49.symm)).symm
        subst q72
        refine And.intro (by omega) (Exists.intro v65 (And.intro rfl (And.intro (And.intro i52 (And.intro j53 (And.intro (by omega) (And.intro (by omega) (And.intro (by rw [← e68]; omega) (And.intro (by rw [← e71]; omega) (And.intro kk62 (by first | assumption | omega | simp_all)))))))) (fun A73 i74 j75 f76 r77 g82 g83 g78 g79 g80 g81 => ?_))))
        have f84 := frm_c f58 f76 rfl
        have t85 := ivf_at j75 12 rfl
        have t86 := ivf_at j75 1 rfl
        have t87 : A73 54 (fd 2) = A51 54 (fd 2) := (frm_f f76 rfl)
        have pf88 := PF_tr pf63 g79 (by omega)
        refine And.intro (fun h89 => ?_) (fun h89 => ?_)
        · obtain ⟨v90, e91⟩ : ∃ v, v = A73 54 (fd 1) := ⟨_, rfl⟩
          have q92 : v9 = v90 := (e91.trans ((frm_f f76 rfl).trans e71.symm)).symm
          subst q92
          refine And.intro (show A73 54 (fd 1) = ((71 : Nat) : Int) by omega) ?_
          refine Exists.intro 33 (Exists.intro 0 (And.intro rfl (And.intro (And.intro i74 (And.intro j75 (And.intro (by omega) (And.intro (by omega) (And.intro g78 (And.intro (by first | assumption | omega | simp_all) (by first | assumption | omega | simp_all))))))) (fun A93 i94 j95 f96 g97 g98 g99 g100 => ?_))))
          have f101 := frm_c f84 f96 rfl
          have t102 := ivf_at j95 12 rfl
          have t103 : A93 54 (fd 3) = A73 54 (fd 3) := (frm_f f96 rfl)
          have t104 : A93 54 (fd 2) = A73 54 (fd 2) := (frm_f f96 rfl)
          have pf105 := PF_tr pf88 g98 (by omega)
          exact And.intro (by omega) (hK _ i94 j95 f101 _ (by omega) (by omega) g97 pf105 (by first | assumption | omega | simp_all) (by first | assumption | omega | simp_all))
        · exact And.intro (by omega) (hK _ i74 j75 f84 _ (by omega) (by omega) g78 pf88 (by first | assumption | omega | simp_all) (by first | assumption | omega | simp_all))
  · obtain ⟨v106, e107⟩ : ∃ v, v = A 54 (fd 0) := ⟨_, rfl⟩
    have q108 : v7 = v106 := (e107.trans e12.symm).symm
    subst q108
    obtain ⟨v109, e110⟩ : ∃ v, v = A 54 (fd 1) := ⟨_, rfl⟩
    have q111 : v9 = v109 := (e110.trans e15.symm).symm
    subst q111
    refine Exists.intro d (And.intro rfl (And.intro (And.intro i0 (And.intro j0 (And.intro (by omega) (And.intro (by omega) (And.intro (by rw [← e107]; omega) (And.intro (by rw [← e110]; omega) (And.intro p5 (by first | assumption | omega | simp_all)))))))) (fun A112 i113 j114 f115 g116 g117 => (And.intro (fun h118 => ?_) (fun h118 => by exfalso; omega)))))
    · have f119 := frm_c f0 f115 rfl
      have t120 : A112 71 (fd 8) = A 71 (fd 8) := (frm_f f115 rfl)
      have t121 := ivf_at j114 1 rfl
      have t122 : A112 54 (fd 2) = A 54 (fd 2) := (frm_f f115 rfl)
      have kk123 := KO_fr p5 f115 rfl
      have pf124 := PF_k pf0 (frm_a f115 rfl)
      refine And.intro (fun h125 => by exfalso; omega) (fun h125 => ?_)
      refine fun v126 e127 => ?_
      obtain ⟨v128, e129⟩ : ∃ v, v = A112 54 (fd 0) := ⟨_, rfl⟩
      have q130 : v7 = v128 := (e129.trans ((frm_f f115 rfl).trans e107.symm)).symm
      subst q130
      obtain ⟨v131, e132⟩ : ∃ v, v = A112 54 (fd 1) := ⟨_, rfl⟩
      have q133 : v9 = v131 := (e132.trans ((frm_f f115 rfl).trans e110.symm)).symm
      subst q133
      refine And.intro (by omega) (Exists.intro v126 (And.intro rfl (And.intro (And.intro i113 (And.intro j114 (And.intro (by omega) (And.intro (by omega) (And.intro (by rw [← e129]; omega) (And.intro (by rw [← e132]; omega) (And.intro kk123 (by first | assumption | omega | simp_all)))))))) (fun A134 i135 j136 f137 r138 g143 g144 g139 g140 g141 g142 => ?_))))
      have f145 := frm_c f119 f137 rfl
      have t146 := ivf_at j136 12 rfl
      have t147 := ivf_at j136 1 rfl
      have t148 : A134 54 (fd 2) = A112 54 (fd 2) := (frm_f f137 rfl)
      have pf149 := PF_tr pf124 g140 (by omega)
      refine And.intro (fun h150 => ?_) (fun h150 => ?_)
      · exact And.intro (by omega) (hK _ i135 j136 f145 _ (by omega) (by omega) g139 pf149 (by first | assumption | omega | simp_all) (by first | assumption | omega | simp_all))
      · obtain ⟨v151, e152⟩ : ∃ v, v = A134 54 (fd 0) := ⟨_, rfl⟩
        have q153 : v7 = v151 := (e152.trans ((frm_f f137 rfl).trans e129.symm)).symm
        subst q153
        obtain ⟨v154, e155⟩ : ∃ v, v = A134 54 (fd 1) := ⟨_, rfl⟩
        have q156 : v9 = v154 := (e155.trans ((frm_f f137 rfl).trans e132.symm)).symm
        subst q156
        refine Exists.intro 41 (And.intro rfl (And.intro (And.intro i135 (And.intro j136 (And.intro (by omega) (And.intro (by omega) (And.intro (by rw [← e152]; omega) (And.intro (by rw [← e155]; omega) (And.intro g139 (by first | assumption | omega | simp_all)))))))) (fun A157 i158 j159 f160 r161 g163 g164 g162 => ?_)))
        have f165 := frm_c f145 f160 rfl
        have t166 : A157 71 (fd 8) = A134 71 (fd 8) := (frm_f f160 rfl)
        have t167 := ivf_at j159 1 rfl
        have t168 : A157 54 (fd 2) = A134 54 (fd 2) := (frm_f f160 rfl)
        have kk169 := KO_fr g139 f160 rfl
        have pf170 := PF_k pf149 (frm_a f160 rfl)
        refine And.intro (fun h171 => ?_) (fun h171 => ?_)
        · exact And.intro (by omega) (hK _ i158 j159 f165 _ (by omega) (by omega) kk169 pf170 (by first | assumption | omega | simp_all) (by first | assumption | omega | simp_all))
        · exact And.intro (by omega) (hK _ i158 j159 f165 _ (by omega) (by omega) kk169 pf170 (by first | assumption | omega | simp_all) (by first | assumption | omega | simp_all))
def sC_readPart0_71 : qS := fun as A K => ∃ d : Int, as = [rf 54, ni d] ∧ (iva IC A ∧ ivf JC A ∧ 0 ≤ d ∧ d ≤ 0 ∧ (52 ≤ A 54 (fd 0) ∧ A 54 (fd 0) ≤ 52) ∧ (71 ≤ A 54 (fd 1) ∧ A 54 (fd 1) ≤ 71) ∧ (KO A) ∧ (A 71 (fd 8) ≤ A 54 (fd 3))) ∧ (∀ A' : qA, iva IC A' → ivf JC A' → frm [72, 73] [(71, 8), (54, 3), (54, 4)] A A' → ∀ r : Int, 0 ≤ r → r ≤ 1 → (KO A') → (PF 71 A A') → (A 71 (fd 8) ≤ A' 71 (fd 8)) → (A' 71 (fd 8) + A 54 (fd 3) ≤ A 71 (fd 8) + A' 54 (fd 3)) → K (some (ni r)) A')
theorem okC_readPart0_71 : okM LC 26 53 sC_readPart0_71 := by
  refine qmeth [(54, 0, 52), (54, 1, 71)] false [(55, sC_readPiece0_71), (46, sC_look_71), (54, sC_readJump_71)] 40 rfl ⟨okC_readPiece0_71.le (by decide), ⟨okC_look_71.le (by decide), ⟨okC_readJump_71.le (by decide), trivial⟩⟩⟩ ?_
  rintro _ A K hA has ⟨d, rfl, ⟨i0, j0, p1, p2, p3, p4, p5, p6⟩, hK⟩
  have rg_d : rng d := has (ni d) (by simp)
  have f0 := frm_0 [72, 73] [(71, 8), (54, 3), (54, 4)] A
  obtain ⟨v7, e8⟩ : ∃ v, v = A 54 (fd 0) := ⟨_, rfl⟩
  rw [← e8] at p3
  obtain ⟨v9, e10⟩ : ∃ v, v = A 54 (fd 1) := ⟨_, rfl⟩
  rw [← e10] at p4
  have pf0 := PF_rf 71 A
  have hb_71_8 := ivf_at j0 12 rfl
  have hb_54_3 := ivf_at j0 1 rfl
  have hb_54_2 := ivf_at j0 0 rfl
  refine ⟨Nat.le_of_ble_eq_true rfl, [(6, [(0, 2, 54), (1, 0, 0), (2, 0, 0), (3, 0, 0)], fun zs B nn => match zs with | [l1, w, i] => iva IC B ∧ ivf JC B ∧ frm [72, 73] [(71, 8), (54, 3), (54, 4)] A B ∧ nn = (200 - i : Int).toNat ∧ (52 ≤ B 54 (fd 0) ∧ B 54 (fd 0) ≤ 52) ∧ (71 ≤ B 54 (fd 1) ∧ B 54 (fd 1) ≤ 71) ∧ (l1 = d) ∧ (0 ≤ i) ∧ (i ≤ 200) ∧ (0 ≤ w) ∧ (w ≤ 1) ∧ (KO B) ∧ (PF 71 A B) ∧ (A 71 (fd 8) ≤ B 71 (fd 8)) ∧ (B 71 (fd 8) + A 54 (fd 3) ≤ A 71 (fd 8) + B 54 (fd 3)) ∧ (B 71 (fd 8) ≤ B 54 (fd 3)) | _ => False)], ?_, ?_⟩
  · refine ⟨⟨rfl, ?_⟩, trivial⟩
    · refine fun l1 w i B mm hB hz hI => ?_
      obtain ⟨i1, j1, f1, hm, d0, d1, c0, c1, c2, c3, c4, c5, c6, c7, c8, c9⟩ := hI
      obtain ⟨hz_l1, hz_w, hz_i, _⟩ := hz
      obtain ⟨v39, e40⟩ : ∃ v, v = B 54 (fd 0) := ⟨_, rfl⟩
      rw [← e40] at d0
      obtain ⟨v41, e42⟩ : ∃ v, v = B 54 (fd 1) := ⟨_, rfl⟩
      rw [← e42] at d1
      have hc_71_8 := ivf_at j1 12 rfl
      have hc_54_3 := ivf_at j1 1 rfl
      have hc_54_2 := ivf_at j1 0 rfl
      have hc_t : B 54 (fd 2) = A 54 (fd 2) := frm_f f1 rfl
      have hc_w : B 53 = A 53 := frm_a f1 rfl
      refine And.intro (fun h43 => ?_) (fun h43 => ?_)
      · exact And.intro (by omega) (hK _ i1 j1 f1 _ (by omega) (by omega) c5 c6 (by first | assumption | omega | simp_all) (by first | assumption | omega | simp_all))
      · refine And.intro (fun h44 => ?_) (fun h44 => ?_)
        · exact And.intro (by omega) (hK _ i1 j1 f1 _ (by omega) (by omega) c5 c6 (by first | assumption | omega | simp_all) (by first | assumption | omega | simp_all))
        · obtain ⟨v45, e46⟩ : ∃ v, v = B 54 (fd 0) := ⟨_, rfl⟩
          have q47 : v39 = v45 := (e46.trans e40.symm).symm
          subst q47
          obtain ⟨v48, e49⟩ : ∃ v, v = B 54 (fd 1) := ⟨_, rfl⟩
          have q50 : v41 = v48 := (e49.trans e42.symm).symm
          subst q50
          refine And.intro rfl (And.intro (And.intro i1 (And.intro j1 (And.intro (by rw [← e46]; omega) (by rw [← e49]; omega)))) (fun r51 g53 g54 g52 => ?_))
          refine And.intro (fun h55 => ?_) (fun h55 => ?_)
          · exact And.intro (by omega) (hK _ i1 j1 f1 _ (by omega) (by omega) c5 c6 (by first | assumption | omega | simp_all) (by first | assumption | omega | simp_all))
          · obtain ⟨v56, e57⟩ : ∃ v, v = B 54 (fd 0) := ⟨_, rfl⟩
            have q58 : v39 = v56 := (e57.trans e46.symm).symm
            subst q58
            obtain ⟨v59, e60⟩ : ∃ v, v = B 54 (fd 1) := ⟨_, rfl⟩
            have q61 : v41 = v59 := (e60.trans e49.symm).symm
            subst q61
            refine And.intro rfl (And.intro (And.intro i1 (And.intro j1 (And.intro (by rw [← e57]; omega) (And.intro (by rw [← e60]; omega) (And.intro c5 (And.intro (by first | assumption | omega | simp_all) (And.intro (by first | assumption | omega | simp_all) (by first | assumption | omega | simp_all)))))))) (fun A62 i63 j64 f65 r66 g73 g74 g67 g68 g69 g70 g71 g72 => ?_))
            have f75 := frm_c f1 f65 rfl
            have t76 := ivf_at j64 12 rfl
            have t77 := ivf_at j64 1 rfl
            have t78 : A62 54 (fd 2) = B 54 (fd 2) := (frm_f f65 rfl)
            have pf79 := PF_tr c6 g68 (by omega)
            obtain ⟨v80, e81⟩ : ∃ v, v = A62 54 (fd 0) := ⟨_, rfl⟩
            have q82 : v39 = v80 := (e81.trans ((frm_f f65 rfl).trans e57.symm)).symm
            subst q82
            obtain ⟨v83, e84⟩ : ∃ v, v = A62 54 (fd 1) := ⟨_, rfl⟩
            have q85 : v41 = v83 := (e84.trans ((frm_f f65 rfl).trans e60.symm)).symm
            subst q85
            refine Exists.intro l1 (And.intro rfl (And.intro (And.intro i63 (And.intro j64 (And.intro (by omega) (And.intro (by omega) (And.intro (by rw [← e81]; omega) (And.intro (by rw [← e84]; omega) (And.intro g67 (by first | assumption | omega | simp_all)))))))) (fun A86 i87 j88 f89 r90 g95 g96 g91 g92 g93 g94 => ?_)))
            have f97 := frm_c f75 f89 rfl
            have t98 := ivf_at j88 12 rfl
            have t99 := ivf_at j88 1 rfl
            have t100 : A86 54 (fd 2) = A62 54 (fd 2) := (frm_f f89 rfl)
            have pf101 := PF_tr pf79 g92 (by omega)
            obtain ⟨v102, e103⟩ : ∃ v, v = A86 54 (fd 1) := ⟨_, rfl⟩
            have q104 : v41 = v102 := (e103.trans ((frm_f f89 rfl).trans e84.symm)).symm
            subst q104
            refine And.intro (show A86 54 (fd 1) = ((71 : Nat) : Int) by omega) ?_
            obtain ⟨v105, e106⟩ : ∃ v, v = A86 54 (fd 1) := ⟨_, rfl⟩
            have q107 : v41 = v105 := (e106.trans e103.symm).symm
            subst q107
            refine And.intro (show A86 54 (fd 1) = ((71 : Nat) : Int) by omega) ?_
            refine fun v108 gv108 e109 => ?_
            have b110 := ivf_at j88 12 rfl
            have hjump : A86 72 r66 ≠ 107 := by have q1 := g92 r66 (by omega) (by omega); simp only [Nat.reduceAdd] at q1; have q2 := g72; omega
            refine And.intro (by omega) (fun A111 e112 => ?_)
            have i113 := iva_st i87 e112 (And.intro (by omega) trivial)
            have j114 := ivf_sa j88 e112 rfl
            have f115 := frm_s f97 e112 rfl
            have t116 : A111 71 (fd 8) = A86 71 (fd 8) := (congrFun (st_a e112 rfl) _)
            have t117 : A111 54 (fd 3) = A86 54 (fd 3) := (congrFun (st_a e112 rfl) _)
            have t118 : A111 54 (fd 2) = A86 54 (fd 2) := (congrFun (st_a e112 rfl) _)
            have kk119 := KO_o73 g91 e112 hjump
            have pf120 := PF_k pf101 (st_a e112 rfl)
            refine fun v121 e122 => ?_
            obtain ⟨v123, e124⟩ : ∃ v, v = A111 54 (fd 0) := ⟨_, rfl⟩
            have q125 : v39 = v123 := (e124.trans ((Eq.trans (congrFun (st_a e112 rfl) _) (frm_f f89 rfl)).trans e81.symm)).symm
            subst q125
            obtain ⟨v126, e127⟩ : ∃ v, v = A111 54 (fd 1) := ⟨_, rfl⟩
            have q128 : v41 = v126 := (e127.trans ((congrFun (st_a e112 rfl) _).trans e106.symm)).symm
            subst q128
            exact And.intro (by omega) (Exists.intro (200 - v121 : Int).toNat (And.intro (by omega) (And.intro i113 (And.intro j114 (And.intro f115 (And.intro rfl (And.intro (by rw [← e124]; omega) (And.intro (by rw [← e127]; omega) (And.intro (by omega) (And.intro (by omega) (And.intro (by omega) (And.intro (by omega) (And.intro (by omega) (And.intro kk119 (And.intro pf120 (And.intro (by omega) (And.intro (by omega) (by omega))))))))))))))))))
  · obtain ⟨v11, e12⟩ : ∃ v, v = A 54 (fd 0) := ⟨_, rfl⟩
    have q13 : v7 = v11 := (e12.trans e8.symm).symm
    subst q13
    obtain ⟨v14, e15⟩ : ∃ v, v = A 54 (fd 1) := ⟨_, rfl⟩
    have q16 : v9 = v14 := (e15.trans e10.symm).symm
    subst q16
    refine Exists.intro d (And.intro rfl (And.intro (And.intro i0 (And.intro j0 (And.intro (by omega) (And.intro (by omega) (And.intro (by rw [← e12]; omega) (And.intro (by rw [← e15]; omega) (And.intro p5 (by first | assumption | omega | simp_all)))))))) (fun A17 i18 j19 f20 r21 g26 g27 g22 g23 g24 g25 => ?_)))
    have f28 := frm_c f0 f20 rfl
    have t29 := ivf_at j19 12 rfl
    have t30 := ivf_at j19 1 rfl
    have t31 : A17 54 (fd 2) = A 54 (fd 2) := (frm_f f20 rfl)
    have pf32 := PF_tr pf0 g23 (by omega)
    obtain ⟨v33, e34⟩ : ∃ v, v = A17 54 (fd 0) := ⟨_, rfl⟩
    have q35 : v7 = v33 := (e34.trans ((frm_f f20 rfl).trans e12.symm)).symm
    subst q35
    obtain ⟨v36, e37⟩ : ∃ v, v = A17 54 (fd 1) := ⟨_, rfl⟩
    have q38 : v9 = v36 := (e37.trans ((frm_f f20 rfl).trans e15.symm)).symm
    subst q38
    exact Exists.intro (200 - 0 : Int).toNat (And.intro i18 (And.intro j19 (And.intro f28 (And.intro rfl (And.intro (by rw [← e34]; omega) (And.intro (by rw [← e37]; omega) (And.intro (by omega) (And.intro (by omega) (And.intro (by omega) (And.intro (by omega) (And.intro (by omega) (And.intro g22 (And.intro pf32 (And.intro (by omega) (And.intro (by omega) (by omega))))))))))))))))
def sC_readCondition0_71 : qS := fun as A K => ∃ d : Int, as = [rf 54, ni d] ∧ (iva IC A ∧ ivf JC A ∧ 0 ≤ d ∧ d ≤ 0 ∧ (52 ≤ A 54 (fd 0) ∧ A 54 (fd 0) ≤ 52) ∧ (71 ≤ A 54 (fd 1) ∧ A 54 (fd 1) ≤ 71) ∧ (KO A) ∧ (A 71 (fd 8) ≤ A 54 (fd 3))) ∧ (∀ A' : qA, iva IC A' → ivf JC A' → frm [72, 73] [(71, 8), (54, 3), (54, 4)] A A' → ∀ r : Int, 0 ≤ r → r ≤ 1 → (KO A') → (PF 71 A A') → (A 71 (fd 8) ≤ A' 71 (fd 8)) → (A' 71 (fd 8) + A 54 (fd 3) ≤ A 71 (fd 8) + A' 54 (fd 3)) → K (some (ni r)) A')
theorem okC_readCondition0_71 : okM LC 27 52 sC_readCondition0_71 := by
  refine qmeth [(54, 0, 52), (54, 1, 71)] false [(53, sC_readPart0_71), (46, sC_look_71), (54, sC_readJump_71)] 40 rfl ⟨okC_readPart0_71.le (by decide), ⟨okC_look_71.le (by decide), ⟨okC_readJump_71.le (by decide), trivial⟩⟩⟩ ?_
  rintro _ A K hA has ⟨d, rfl, ⟨i0, j0, p1, p2, p3, p4, p5, p6⟩, hK⟩
  have rg_d : rng d := has (ni d) (by simp)
  have f0 := frm_0 [72, 73] [(71, 8), (54, 3), (54, 4)] A
  obtain ⟨v7, e8⟩ : ∃ v, v = A 54 (fd 0) := ⟨_, rfl⟩
  rw [← e8] at p3
  obtain ⟨v9, e10⟩ : ∃ v, v = A 54 (fd 1) := ⟨_, rfl⟩
  rw [← e10] at p4
  have pf0 := PF_rf 71 A
  have hb_71_8 := ivf_at j0 12 rfl
  have hb_54_3 := ivf_at j0 1 rfl
  have hb_54_2 := ivf_at j0 0 rfl
  refine ⟨Nat.le_of_ble_eq_true rfl, [(6, [(0, 2, 54), (1, 0, 0), (2, 0, 0), (3, 0, 0)], fun zs B nn => match zs with | [l1, w, i] => iva IC B ∧ ivf JC B ∧ frm [72, 73] [(71, 8), (54, 3), (54, 4)] A B ∧ nn = (200 - i : Int).toNat ∧ (52 ≤ B 54 (fd 0) ∧ B 54 (fd 0) ≤ 52) ∧ (71 ≤ B 54 (fd 1) ∧ B 54 (fd 1) ≤ 71) ∧ (l1 = d) ∧ (0 ≤ i) ∧ (i ≤ 200) ∧ (0 ≤ w) ∧ (w ≤ 1) ∧ (KO B) ∧ (PF 71 A B) ∧ (A 71 (fd 8) ≤ B 71 (fd 8)) ∧ (B 71 (fd 8) + A 54 (fd 3) ≤ A 71 (fd 8) + B 54 (fd 3)) ∧ (B 71 (fd 8) ≤ B 54 (fd 3)) | _ => False)], ?_, ?_⟩
  · refine ⟨⟨rfl, ?_⟩, trivial⟩
    · refine fun l1 w i B mm hB hz hI => ?_
      obtain ⟨i1, j1, f1, hm, d0, d1, c0, c1, c2, c3, c4, c5, c6, c7, c8, c9⟩ := hI
      obtain ⟨hz_l1, hz_w, hz_i, _⟩ := hz
      obtain ⟨v39, e40⟩ : ∃ v, v = B 54 (fd 0) := ⟨_, rfl⟩
      rw [← e40] at d0
      obtain ⟨v41, e42⟩ : ∃ v, v = B 54 (fd 1) := ⟨_, rfl⟩
      rw [← e42] at d1
      have hc_71_8 := ivf_at j1 12 rfl
      have hc_54_3 := ivf_at j1 1 rfl
      have hc_54_2 := ivf_at j1 0 rfl
      have hc_t : B 54 (fd 2) = A 54 (fd 2) := frm_f f1 rfl
      have hc_w : B 53 = A 53 := frm_a f1 rfl
      refine And.intro (fun h43 => ?_) (fun h43 => ?_)
      · exact And.intro (by omega) (hK _ i1 j1 f1 _ (by omega) (by omega) c5 c6 (by first | assumption | omega | simp_all) (by first | assumption | omega | simp_all))
      · refine And.intro (fun h44 => ?_) (fun h44 => ?_)
        · exact And.intro (by omega) (hK _ i1 j1 f1 _ (by omega) (by omega) c5 c6 (by first | assumption | omega | simp_all) (by first | assumption | omega | simp_all))
        · obtain ⟨v45, e46⟩ : ∃ v, v = B 54 (fd 0) := ⟨_, rfl⟩
          have q47 : v39 = v45 := (e46.trans e40.symm).symm
          subst q47
          obtain ⟨v48, e49⟩ : ∃ v, v = B 54 (fd 1) := ⟨_, rfl⟩
          have q50 : v41 = v48 := (e49.trans e42.symm).symm
          subst q50
          refine And.intro rfl (And.intro (And.intro i1 (And.intro j1 (And.intro (by rw [← e46]; omega) (by rw [← e49]; omega)))) (fun r51 g53 g54 g52 => ?_))
          refine And.intro (fun h55 => ?_) (fun h55 => ?_)
          · exact And.intro (by omega) (hK _ i1 j1 f1 _ (by omega) (by omega) c5 c6 (by first | assumption | omega | simp_all) (by first | assumption | omega | simp_all))
          · obtain ⟨v56, e57⟩ : ∃ v, v = B 54 (fd 0) := ⟨_, rfl⟩
            have q58 : v39 = v56 := (e57.trans e46.symm).symm
            subst q58
            obtain ⟨v59, e60⟩ : ∃ v, v = B 54 (fd 1) := ⟨_, rfl⟩
            have q61 : v41 = v59 := (e60.trans e49.symm).symm
            subst q61
            refine And.intro rfl (And.intro (And.intro i1 (And.intro j1 (And.intro (by rw [← e57]; omega) (And.intro (by rw [← e60]; omega) (And.intro c5 (And.intro (by first | assumption | omega | simp_all) (And.intro (by first | assumption | omega | simp_all) (by first | assumption | omega | simp_all)))))))) (fun A62 i63 j64 f65 r66 g73 g74 g67 g68 g69 g70 g71 g72 => ?_))
            have f75 := frm_c f1 f65 rfl
            have t76 := ivf_at j64 12 rfl
            have t77 := ivf_at j64 1 rfl
            have t78 : A62 54 (fd 2) = B 54 (fd 2) := (frm_f f65 rfl)
            have pf79 := PF_tr c6 g68 (by omega)
            obtain ⟨v80, e81⟩ : ∃ v, v = A62 54 (fd 0) := ⟨_, rfl⟩
            have q82 : v39 = v80 := (e81.trans ((frm_f f65 rfl).trans e57.symm)).symm
            subst q82
            obtain ⟨v83, e84⟩ : ∃ v, v = A62 54 (fd 1) := ⟨_, rfl⟩
            have q85 : v41 = v83 := (e84.trans ((frm_f f65 rfl).trans e60.symm)).symm
            subst q85
            refine Exists.intro l1 (And.intro rfl (And.intro (And.intro i63 (And.intro j64 (And.intro (by omega) (And.intro (by omega) (And.intro (by rw [← e81]; omega) (And.intro (by rw [← e84]; omega) (And.intro g67 (by first | assumption | omega | simp_all)))))))) (fun A86 i87 j88 f89 r90 g95 g96 g91 g92 g93 g94 => ?_)))
            have f97 := frm_c f75 f89 rfl
            have t98 := ivf_at j88 12 rfl
            have t99 := ivf_at j88 1 rfl
            have t100 : A86 54 (fd 2) = A62 54 (fd 2) := (frm_f f89 rfl)
            have pf101 := PF_tr pf79 g92 (by omega)
            obtain ⟨v102, e103⟩ : ∃ v, v = A86 54 (fd 1) := ⟨_, rfl⟩
            have q104 : v41 = v102 := (e103.trans ((frm_f f89 rfl).trans e84.symm)).symm
            subst q104
            refine And.intro (show A86 54 (fd 1) = ((71 : Nat) : Int) by omega) ?_
            obtain ⟨v105, e106⟩ : ∃ v, v = A86 54 (fd 1) := ⟨_, rfl⟩
            have q107 : v41 = v105 := (e106.trans e103.symm).symm
            subst q107
            refine And.intro (show A86 54 (fd 1) = ((71 : Nat) : Int) by omega) ?_
            refine fun v108 gv108 e109 => ?_
            have b110 := ivf_at j88 12 rfl
            have hjump : A86 72 r66 ≠ 107 := by have q1 := g92 r66 (by omega) (by omega); simp only [Nat.reduceAdd] at q1; have q2 := g72; omega
            refine And.intro (by omega) (fun A111 e112 => ?_)
            have i113 := iva_st i87 e112 (And.intro (by omega) trivial)
            have j114 := ivf_sa j88 e112 rfl
            have f115 := frm_s f97 e112 rfl
            have t116 : A111 71 (fd 8) = A86 71 (fd 8) := (congrFun (st_a e112 rfl) _)
            have t117 : A111 54 (fd 3) = A86 54 (fd 3) := (congrFun (st_a e112 rfl) _)
            have t118 : A111 54 (fd 2) = A86 54 (fd 2) := (congrFun (st_a e112 rfl) _)
            have kk119 := KO_o73 g91 e112 hjump
            have pf120 := PF_k pf101 (st_a e112 rfl)
            refine fun v121 e122 => ?_
            obtain ⟨v123, e124⟩ : ∃ v, v = A111 54 (fd 0) := ⟨_, rfl⟩
            have q125 : v39 = v123 := (e124.trans ((Eq.trans (congrFun (st_a e112 rfl) _) (frm_f f89 rfl)).trans e81.symm)).symm
            subst q125
            obtain ⟨v126, e127⟩ : ∃ v, v = A111 54 (fd 1) := ⟨_, rfl⟩
            have q128 : v41 = v126 := (e127.trans ((congrFun (st_a e112 rfl) _).trans e106.symm)).symm
            subst q128
            exact And.intro (by omega) (Exists.intro (200 - v121 : Int).toNat (And.intro (by omega) (And.intro i113 (And.intro j114 (And.intro f115 (And.intro rfl (And.intro (by rw [← e124]; omega) (And.intro (by rw [← e127]; omega) (And.intro (by omega) (And.intro (by omega) (And.intro (by omega) (And.intro (by omega) (And.intro (by omega) (And.intro kk119 (And.intro pf120 (And.intro (by omega) (And.intro (by omega) (by omega))))))))))))))))))
  · obtain ⟨v11, e12⟩ : ∃ v, v = A 54 (fd 0) := ⟨_, rfl⟩
    have q13 : v7 = v11 := (e12.trans e8.symm).symm
    subst q13
    obtain ⟨v14, e15⟩ : ∃ v, v = A 54 (fd 1) := ⟨_, rfl⟩
    have q16 : v9 = v14 := (e15.trans e10.symm).symm
    subst q16
    refine Exists.intro d (And.intro rfl (And.intro (And.intro i0 (And.intro j0 (And.intro (by omega) (And.intro (by omega) (And.intro (by rw [← e12]; omega) (And.intro (by rw [← e15]; omega) (And.intro p5 (by first | assumption | omega | simp_all)))))))) (fun A17 i18 j19 f20 r21 g26 g27 g22 g23 g24 g25 => ?_)))
    have f28 := frm_c f0 f20 rfl
    have t29 := ivf_at j19 12 rfl
    have t30 := ivf_at j19 1 rfl
    have t31 : A17 54 (fd 2) = A 54 (fd 2) := (frm_f f20 rfl)
    have pf32 := PF_tr pf0 g23 (by omega)
    obtain ⟨v33, e34⟩ : ∃ v, v = A17 54 (fd 0) := ⟨_, rfl⟩
    have q35 : v7 = v33 := (e34.trans ((frm_f f20 rfl).trans e12.symm)).symm
    subst q35
    obtain ⟨v36, e37⟩ : ∃ v, v = A17 54 (fd 1) := ⟨_, rfl⟩
    have q38 : v9 = v36 := (e37.trans ((frm_f f20 rfl).trans e15.symm)).symm
    subst q38
    exact Exists.intro (200 - 0 : Int).toNat (And.intro i18 (And.intro j19 (And.intro f28 (And.intro rfl (And.intro (by rw [← e34]; omega) (And.intro (by rw [← e37]; omega) (And.intro (by omega) (And.intro (by omega) (And.intro (by omega) (And.intro (by omega) (And.intro (by omega) (And.intro g22 (And.intro pf32 (And.intro (by omega) (And.intro (by omega) (by omega))))))))))))))))
