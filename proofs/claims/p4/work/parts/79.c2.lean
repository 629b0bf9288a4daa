theorem qone_bd (s : Nat) (x : Int) : 0 ≤ qone s x ∧ qone s x ≤ 1 := by
  unfold qone pv_one
  split <;> decide
theorem qix_bd (s : Nat) (x : Int) : -1 ≤ qix s x ∧ qix s x ≤ 13 := by
  have gen : ∀ (y : Int32) (bs : List Nat) (k : Nat), k + bs.length ≤ 14 → -1 ≤ (pv_ixF y bs k).toInt ∧ (pv_ixF y bs k).toInt ≤ 13 := by
    intro y bs
    induction bs with
    | nil =>
      intro k _
      have e : (pv_ixF y [] k).toInt = -1 := rfl
      rw [e]; omega
    | cons b bs ih =>
      intro k hk
      simp only [List.length_cons] at hk
      unfold pv_ixF
      split
      · have e : (Int32.ofNat k).toInt = (k : Int) := iI_to (z := (k : Int)) ⟨by omega, by omega⟩
        rw [e]; omega
      · exact ih (k + 1) (by omega)
  refine gen _ _ 0 ?_
  rcases s with _ | _ | _ | _ | _ | s <;> first | decide | exact Nat.zero_le _
def LW (A : qA) : Prop := A 34 (fd 4) = 36 ∨ A 34 (fd 4) = 71
theorem LW_fr {W : List Nat} {V : List (Nat × Nat)} {A A' : qA} (h : LW A) (f : frm W V A A') (c : (noW 34 W && noVf 34 4 V) = true) : LW A' := by
  unfold LW
  rw [frm_f f c]
  exact h
/-- a letter's step names a letter -/
def KO (A : qA) : Prop := (∀ i, 0 ≤ i → i < 200 → A 37 i = 107 → 0 ≤ A 38 i ∧ A 38 i ≤ 13) ∧ (∀ i, 0 ≤ i → i < 200 → A 72 i = 107 → 0 ≤ A 73 i ∧ A 73 i ≤ 13)
theorem KO_fr {W : List Nat} {V : List (Nat × Nat)} {A A' : qA} (h : KO A) (f : frm W V A A') (c : ((noW 37 W && noV 37 V) && (noW 38 W && noV 38 V) && (noW 72 W && noV 72 V) && (noW 73 W && noV 73 V)) = true) : KO A' := by
  simp only [Bool.and_eq_true] at c
  obtain ⟨⟨⟨⟨a1, a2⟩, ⟨b1, b2⟩⟩, ⟨c1, c2⟩⟩, ⟨d1, d2⟩⟩ := c
  unfold KO
  rw [frm_a f (by rw [a1, a2]; rfl), frm_a f (by rw [b1, b2]; rfl), frm_a f (by rw [c1, c2]; rfl), frm_a f (by rw [d1, d2]; rfl)]
  exact h
theorem okM_or {L : List qY} {D j : Nat} {s s1 s2 : qS} (h1 : okM L D j s1) (h2 : okM L D j s2) (h : ∀ as A K, s as A K → s1 as A K ∨ s2 as A K) : okM L D j s := by
  intro d hd as A K hA has hs
  rcases h as A K hs with q | q
  · exact h1 d hd as A K hA has q
  · exact h2 d hd as A K hA has q
def sC_carries : qS := fun as A K => ∃ w c l : Int, as = [rf 15, ni w, ni c, ni l] ∧ (iva IC A ∧ ivf JC A ∧ 1 ≤ w ∧ w ≤ 99 ∧ 0 ≤ c ∧ c ≤ 7 ∧ 0 ≤ l ∧ l ≤ 5) ∧ (∀ r : Int, 0 ≤ r → r ≤ 1 → K (some (ni r)) A)
theorem okC_carries : okM LC 1 1 sC_carries := by
  refine qmeth [] false [] 20 rfl trivial ?_
  rintro _ A K hA has ⟨w, c, l, rfl, ⟨i0, j0, p1, p2, p3, p4, p5, p6⟩, hK⟩
  have rg_w : rng w := has (ni w) (by simp)
  have rg_c : rng c := has (ni c) (by simp)
  have rg_l : rng l := has (ni l) (by simp)
  have f0 := frm_0 [] [] A
  refine ⟨Nat.le_of_ble_eq_true rfl, [], trivial, ?_⟩
  refine fun v7 e8 => ?_
  refine fun v9 e10 => ?_
  refine And.intro (by omega) (fun v11 gv11 e12 => ?_)
  have b13 := iva_at i0 15 rfl (i := c) (by omega) (by omega)
  refine And.intro (by omega) (And.intro (fun h14 => ?_) (fun h14 => ?_))
  · exact And.intro (by omega) (hK _ (by omega) (by omega))
  · exact And.intro (by omega) (hK _ (by omega) (by omega))
def sC_browFact : qS := fun as A K => ∃ c w : Int, as = [rf 15, ni c, ni w] ∧ (iva IC A ∧ ivf JC A ∧ 0 ≤ c ∧ c ≤ 7) ∧ (∀ r : Int, rng r → K (some (ni r)) A)
theorem okC_browFact : okM LC 1 2 sC_browFact := by
  refine qmeth [] false [] 30 rfl trivial ?_
  rintro _ A K hA has ⟨c, w, rfl, ⟨i0, j0, p1, p2⟩, hK⟩
  have rg_c : rng c := has (ni c) (by simp)
  have rg_w : rng w := has (ni w) (by simp)
  have f0 := frm_0 [] [] A
  refine ⟨Nat.le_of_ble_eq_true rfl, [], trivial, ?_⟩
  refine (And.intro (fun h3 => ?_) (And.intro (fun h3 => ?_) (And.intro (fun h3 => ?_) (And.intro (fun h3 => ?_) (And.intro (fun h3 => ?_) trivial)))))
  · exact hK _ (by first | exact wI_rng _ | omega | (exact (hA _ _).2 rfl))
  · refine And.intro (by omega) (fun v4 gv4 e5 => ?_)
    have b6 := iva_at i0 13 rfl (i := c) (by omega) (by omega)
    exact hK _ (by first | exact wI_rng _ | omega | (exact (hA _ _).2 rfl))
  · refine And.intro (by omega) (fun v7 gv7 e8 => ?_)
    have b9 := iva_at i0 14 rfl (i := c) (by omega) (by omega)
    exact hK _ (by first | exact wI_rng _ | omega | (exact (hA _ _).2 rfl))
  · refine And.intro (by omega) (fun v10 gv10 e11 => ?_)
    exact hK _ (by first | exact wI_rng _ | omega | (exact (hA _ _).2 rfl))
  · refine And.intro (by omega) (fun v12 gv12 e13 => ?_)
    exact hK _ (by first | exact wI_rng _ | omega | (exact (hA _ _).2 rfl))
def sC_open : qS := fun as A K => ∃ c t : Int, as = [rf 24, rf 1, ni c, ni t] ∧ (iva IC A ∧ ivf JC A ∧ 0 ≤ c ∧ c ≤ 47 ∧ (0 ≤ A 6 c ∧ A 6 c ≤ 5)) ∧ (∀ A' : qA, iva IC A' → ivf JC A' → frm [25, 26, 27, 28, 29, 33] [] A A' → ∀ r : Int, 0 ≤ r → r ≤ 60 → (0 ≤ A' 26 r ∧ A' 26 r ≤ 5) → K (some (ni r)) A')
theorem okC_open : okM LC 4 15 sC_open := by
  refine qmeth [] false [(23, sC_isRipe)] 56 rfl ⟨okC_isRipe.le (by decide), trivial⟩ ?_
  rintro _ A K hA has ⟨c, t, rfl, ⟨i0, j0, p1, p2, p3⟩, hK⟩
  have rg_c : rng c := has (ni c) (by simp)
  have rg_t : rng t := has (ni t) (by simp)
  have f0 := frm_0 [25, 26, 27, 28, 29, 33] [] A
  obtain ⟨v4, e5⟩ : ∃ v, v = A 6 c := ⟨_, rfl⟩
  rw [← e5] at p3
  refine ⟨Nat.le_of_ble_eq_true rfl, [], trivial, ?_⟩
  refine fun v6 gv6 e7 => ?_
  have b8 := ivf_at j0 2 rfl
  refine And.intro (by omega) (fun A9 e10 => ?_)
  have i11 := iva_st i0 e10 (And.intro (by omega) trivial)
  have j12 := ivf_sa j0 e10 rfl
  have f13 := frm_s f0 e10 rfl
  refine fun v14 gv14 e15 => ?_
  have b16 := ivf_at j12 2 rfl
  have q17 : v6 = v14 := (e15.trans ((congrFun (st_a e10 rfl) _).trans e7.symm)).symm
  subst q17
  refine And.intro (by omega) (fun v18 gv18 e19 => ?_)
  have b20 := iva_at i11 2 rfl (i := c) (by omega) (by omega)
  have q21 : v4 = v18 := (e19.trans ((congrFun (st_a e10 rfl) _).trans e5.symm)).symm
  subst q21
  refine And.intro (by omega) (fun A22 e23 => ?_)
  have i24 := iva_st i11 e23 (And.intro (by omega) trivial)
  have j25 := ivf_sa j12 e23 rfl
  have f26 := frm_s f13 e23 rfl
  refine fun v27 gv27 e28 => ?_
  have b29 := ivf_at j25 2 rfl
  have q30 : v6 = v27 := (e28.trans ((congrFun (st_a e23 rfl) _).trans e15.symm)).symm
  subst q30
  refine And.intro (by omega) (fun v31 gv31 e32 => ?_)
  have b33 := iva_at i24 3 rfl (i := c) (by omega) (by omega)
  refine And.intro (by omega) (fun A34 e35 => ?_)
  have i36 := iva_st i24 e35 (And.intro (by omega) trivial)
  have j37 := ivf_sa j25 e35 rfl
  have f38 := frm_s f26 e35 rfl
  refine fun v39 gv39 e40 => ?_
  have b41 := ivf_at j37 2 rfl
  have q42 : v6 = v39 := (e40.trans ((congrFun (st_a e35 rfl) _).trans e28.symm)).symm
  subst q42
  refine Exists.intro c (And.intro rfl (And.intro (And.intro i36 j37) (fun r43 g44 g45 => ?_)))
  refine And.intro (by omega) (And.intro (by omega) (fun A46 e47 => ?_))
  have i48 := iva_st i36 e47 (And.intro (by omega) trivial)
  have j49 := ivf_sa j37 e47 rfl
  have f50 := frm_s f38 e47 rfl
  refine fun v51 gv51 e52 => ?_
  have b53 := ivf_at j49 2 rfl
  have q54 : v6 = v51 := (e52.trans ((congrFun (st_a e47 rfl) _).trans e40.symm)).symm
  subst q54
  refine And.intro (by omega) (fun v55 gv55 e56 => ?_)
  have b57 := iva_at i48 5 rfl (i := c) (by omega) (by omega)
  refine And.intro (by omega) (And.intro (by omega) (fun A58 e59 => ?_))
  have i60 := iva_st i48 e59 (And.intro (by omega) trivial)
  have j61 := ivf_sa j49 e59 rfl
  have f62 := frm_s f50 e59 rfl
  refine fun v63 gv63 e64 => ?_
  have b65 := ivf_at j61 2 rfl
  have q66 : v6 = v63 := (e64.trans ((congrFun (st_a e59 rfl) _).trans e52.symm)).symm
  subst q66
  refine And.intro (by omega) (fun A67 e68 => ?_)
  have i69 := iva_st i60 e68 trivial
  have j70 := ivf_sa j61 e68 rfl
  have f71 := frm_s f62 e68 rfl
  refine fun v72 gv72 e73 => ?_
  have b74 := ivf_at j70 2 rfl
  have q75 : v6 = v72 := (e73.trans ((congrFun (st_a e68 rfl) _).trans e64.symm)).symm
  subst q75
  obtain ⟨v76, e77⟩ : ∃ v, v = A67 26 v6 := ⟨_, rfl⟩
  have b78 := iva_at i69 18 rfl (i := v6) (by omega) (by omega)
  have q79 : v4 = v76 := (e77.trans ((congrFun (Eq.trans (Eq.trans (Eq.trans (st_a e68 rfl) (st_a e59 rfl)) (st_a e47 rfl)) (st_a e35 rfl)) _).trans (st_v e23))).symm
  subst q79
  exact hK _ i69 j70 f71 _ (by omega) (by omega) (by rw [← e77]; omega)
def sC_close : qS := fun as A K => as = [rf 24] ∧ (iva IC A ∧ ivf JC A) ∧ (∀ A' : qA, iva IC A' → ivf JC A' → frm [] [(24, 9), (24, 10)] A A' → K none A')
theorem okC_close : okM LC 1 16 sC_close := by
  refine qmeth [] true [] 23 rfl trivial ?_
  rintro _ A K hA has ⟨rfl, ⟨i0, j0⟩, hK⟩
  have f0 := frm_0 [] [(24, 9), (24, 10)] A
  refine ⟨Nat.le_of_ble_eq_true rfl, [], trivial, ?_⟩
  refine fun v1 gv1 e2 => ?_
  refine fun v3 e4 => ?_
  have w7 := wI_rng v3
  refine fun A5 e6 => ?_
  have i8 := iva_sf i0 e6 rfl
  have j9 := ivf_st j0 e6 trivial
  have f10 := frm_sf f0 e6 rfl
  refine fun v11 gv11 e12 => ?_
  have b13 := ivf_at j9 2 rfl
  refine And.intro (fun h14 => ?_) (fun h14 => ?_)
  · exact hK _ i8 j9 f10
  · refine fun v15 gv15 e16 => ?_
    have b17 := ivf_at j9 2 rfl
    have q18 : v11 = v15 := (e16.trans e12.symm).symm
    subst q18
    refine fun v19 e20 => ?_
    have w23 := wI_rng v19
    have w24 : wI v19 = v19 := wI_id (by omega)
    refine fun A21 e22 => ?_
    have i25 := iva_sf i8 e22 rfl
    have j26 := ivf_st j9 e22 (And.intro (by omega) trivial)
    have f27 := frm_sf f10 e22 rfl
    exact hK _ i25 j26 f27
def sC_isWritten : qS := fun as A K => ∃ i : Int, as = [rf 24, ni i] ∧ (iva IC A ∧ ivf JC A) ∧ ((0 ≤ i ∧ i ≤ 59 → K (some (ni 1)) A) ∧ (True → K (some (ni 0)) A))
theorem okC_isWritten : okM LC 1 17 sC_isWritten := by
  refine qmeth [] false [] 16 rfl trivial ?_
  rintro _ A K hA has ⟨i, rfl, ⟨i0, j0⟩, hK⟩
  have rg_i : rng i := has (ni i) (by simp)
  have f0 := frm_0 [] [] A
  refine ⟨Nat.le_of_ble_eq_true rfl, [], trivial, ?_⟩
  refine And.intro (fun h1 => ?_) (fun h1 => ?_)
  · exact And.intro (by omega) (hK.2 (by first | omega | (subst_vars; omega) | (simp_all; done) | (simp_all; omega)))
  · refine fun v2 gv2 e3 => ?_
    have b4 := ivf_at j0 2 rfl
    refine And.intro (fun h5 => ?_) (fun h5 => ?_)
    · exact And.intro (by omega) (hK.2 (by first | omega | (subst_vars; omega) | (simp_all; done) | (simp_all; omega)))
    · exact And.intro (by omega) (hK.1 (by first | omega | (subst_vars; omega) | (simp_all; done) | (simp_all; omega)))
def sC_fallFact : qS := fun as A K => ∃ i w : Int, as = [rf 24, ni i, ni w] ∧ (iva IC A ∧ ivf JC A ∧ 0 ≤ i ∧ i ≤ 60) ∧ (∀ r : Int, rng r → K (some (ni r)) A)
theorem okC_fallFact : okM LC 1 18 sC_fallFact := by
  refine qmeth [] false [] 49 rfl trivial ?_
  rintro _ A K hA has ⟨i, w, rfl, ⟨i0, j0, p1, p2⟩, hK⟩
  have rg_i : rng i := has (ni i) (by simp)
  have rg_w : rng w := has (ni w) (by simp)
  have f0 := frm_0 [] [] A
  refine ⟨Nat.le_of_ble_eq_true rfl, [], trivial, ?_⟩
  refine (And.intro (fun h3 => ?_) (And.intro (fun h3 => ?_) (And.intro (fun h3 => ?_) (And.intro (fun h3 => ?_) (And.intro (fun h3 => ?_) (And.intro (fun h3 => ?_) (And.intro (fun h3 => ?_) (And.intro (fun h3 => ?_) trivial))))))))
  · exact hK _ (by first | exact wI_rng _ | omega | (exact (hA _ _).2 rfl))
  · refine And.intro (by omega) (fun v4 gv4 e5 => ?_)
    have b6 := iva_at i0 17 rfl (i := i) (by omega) (by omega)
    refine And.intro (by omega) (fun v7 e8 => ?_)
    have h9 := qd_nn (a := v4) (b := 6) (by omega)
    exact And.intro (by omega) (hK _ (by first | exact wI_rng _ | omega | (exact (hA _ _).2 rfl)))
  · refine And.intro (by omega) (fun v10 gv10 e11 => ?_)
    have b12 := iva_at i0 17 rfl (i := i) (by omega) (by omega)
    refine And.intro (by omega) (fun v13 e14 => ?_)
    have h15 := qm_nn (a := v10) (b := 6) (by omega)
    exact hK _ (by first | exact wI_rng _ | omega | (exact (hA _ _).2 rfl))
  · refine And.intro (by omega) (fun v16 gv16 e17 => ?_)
    have b18 := iva_at i0 18 rfl (i := i) (by omega) (by omega)
    exact hK _ (by first | exact wI_rng _ | omega | (exact (hA _ _).2 rfl))
  · refine And.intro (by omega) (fun v19 gv19 e20 => ?_)
    have b21 := iva_at i0 19 rfl (i := i) (by omega) (by omega)
    exact hK _ (by first | exact wI_rng _ | omega | (exact (hA _ _).2 rfl))
  · refine And.intro (by omega) (fun v22 gv22 e23 => ?_)
    have b24 := iva_at i0 20 rfl (i := i) (by omega) (by omega)
    exact hK _ (by first | exact wI_rng _ | omega | (exact (hA _ _).2 rfl))
  · refine And.intro (by omega) (fun v25 gv25 e26 => ?_)
    have b27 := iva_at i0 21 rfl (i := i) (by omega) (by omega)
    exact hK _ (by first | exact wI_rng _ | omega | (exact (hA _ _).2 rfl))
  · refine And.intro (by omega) (fun v28 gv28 e29 => ?_)
    exact hK _ (by first | exact wI_rng _ | omega | (exact (hA _ _).2 rfl))
def sC_append : qS := fun as A K => ∃ x : Int, as = [rf 52, ni x] ∧ (iva IC A ∧ ivf JC A) ∧ (∀ A' : qA, iva IC A' → ivf JC A' → frm [53] [(52, 1)] A A' → K none A')
theorem okC_append : okM LC 1 84 sC_append := by
  refine qmeth [] false [] 33 rfl trivial ?_
  rintro _ A K hA has ⟨x, rfl, ⟨i0, j0⟩, hK⟩
  have rg_x : rng x := has (ni x) (by simp)
  have f0 := frm_0 [53] [(52, 1)] A
  refine ⟨Nat.le_of_ble_eq_true rfl, [(2, [(0, 2, 52), (1, 0, 0), (2, 0, 0)], fun zs B nn => match zs with | [l1, k] => iva IC B ∧ ivf JC B ∧ frm [53] [(52, 1)] A B ∧ nn = (k + 8 : Int).toNat ∧ (l1 = x) ∧ ((-8) ≤ k) ∧ (k ≤ 24) | _ => False)], ?_, ?_⟩
  · refine ⟨⟨rfl, ?_⟩, trivial⟩
    · refine fun l1 k B mm hB hz hI => ?_
      obtain ⟨i1, j1, f1, hm, c0, c1, c2⟩ := hI
      obtain ⟨hz_l1, hz_k, _⟩ := hz
      refine And.intro (fun h1 => ?_) (fun h1 => ?_)
      · exact hK _ i1 j1 f1
      · refine fun v2 gv2 e3 => ?_
        have b4 := ivf_at j1 3 rfl
        refine And.intro (fun h5 => ?_) (fun h5 => ?_)
        · exact hK _ i1 j1 f1
        · refine fun v6 gv6 e7 => ?_
          have b8 := ivf_at j1 3 rfl
          have q9 : v2 = v6 := (e7.trans e3.symm).symm
          subst q9
          refine fun v10 e11 => ?_
          refine fun v12 e13 => ?_
          have h14 := ia_bd (a := v10) (b := 255) (by omega) (by omega)
          refine And.intro (by omega) (fun A15 e16 => ?_)
          have i17 := iva_st i1 e16 (And.intro (by omega) trivial)
          have j18 := ivf_sa j1 e16 rfl
          have f19 := frm_s f1 e16 rfl
          refine fun v20 gv20 e21 => ?_
          have b22 := ivf_at j18 3 rfl
          have q23 : v2 = v20 := (e21.trans ((congrFun (st_a e16 rfl) _).trans e7.symm)).symm
          subst q23
          refine fun v24 e25 => ?_
          refine And.intro (by omega) (fun A26 e27 => ?_)
          have i28 := iva_sf i17 e27 rfl
          have j29 := ivf_st j18 e27 (And.intro (by omega) trivial)
          have f30 := frm_sf f19 e27 rfl
          refine fun v31 e32 => ?_
          exact And.intro (by omega) (Exists.intro (v31 + 8 : Int).toNat (And.intro (by omega) (And.intro i28 (And.intro j29 (And.intro f30 (And.intro rfl (And.intro (by omega) (And.intro (by omega) (by omega)))))))))
  · exact Exists.intro (24 + 8 : Int).toNat (And.intro i0 (And.intro j0 (And.intro f0 (And.intro rfl (And.intro (by omega) (And.intro (by omega) (by omega)))))))
def sC_numberAt : qS := fun as A K => ∃ p : Int, as = [rf 52, ni p] ∧ (iva IC A ∧ ivf JC A ∧ 0 ≤ p ∧ p ≤ 5) ∧ (∀ r : Int, rng r → K (some (ni r)) A)
theorem okC_numberAt : okM LC 1 85 sC_numberAt := by
  refine qmeth [] true [] 37 rfl trivial ?_
  rintro _ A K hA has ⟨p, rfl, ⟨i0, j0, p1, p2⟩, hK⟩
  have rg_p : rng p := has (ni p) (by simp)
  have f0 := frm_0 [] [] A
  refine ⟨Nat.le_of_ble_eq_true rfl, [(6, [(0, 2, 52), (1, 0, 0), (2, 0, 0), (3, 0, 0)], fun zs B nn => match zs with | [l1, s, k] => A = B ∧ nn = (24 - k : Int).toNat ∧ (l1 = p) ∧ (0 ≤ k) ∧ (k ≤ 24) | _ => False)], ?_, ?_⟩
  · refine ⟨⟨rfl, ?_⟩, trivial⟩
    · refine fun l1 s k B mm hB hz hI => ?_
      obtain ⟨rfl, hm, c0, c1, c2⟩ := hI
      obtain ⟨hz_l1, hz_s, hz_k, _⟩ := hz
      refine And.intro (fun h7 => by exfalso; omega) (fun h7 => ?_)
      refine fun v8 e9 => ?_
      refine fun v10 e11 => ?_
      have w13 := wI_rng v10
      have w14 : wI v10 = v10 := wI_id (by omega)
      refine And.intro (fun h12 => ?_) (fun h12 => ?_)
      · exact hK _ (by first | exact wI_rng _ | omega | (exact (hA _ _).2 rfl))
      · refine And.intro (fun h15 => by exfalso; omega) (fun h15 => ?_)
        refine fun v16 e17 => ?_
        refine And.intro (by omega) (fun v18 gv18 e19 => ?_)
        have b20 := iva_at i0 26 rfl (i := k) (by omega) (by omega)
        refine fun v21 e22 => ?_
        refine fun v23 e24 => ?_
        have w25 := wI_rng v23
        have w26 : wI v23 = v23 := wI_id (by omega)
        exact Exists.intro (24 - ((wI v23)) : Int).toNat (And.intro (by omega) (And.intro rfl (And.intro rfl (And.intro (by omega) (And.intro (by omega) (by omega))))))
  · refine fun v3 e4 => ?_
    have w5 := wI_rng v3
    have w6 : wI v3 = v3 := wI_id (by omega)
    exact Exists.intro (24 - ((wI v3)) : Int).toNat (And.intro rfl (And.intro rfl (And.intro (by omega) (And.intro (by omega) (by omega)))))
def sC_fill35 : qS := fun as A K => ∃ v : Int, as = [rf 35, ni v] ∧ (iva IC A ∧ ivf JC A) ∧ (∀ A' : qA, iva IC A' → ivf JC A' → frm [35] [] A A' → K none A')
theorem okC_fill35 : okM LC 1 250 sC_fill35 := by
  refine qmeth [] false [] 21 rfl trivial ?_
  rintro _ A K hA has ⟨v, rfl, ⟨i0, j0⟩, hK⟩
  have rg_v : rng v := has (ni v) (by simp)
  have f0 := frm_0 [35] [] A
  refine ⟨Nat.le_of_ble_eq_true rfl, [(5, [(0, 2, 35), (1, 0, 0), (2, 0, 0), (3, 0, 0)], fun zs B nn => match zs with | [l1, i, n] => iva IC B ∧ ivf JC B ∧ frm [35] [] A B ∧ nn = (14 - i : Int).toNat ∧ (l1 = v) ∧ (0 ≤ i) ∧ (i ≤ 14) ∧ (n = 14) | _ => False)], ?_, ?_⟩
  · refine ⟨⟨rfl, ?_⟩, trivial⟩
    · refine fun l1 i n B mm hB hz hI => ?_
      obtain ⟨i1, j1, f1, hm, c0, c1, c2, c3⟩ := hI
      obtain ⟨hz_l1, hz_i, hz_n, _⟩ := hz
      refine And.intro (fun h1 => ?_) (fun h1 => ?_)
      · exact hK _ i1 j1 f1
      · refine And.intro (by omega) (fun A2 e3 => ?_)
        have i4 := iva_st i1 e3 trivial
        have j5 := ivf_sa j1 e3 rfl
        have f6 := frm_s f1 e3 rfl
        refine fun v7 e8 => ?_
        exact And.intro (by omega) (Exists.intro (14 - v7 : Int).toNat (And.intro (by omega) (And.intro i4 (And.intro j5 (And.intro f6 (And.intro rfl (And.intro (by omega) (And.intro (by omega) (And.intro (by omega) (by omega))))))))))
  · exact Exists.intro (14 - 0 : Int).toNat (And.intro i0 (And.intro j0 (And.intro f0 (And.intro rfl (And.intro (by omega) (And.intro (by omega) (And.intro (by omega) (by omega))))))))
def sC_fill45 : qS := fun as A K => ∃ v : Int, as = [rf 45, ni v] ∧ (iva IC A ∧ ivf JC A) ∧ (∀ A' : qA, iva IC A' → ivf JC A' → frm [45] [] A A' → K none A')
theorem okC_fill45 : okM LC 1 250 sC_fill45 := by
  refine qmeth [] false [] 21 rfl trivial ?_
  rintro _ A K hA has ⟨v, rfl, ⟨i0, j0⟩, hK⟩
  have rg_v : rng v := has (ni v) (by simp)
  have f0 := frm_0 [45] [] A
  refine ⟨Nat.le_of_ble_eq_true rfl, [(5, [(0, 2, 45), (1, 0, 0), (2, 0, 0), (3, 0, 0)], fun zs B nn => match zs with | [l1, i, n] => iva IC B ∧ ivf JC B ∧ frm [45] [] A B ∧ nn = (8 - i : Int).toNat ∧ (l1 = v) ∧ (0 ≤ i) ∧ (i ≤ 8) ∧ (n = 8) | _ => False)], ?_, ?_⟩
  · refine ⟨⟨rfl, ?_⟩, trivial⟩
    · refine fun l1 i n B mm hB hz hI => ?_
      obtain ⟨i1, j1, f1, hm, c0, c1, c2, c3⟩ := hI
      obtain ⟨hz_l1, hz_i, hz_n, _⟩ := hz
      refine And.intro (fun h1 => ?_) (fun h1 => ?_)
      · exact hK _ i1 j1 f1
      · refine And.intro (by omega) (fun A2 e3 => ?_)
        have i4 := iva_st i1 e3 trivial
        have j5 := ivf_sa j1 e3 rfl
        have f6 := frm_s f1 e3 rfl
        refine fun v7 e8 => ?_
        exact And.intro (by omega) (Exists.intro (8 - v7 : Int).toNat (And.intro (by omega) (And.intro i4 (And.intro j5 (And.intro f6 (And.intro rfl (And.intro (by omega) (And.intro (by omega) (And.intro (by omega) (by omega))))))))))
  · exact Exists.intro (8 - 0 : Int).toNat (And.intro i0 (And.intro j0 (And.intro f0 (And.intro rfl (And.intro (by omega) (And.intro (by omega) (And.intro (by omega) (by omega))))))))
def sC_fill57 : qS := fun as A K => ∃ v : Int, as = [rf 57, ni v] ∧ (iva IC A ∧ ivf JC A) ∧ (∀ A' : qA, iva IC A' → ivf JC A' → frm [57] [] A A' → K none A')
theorem okC_fill57 : okM LC 1 250 sC_fill57 := by
  refine qmeth [] false [] 21 rfl trivial ?_
  rintro _ A K hA has ⟨v, rfl, ⟨i0, j0⟩, hK⟩
  have rg_v : rng v := has (ni v) (by simp)
  have f0 := frm_0 [57] [] A
  refine ⟨Nat.le_of_ble_eq_true rfl, [(5, [(0, 2, 57), (1, 0, 0), (2, 0, 0), (3, 0, 0)], fun zs B nn => match zs with | [l1, i, n] => iva IC B ∧ ivf JC B ∧ frm [57] [] A B ∧ nn = (72 - i : Int).toNat ∧ (l1 = v) ∧ (0 ≤ i) ∧ (i ≤ 72) ∧ (n = 72) | _ => False)], ?_, ?_⟩
  · refine ⟨⟨rfl, ?_⟩, trivial⟩
    · refine fun l1 i n B mm hB hz hI => ?_
      obtain ⟨i1, j1, f1, hm, c0, c1, c2, c3⟩ := hI
      obtain ⟨hz_l1, hz_i, hz_n, _⟩ := hz
      refine And.intro (fun h1 => ?_) (fun h1 => ?_)
      · exact hK _ i1 j1 f1
      · refine And.intro (by omega) (fun A2 e3 => ?_)
        have i4 := iva_st i1 e3 trivial
        have j5 := ivf_sa j1 e3 rfl
        have f6 := frm_s f1 e3 rfl
        refine fun v7 e8 => ?_
        exact And.intro (by omega) (Exists.intro (72 - v7 : Int).toNat (And.intro (by omega) (And.intro i4 (And.intro j5 (And.intro f6 (And.intro rfl (And.intro (by omega) (And.intro (by omega) (And.intro (by omega) (by omega))))))))))
  · exact Exists.intro (72 - 0 : Int).toNat (And.intro i0 (And.intro j0 (And.intro f0 (And.intro rfl (And.intro (by omega) (And.intro (by omega) (And.intro (by omega) (by omega))))))))
def sC_fill69 : qS := fun as A K => ∃ v : Int, as = [rf 69, ni v] ∧ (iva IC A ∧ ivf JC A) ∧ (∀ A' : qA, iva IC A' → ivf JC A' → frm [69] [] A A' → K none A')
theorem okC_fill69 : okM LC 1 250 sC_fill69 := by
  refine qmeth [] false [] 21 rfl trivial ?_
  rintro _ A K hA has ⟨v, rfl, ⟨i0, j0⟩, hK⟩
  have rg_v : rng v := has (ni v) (by simp)
  have f0 := frm_0 [69] [] A
  refine ⟨Nat.le_of_ble_eq_true rfl, [(5, [(0, 2, 69), (1, 0, 0), (2, 0, 0), (3, 0, 0)], fun zs B nn => match zs with | [l1, i, n] => iva IC B ∧ ivf JC B ∧ frm [69] [] A B ∧ nn = (24 - i : Int).toNat ∧ (l1 = v) ∧ (0 ≤ i) ∧ (i ≤ 24) ∧ (n = 24) | _ => False)], ?_, ?_⟩
  · refine ⟨⟨rfl, ?_⟩, trivial⟩
    · refine fun l1 i n B mm hB hz hI => ?_
      obtain ⟨i1, j1, f1, hm, c0, c1, c2, c3⟩ := hI
      obtain ⟨hz_l1, hz_i, hz_n, _⟩ := hz
      refine And.intro (fun h1 => ?_) (fun h1 => ?_)
      · exact hK _ i1 j1 f1
      · refine And.intro (by omega) (fun A2 e3 => ?_)
        have i4 := iva_st i1 e3 trivial
        have j5 := ivf_sa j1 e3 rfl
        have f6 := frm_s f1 e3 rfl
        refine fun v7 e8 => ?_
        exact And.intro (by omega) (Exists.intro (24 - v7 : Int).toNat (And.intro (by omega) (And.intro i4 (And.intro j5 (And.intro f6 (And.intro rfl (And.intro (by omega) (And.intro (by omega) (And.intro (by omega) (by omega))))))))))
  · exact Exists.intro (24 - 0 : Int).toNat (And.intro i0 (And.intro j0 (And.intro f0 (And.intro rfl (And.intro (by omega) (And.intro (by omega) (And.intro (by omega) (by omega))))))))
def sC_bitsL : qS := fun as A K => ∃ x : Int, as = [nl x] ∧ (∀ r : Int, rng r → K (some (ni r)) A)
theorem okC_bitsL : okM LC 1 249 sC_bitsL := by
  refine qmeth [] true [] 55 rfl trivial ?_
  rintro _ A K hA has ⟨x, rfl, hK⟩
  have rg_x : rngL x := has (nl x) (by simp)
  refine ⟨Nat.le_of_ble_eq_true rfl, [], trivial, ?_⟩
  refine fun v1 e2 => ?_
  refine fun v3 e4 => ?_
  refine fun v5 e6 => ?_
  refine fun v7 e8 => ?_
  refine fun v9 e10 => ?_
  refine fun v11 e12 => ?_
  refine fun v13 e14 => ?_
  refine fun v15 e16 => ?_
  refine fun v17 e18 => ?_
  refine fun v19 e20 => ?_
  refine fun v21 e22 => ?_
  refine fun v23 e24 => ?_
  refine fun v25 e26 => ?_
  refine fun v27 e28 => ?_
  refine fun v29 e30 => ?_
  refine fun v31 e32 => ?_
  refine fun v33 e34 => ?_
  have h35 := ia_bd (a := v31) (b := 127) (by omega) (by omega)
  exact hK _ (by first | exact wI_rng _ | omega | (exact (hA _ _).2 rfl))
def sC_bitsI : qS := fun as A K => ∃ x : Int, as = [ni x] ∧ (∀ r : Int, rng r → K (some (ni r)) A)
theorem okC_bitsI : okM LC 1 248 sC_bitsI := by
  refine qmeth [] true [] 48 rfl trivial ?_
  rintro _ A K hA has ⟨x, rfl, hK⟩
  have rg_x : rng x := has (ni x) (by simp)
  refine ⟨Nat.le_of_ble_eq_true rfl, [], trivial, ?_⟩
  refine fun v1 e2 => ?_
  have k3 : qn 1431655765 = 1431655765 := by decide
  refine fun v4 e5 => ?_
  have h6 := ia_bd (a := v1) (b := (qn 1431655765)) (by omega) (by omega)
  refine fun v7 e8 => ?_
  have k9 : qn 858993459 = 858993459 := by decide
  refine fun v10 e11 => ?_
  have h12 := ia_bd (a := v7) (b := (qn 858993459)) (by omega) (by omega)
  refine fun v13 e14 => ?_
  have k15 : qn 858993459 = 858993459 := by decide
  refine fun v16 e17 => ?_
  have h18 := ia_bd (a := v13) (b := (qn 858993459)) (by omega) (by omega)
  refine fun v19 e20 => ?_
  refine fun v21 e22 => ?_
  refine fun v23 e24 => ?_
  have k25 : qn 252645135 = 252645135 := by decide
  refine fun v26 e27 => ?_
  have h28 := ia_bd (a := v23) (b := (qn 252645135)) (by omega) (by omega)
  refine fun v29 e30 => ?_
  refine fun v31 e32 => ?_
  refine fun v33 e34 => ?_
  refine fun v35 e36 => ?_
  refine fun v37 e38 => ?_
  have h39 := ia_bd (a := v35) (b := 63) (by omega) (by omega)
  exact hK _ (by first | exact wI_rng _ | omega | (exact (hA _ _).2 rfl))
