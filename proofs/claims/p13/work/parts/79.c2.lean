theorem qone_bd (s : Nat) (x : Int) : 0 ≤ qone s x ∧ qone s x ≤ 1 := by
  unfold qone pv_one
  split <;> decide
theorem qix_bd (s : Nat) (x : Int) : -1 ≤ qix s x ∧ qix s x ≤ 13 := by
  have gen : ∀ (y : Int32) (bs : List Nat) (k : Nat), k + bs.length ≤ 14 → -1 ≤ (pv_ixF y bs k).toInt ∧ (pv_ixF y bs k).toInt ≤ 13 := by
    intro y bs
    induction bs with
    | nil =>
      intro k _
      have e : (pv_ixF y [] k).toInt = -1 := rfl
      rw [e]; omega
    | cons b bs ih =>
      intro k hk
      simp only [List.length_cons] at hk
      unfold pv_ixF
      split
      · have e : (Int32.ofNat k).toInt = (k : Int) := iI_to (z := (k : Int)) ⟨by (first | (clear hm hnf; omega) | omega), by (first | (clear hm hnf; omega) | omega)⟩
        rw [e]; omega
      · exact ih (k + 1) (by (first | (clear hm hnf; omega) | omega))
  refine gen _ _ 0 ?_
  rcases s with _ | _ | _ | _ | _ | s <;> first | decide | exact Nat.zero_le _
def LW (A : qA) : Prop := A 34 (fd 4) = 36 ∨ A 34 (fd 4) = 71
theorem LW_fr {W : List Nat} {V : List (Nat × Nat)} {A A' : qA} (h : LW A) (f : frm W V A A') (c : (noW 34 W && noVf 34 4 V) = true) : LW A' := by
  unfold LW
  rw [frm_f f c]
  exact h
/-- a letter's step names a letter -/
def KO (A : qA) : Prop := (∀ i, 0 ≤ i → i < 200 → A 37 i = 107 → 0 ≤ A 38 i ∧ A 38 i ≤ 13) ∧ (∀ i, 0 ≤ i → i < 200 → A 72 i = 107 → 0 ≤ A 73 i ∧ A 73 i ≤ 13)
theorem KO_fr {W : List Nat} {V : List (Nat × Nat)} {A A' : qA} (h : KO A) (f : frm W V A A') (c : ((noW 37 W && noV 37 V) && (noW 38 W && noV 38 V) && (noW 72 W && noV 72 V) && (noW 73 W && noV 73 V)) = true) : KO A' := by
  simp only [Bool.and_eq_true] at c
  obtain ⟨⟨⟨⟨a1, a2⟩, ⟨b1, b2⟩⟩, ⟨c1, c2⟩⟩, ⟨d1, d2⟩⟩ := c
  unfold KO
  rw [frm_a f (by rw [a1, a2]; rfl), frm_a f (by rw [b1, b2]; rfl), frm_a f (by rw [c1, c2]; rfl), frm_a f (by rw [d1, d2]; rfl)]
  exact h
theorem okM_or {L : List qY} {D j : Nat} {s s1 s2 : qS} (h1 : okM L D j s1) (h2 : okM L D j s2) (h : ∀ as A K, s as A K → s1 as A K ∨ s2 as A K) : okM L D j s := by
  intro d hd as A K hA has hs
  rcases h as A K hs with q | q
  · exact h1 d hd as A K hA has q
  · exact h2 d hd as A K hA has q
def fC_carries (w c l : Int) (A : qA) : Int := qlet (5 * l) fun v7 => qlet (w + v7) fun v9 => qlet (A 21 c) fun v11 => (if v11 < v9 then 0 else 1)
def sC_carries : qS := fun as A K => ∃ w c l : Int, as = [rf 15, ni w, ni c, ni l] ∧ (iva IC A ∧ ivf JC A ∧ 1 ≤ w ∧ w ≤ 99 ∧ 0 ≤ c ∧ c ≤ 7 ∧ 0 ≤ l ∧ l ≤ 5) ∧ (∀ r : Int, 0 ≤ r → r ≤ 1 → (r = fC_carries w c l A) → K (some (ni r)) A)
theorem okC_carries : okM LC 1 1 sC_carries := by
  refine qmeth [] false [] 20 rfl trivial ?_
  rintro _ A K hA has ⟨w, c, l, rfl, ⟨i0, j0, p1, p2, p3, p4, p5, p6⟩, hK⟩
  have rg_w : rng w := has (ni w) (by simp)
  have rg_c : rng c := has (ni c) (by simp)
  have rg_l : rng l := has (ni l) (by simp)
  have f0 := frm_0 [] [] A
  have hT : _ = fC_carries w c l A := (fC_carries.eq_1 w c l A).symm
  refine ⟨Nat.le_of_ble_eq_true rfl, [], trivial, ?_⟩
  refine fun v7 e8 => ?_
  replace hT := qlc e8 hT
  refine fun v9 e10 => ?_
  replace hT := qlc e10 hT
  refine And.intro (by (first | (clear hm hnf; omega) | omega)) (fun v11 gv11 e12 => ?_)
  replace hT := qlc e12 hT
  have b13 := iva_at i0 15 rfl (i := c) (by (first | (clear hm hnf; omega) | omega)) (by (first | (clear hm hnf; omega) | omega))
  refine And.intro (by (first | (clear hm hnf; omega) | omega)) (And.intro (fun h14 => ?_) (fun h14 => ?_))
  · replace hT := (if_pos h14).symm.trans hT
    exact And.intro (by (first | (clear hm hnf; omega) | omega)) (hK _ (by (first | (clear hm hnf; omega) | omega)) (by (first | (clear hm hnf; omega) | omega)) hT)
  · replace hT := (if_neg (Int.not_lt.mpr h14)).symm.trans hT
    exact And.intro (by (first | (clear hm hnf; omega) | omega)) (hK _ (by (first | (clear hm hnf; omega) | omega)) (by (first | (clear hm hnf; omega) | omega)) hT)
theorem pC_carries {w c l : Int} {A : qA} (hA : qokA LC A) (p0 : iva IC A) (p1 : ivf JC A) (p2 : 1 ≤ w) (p3 : w ≤ 99) (p4 : 0 ≤ c) (p5 : c ≤ 7) (p6 : 0 ≤ l) (p7 : l ≤ 5) : (0 ≤ (fC_carries w c l A) ∧ (fC_carries w c l A) ≤ 1) := by
  obtain ⟨r, B, hB, _, hk⟩ := okM_ex okC_carries (as := [rf 15, ni w, ni c, ni l]) (K := fun _ B => B = A ∧ (0 ≤ (fC_carries w c l A) ∧ (fC_carries w c l A) ≤ 1)) hA (qoks_c (show qok (rf _) from trivial) (qoks_c (show rng w from ⟨by (first | (clear hm hnf; omega) | omega), by (first | (clear hm hnf; omega) | omega)⟩) (qoks_c (show rng c from ⟨by (first | (clear hm hnf; omega) | omega), by (first | (clear hm hnf; omega) | omega)⟩) (qoks_c (show rng l from ⟨by (first | (clear hm hnf; omega) | omega), by (first | (clear hm hnf; omega) | omega)⟩) qoks_n)))) ⟨w, c, l, rfl, ⟨p0, p1, p2, p3, p4, p5, p6, p7⟩, fun r9 g8 g9 x0 => (by rw [← x0]; exact ⟨rfl, ⟨g8, g9⟩⟩)⟩
  exact hk.2
def fC_browFact (c w : Int) (A : qA) : Int := (if w = 0 then qlet (A 17 c) fun v4 => v4 else (if w = 1 then qlet (A 18 c) fun v7 => v7 else (if w = 2 then qlet (A 19 c) fun v10 => v10 else (if w = 3 then qlet (A 20 c) fun v12 => v12 else (-1)))))
def sC_browFact : qS := fun as A K => ∃ c w : Int, as = [rf 15, ni c, ni w] ∧ (iva IC A ∧ ivf JC A ∧ 0 ≤ c ∧ c ≤ 7) ∧ (∀ r : Int, rng r → (r = fC_browFact c w A) → K (some (ni r)) A)
theorem okC_browFact : okM LC 1 2 sC_browFact := by
  refine qmeth [] false [] 30 rfl trivial ?_
  rintro _ A K hA has ⟨c, w, rfl, ⟨i0, j0, p1, p2⟩, hK⟩
  have rg_c : rng c := has (ni c) (by simp)
  have rg_w : rng w := has (ni w) (by simp)
  have f0 := frm_0 [] [] A
  have hT : _ = fC_browFact c w A := (fC_browFact.eq_1 c w A).symm
  refine ⟨Nat.le_of_ble_eq_true rfl, [], trivial, ?_⟩
  refine (And.intro (fun h3 => ?_) (And.intro (fun h3 => ?_) (And.intro (fun h3 => ?_) (And.intro (fun h3 => ?_) (And.intro (fun h3 => ?_) trivial)))))
  · replace hT := (if_neg (show ¬ (w = 0) by (first | (clear hm hnf; omega) | omega))).symm.trans hT
    replace hT := (if_neg (show ¬ (w = 1) by (first | (clear hm hnf; omega) | omega))).symm.trans hT
    replace hT := (if_neg (show ¬ (w = 2) by (first | (clear hm hnf; omega) | omega))).symm.trans hT
    replace hT := (if_neg (show ¬ (w = 3) by (first | (clear hm hnf; omega) | omega))).symm.trans hT
    exact hK _ (by first | assumption | exact wI_rng _ | exact ⟨by (first | (clear hm hnf; omega) | omega), by (first | (clear hm hnf; omega) | omega)⟩ | exact i_rng _ | (subst_vars; exact i_rng _) | exact (hA _ _).2 rfl) hT
  · replace hT := (if_pos (show w = 0 by (first | (clear hm hnf; omega) | omega))).symm.trans hT
    refine And.intro (by (first | (clear hm hnf; omega) | omega)) (fun v4 gv4 e5 => ?_)
    replace hT := qlc e5 hT
    have b6 := iva_at i0 13 rfl (i := c) (by (first | (clear hm hnf; omega) | omega)) (by (first | (clear hm hnf; omega) | omega))
    exact hK _ (by first | assumption | exact wI_rng _ | exact ⟨by (first | (clear hm hnf; omega) | omega), by (first | (clear hm hnf; omega) | omega)⟩ | exact i_rng _ | (subst_vars; exact i_rng _) | exact (hA _ _).2 rfl) hT
  · replace hT := (if_neg (show ¬ (w = 0) by (first | (clear hm hnf; omega) | omega))).symm.trans hT
    replace hT := (if_pos (show w = 1 by (first | (clear hm hnf; omega) | omega))).symm.trans hT
    refine And.intro (by (first | (clear hm hnf; omega) | omega)) (fun v7 gv7 e8 => ?_)
    replace hT := qlc e8 hT
    have b9 := iva_at i0 14 rfl (i := c) (by (first | (clear hm hnf; omega) | omega)) (by (first | (clear hm hnf; omega) | omega))
    exact hK _ (by first | assumption | exact wI_rng _ | exact ⟨by (first | (clear hm hnf; omega) | omega), by (first | (clear hm hnf; omega) | omega)⟩ | exact i_rng _ | (subst_vars; exact i_rng _) | exact (hA _ _).2 rfl) hT
  · replace hT := (if_neg (show ¬ (w = 0) by (first | (clear hm hnf; omega) | omega))).symm.trans hT
    replace hT := (if_neg (show ¬ (w = 1) by (first | (clear hm hnf; omega) | omega))).symm.trans hT
    replace hT := (if_pos (show w = 2 by (first | (clear hm hnf; omega) | omega))).symm.trans hT
    refine And.intro (by (first | (clear hm hnf; omega) | omega)) (fun v10 gv10 e11 => ?_)
    replace hT := qlc e11 hT
    exact hK _ (by first | assumption | exact wI_rng _ | exact ⟨by (first | (clear hm hnf; omega) | omega), by (first | (clear hm hnf; omega) | omega)⟩ | exact i_rng _ | (subst_vars; exact i_rng _) | exact (hA _ _).2 rfl) hT
  · replace hT := (if_neg (show ¬ (w = 0) by (first | (clear hm hnf; omega) | omega))).symm.trans hT
    replace hT := (if_neg (show ¬ (w = 1) by (first | (clear hm hnf; omega) | omega))).symm.trans hT
    replace hT := (if_neg (show ¬ (w = 2) by (first | (clear hm hnf; omega) | omega))).symm.trans hT
    replace hT := (if_pos (show w = 3 by (first | (clear hm hnf; omega) | omega))).symm.trans hT
    refine And.intro (by (first | (clear hm hnf; omega) | omega)) (fun v12 gv12 e13 => ?_)
    replace hT := qlc e13 hT
    exact hK _ (by first | assumption | exact wI_rng _ | exact ⟨by (first | (clear hm hnf; omega) | omega), by (first | (clear hm hnf; omega) | omega)⟩ | exact i_rng _ | (subst_vars; exact i_rng _) | exact (hA _ _).2 rfl) hT
theorem pC_browFact {c w : Int} {A : qA} (hA : qokA LC A) (rg_w : rng w) (p0 : iva IC A) (p1 : ivf JC A) (p2 : 0 ≤ c) (p3 : c ≤ 7) : rng (fC_browFact c w A) := by
  obtain ⟨r, B, hB, _, hk⟩ := okM_ex okC_browFact (as := [rf 15, ni c, ni w]) (K := fun _ B => B = A ∧ rng (fC_browFact c w A)) hA (qoks_c (show qok (rf _) from trivial) (qoks_c (show rng c from ⟨by (first | (clear hm hnf; omega) | omega), by (first | (clear hm hnf; omega) | omega)⟩) (qoks_c (rg_w) qoks_n))) ⟨c, w, rfl, ⟨p0, p1, p2, p3⟩, fun r9 g9 x0 => (by rw [← x0]; exact ⟨rfl, g9⟩)⟩
  exact hk.2
def fC_open (c t : Int) (A : qA) : Int × qA := qlet (A 24 (fd 9)) fun v6 => qlet (qu A 25 v6 c) fun A9 => qlet (A9 24 (fd 9)) fun v14 => qlet (A9 6 c) fun v18 => qlet (qu A9 26 v6 v18) fun A22 => qlet (A22 24 (fd 9)) fun v27 => qlet (A22 7 c) fun v31 => qlet (qu A22 27 v6 v31) fun A34 => qlet (A34 24 (fd 9)) fun v39 => qlet (fC_isRipe c A34) fun r43 => qlet (qu A34 28 v6 r43) fun A47 => qlet (A47 24 (fd 9)) fun v52 => qlet (A47 10 c) fun v56 => qlet (qu A47 29 v6 v56) fun A59 => qlet (A59 24 (fd 9)) fun v64 => qlet (qu A59 33 v6 t) fun A68 => qlet (A68 24 (fd 9)) fun v73 => (v6, A68)
def sC_open : qS := fun as A K => ∃ c t : Int, as = [rf 24, rf 1, ni c, ni t] ∧ (iva IC A ∧ ivf JC A ∧ 0 ≤ c ∧ c ≤ 47 ∧ (0 ≤ A 6 c ∧ A 6 c ≤ 5)) ∧ (∀ A' : qA, iva IC A' → ivf JC A' → frm [25, 26, 27, 28, 29, 33] [] A A' → ∀ r : Int, 0 ≤ r → r ≤ 60 → (r = (fC_open c t A).1) → (A' = (fC_open c t A).2) → (0 ≤ A' 26 r ∧ A' 26 r ≤ 5) → K (some (ni r)) A')
theorem okC_open : okM LC 4 15 sC_open := by
  refine qmeth [] false [(23, sC_isRipe)] 56 rfl ⟨okC_isRipe.le (by decide), trivial⟩ ?_
  rintro _ A K hA has ⟨c, t, rfl, ⟨i0, j0, p1, p2, p3⟩, hK⟩
  have rg_c : rng c := has (ni c) (by simp)
  have rg_t : rng t := has (ni t) (by simp)
  have f0 := frm_0 [25, 26, 27, 28, 29, 33] [] A
  obtain ⟨v4, e5⟩ : ∃ v, v = A 6 c := ⟨_, rfl⟩
  rw [← e5] at p3
  have hT : _ = fC_open c t A := (fC_open.eq_1 c t A).symm
  refine ⟨Nat.le_of_ble_eq_true rfl, [], trivial, ?_⟩
  refine fun v6 gv6 e7 => ?_
  replace hT := qlc e7 hT
  have b8 := ivf_at j0 2 rfl
  refine And.intro (by (first | (clear hm hnf; omega) | omega)) (fun A9 e10 => ?_)
  replace hT := qlc e10 hT
  have i11 := iva_st i0 e10 (And.intro (by (first | (clear hm hnf; omega) | omega)) trivial)
  have j12 := ivf_sa j0 e10 rfl
  have f13 := frm_s f0 e10 rfl
  refine fun v14 gv14 e15 => ?_
  replace hT := qlc e15 hT
  have b16 := ivf_at j12 2 rfl
  have q17 : v6 = v14 := (e15.trans ((congrFun (st_a e10 rfl) _).trans e7.symm)).symm
  subst q17
  refine And.intro (by (first | (clear hm hnf; omega) | omega)) (fun v18 gv18 e19 => ?_)
  replace hT := qlc e19 hT
  have b20 := iva_at i11 2 rfl (i := c) (by (first | (clear hm hnf; omega) | omega)) (by (first | (clear hm hnf; omega) | omega))
  have q21 : v4 = v18 := (e19.trans ((congrFun (st_a e10 rfl) _).trans e5.symm)).symm
  subst q21
  refine And.intro (by (first | (clear hm hnf; omega) | omega)) (fun A22 e23 => ?_)
  replace hT := qlc e23 hT
  have i24 := iva_st i11 e23 (And.intro (by (first | (clear hm hnf; omega) | omega)) trivial)
  have j25 := ivf_sa j12 e23 rfl
  have f26 := frm_s f13 e23 rfl
  refine fun v27 gv27 e28 => ?_
  replace hT := qlc e28 hT
  have b29 := ivf_at j25 2 rfl
  have q30 : v6 = v27 := (e28.trans ((congrFun (st_a e23 rfl) _).trans e15.symm)).symm
  subst q30
  refine And.intro (by (first | (clear hm hnf; omega) | omega)) (fun v31 gv31 e32 => ?_)
  replace hT := qlc e32 hT
  have b33 := iva_at i24 3 rfl (i := c) (by (first | (clear hm hnf; omega) | omega)) (by (first | (clear hm hnf; omega) | omega))
  refine And.intro (by (first | (clear hm hnf; omega) | omega)) (fun A34 e35 => ?_)
  replace hT := qlc e35 hT
  have i36 := iva_st i24 e35 (And.intro (by (first | (clear hm hnf; omega) | omega)) trivial)
  have j37 := ivf_sa j25 e35 rfl
  have f38 := frm_s f26 e35 rfl
  refine fun v39 gv39 e40 => ?_
  replace hT := qlc e40 hT
  have b41 := ivf_at j37 2 rfl
  have q42 : v6 = v39 := (e40.trans ((congrFun (st_a e35 rfl) _).trans e28.symm)).symm
  subst q42
  refine Exists.intro c (And.intro rfl (And.intro (And.intro i36 j37) (fun r43 g45 g46 g44 => ?_)))
  replace hT := qlc g44 hT
  clear g44
  refine And.intro (by (first | (clear hm hnf; omega) | omega)) (And.intro (by (first | (clear hm hnf; omega) | omega)) (fun A47 e48 => ?_))
  replace hT := qlc e48 hT
  have i49 := iva_st i36 e48 (And.intro (by (first | (clear hm hnf; omega) | omega)) trivial)
  have j50 := ivf_sa j37 e48 rfl
  have f51 := frm_s f38 e48 rfl
  refine fun v52 gv52 e53 => ?_
  replace hT := qlc e53 hT
  have b54 := ivf_at j50 2 rfl
  have q55 : v6 = v52 := (e53.trans ((congrFun (st_a e48 rfl) _).trans e40.symm)).symm
  subst q55
  refine And.intro (by (first | (clear hm hnf; omega) | omega)) (fun v56 gv56 e57 => ?_)
  replace hT := qlc e57 hT
  have b58 := iva_at i49 5 rfl (i := c) (by (first | (clear hm hnf; omega) | omega)) (by (first | (clear hm hnf; omega) | omega))
  refine And.intro (by (first | (clear hm hnf; omega) | omega)) (And.intro (by (first | (clear hm hnf; omega) | omega)) (fun A59 e60 => ?_))
  replace hT := qlc e60 hT
  have i61 := iva_st i49 e60 (And.intro (by (first | (clear hm hnf; omega) | omega)) trivial)
  have j62 := ivf_sa j50 e60 rfl
  have f63 := frm_s f51 e60 rfl
  refine fun v64 gv64 e65 => ?_
  replace hT := qlc e65 hT
  have b66 := ivf_at j62 2 rfl
  have q67 : v6 = v64 := (e65.trans ((congrFun (st_a e60 rfl) _).trans e53.symm)).symm
  subst q67
  refine And.intro (by (first | (clear hm hnf; omega) | omega)) (fun A68 e69 => ?_)
  replace hT := qlc e69 hT
  have i70 := iva_st i61 e69 trivial
  have j71 := ivf_sa j62 e69 rfl
  have f72 := frm_s f63 e69 rfl
  refine fun v73 gv73 e74 => ?_
  replace hT := qlc e74 hT
  have b75 := ivf_at j71 2 rfl
  have q76 : v6 = v73 := (e74.trans ((congrFun (st_a e69 rfl) _).trans e65.symm)).symm
  subst q76
  obtain ⟨v77, e78⟩ : ∃ v, v = A68 26 v6 := ⟨_, rfl⟩
  have b79 := iva_at i70 18 rfl (i := v6) (by (first | (clear hm hnf; omega) | omega)) (by (first | (clear hm hnf; omega) | omega))
  have q80 : v4 = v77 := (e78.trans ((congrFun (Eq.trans (Eq.trans (Eq.trans (st_a e69 rfl) (st_a e60 rfl)) (st_a e48 rfl)) (st_a e35 rfl)) _).trans (st_v e23))).symm
  subst q80
  exact hK _ i70 j71 f72 _ (by (first | (clear hm hnf; omega) | omega)) (by (first | (clear hm hnf; omega) | omega)) (congrArg Prod.fst hT) (congrArg Prod.snd hT) (by rw [← e78]; omega)
theorem pC_open {c t : Int} {A : qA} (hA : qokA LC A) (rg_t : rng t) (p0 : iva IC A) (p1 : ivf JC A) (p2 : 0 ≤ c) (p3 : c ≤ 47) (p4 : (0 ≤ A 6 c ∧ A 6 c ≤ 5)) : qokA LC (fC_open c t A).2 ∧ iva IC (fC_open c t A).2 ∧ ivf JC (fC_open c t A).2 ∧ frm [25, 26, 27, 28, 29, 33] [] A (fC_open c t A).2 ∧ (0 ≤ (fC_open c t A).1 ∧ (fC_open c t A).1 ≤ 60) ∧ (0 ≤ (fC_open c t A).2 26 (fC_open c t A).1 ∧ (fC_open c t A).2 26 (fC_open c t A).1 ≤ 5) := by
  obtain ⟨r, B, hB, _, hk⟩ := okM_ex okC_open (as := [rf 24, rf 1, ni c, ni t]) (K := fun _ B => B = (fC_open c t A).2 ∧ iva IC (fC_open c t A).2 ∧ ivf JC (fC_open c t A).2 ∧ frm [25, 26, 27, 28, 29, 33] [] A (fC_open c t A).2 ∧ (0 ≤ (fC_open c t A).1 ∧ (fC_open c t A).1 ≤ 60) ∧ (0 ≤ (fC_open c t A).2 26 (fC_open c t A).1 ∧ (fC_open c t A).2 26 (fC_open c t A).1 ≤ 5)) hA (qoks_c (show qok (rf _) from trivial) (qoks_c (show qok (rf _) from trivial) (qoks_c (show rng c from ⟨by (first | (clear hm hnf; omega) | omega), by (first | (clear hm hnf; omega) | omega)⟩) (qoks_c (rg_t) qoks_n)))) ⟨c, t, rfl, ⟨p0, p1, p2, p3, p4⟩, fun A9 i9 j9 f9 r9 g8 g9 x0 x1 x2 => (by rw [← x1]; (try rw [← x0]); exact ⟨rfl, i9, j9, f9, ⟨g8, g9⟩, x2⟩)⟩
  exact ⟨hk.1 ▸ hB, hk.2⟩
def fC_close (A : qA) : qA := qlet (A 24 (fd 10)) fun v1 => qlet (v1 + 1) fun v3 => qlet (qu A 24 (fd 10) (wI v3)) fun A5 => qlet (A5 24 (fd 9)) fun v11 => (if v11 < 60 then qlet (A5 24 (fd 9)) fun v15 => qlet (v11 + 1) fun v19 => qlet (qu A5 24 (fd 9) (wI v19)) fun A21 => A21 else A5)
def sC_close : qS := fun as A K => as = [rf 24] ∧ (iva IC A ∧ ivf JC A) ∧ (∀ A' : qA, iva IC A' → ivf JC A' → frm [] [(24, 9), (24, 10)] A A' → (A' = fC_close A) → K none A')
theorem okC_close : okM LC 1 16 sC_close := by
  refine qmeth [] true [] 23 rfl trivial ?_
  rintro _ A K hA has ⟨rfl, ⟨i0, j0⟩, hK⟩
  have f0 := frm_0 [] [(24, 9), (24, 10)] A
  have hT : _ = fC_close A := (fC_close.eq_1 A).symm
  refine ⟨Nat.le_of_ble_eq_true rfl, [], trivial, ?_⟩
  refine fun v1 gv1 e2 => ?_
  replace hT := qlc e2 hT
  refine fun v3 e4 => ?_
  replace hT := qlc e4 hT
  have w7 := wI_rng v3
  refine fun A5 e6 => ?_
  replace hT := qlc e6 hT
  have i8 := iva_sf i0 e6 rfl
  have j9 := ivf_st j0 e6 trivial
  have f10 := frm_sf f0 e6 rfl
  refine fun v11 gv11 e12 => ?_
  replace hT := qlc e12 hT
  have b13 := ivf_at j9 2 rfl
  refine And.intro (fun h14 => ?_) (fun h14 => ?_)
  · replace hT := (if_neg (Int.not_lt.mpr h14)).symm.trans hT
    exact hK _ i8 j9 f10 hT
  · replace hT := (if_pos h14).symm.trans hT
    refine fun v15 gv15 e16 => ?_
    replace hT := qlc e16 hT
    have b17 := ivf_at j9 2 rfl
    have q18 : v11 = v15 := (e16.trans e12.symm).symm
    subst q18
    refine fun v19 e20 => ?_
    replace hT := qlc e20 hT
    have w23 := wI_rng v19
    have w24 : wI v19 = v19 := wI_id (by (first | (clear hm hnf; omega) | omega))
    refine fun A21 e22 => ?_
    replace hT := qlc e22 hT
    have i25 := iva_sf i8 e22 rfl
    have j26 := ivf_st j9 e22 (And.intro (by (first | (clear hm hnf; omega) | omega)) trivial)
    have f27 := frm_sf f10 e22 rfl
    exact hK _ i25 j26 f27 hT
theorem pC_close {A : qA} (hA : qokA LC A) (p0 : iva IC A) (p1 : ivf JC A) : qokA LC (fC_close A) ∧ iva IC (fC_close A) ∧ ivf JC (fC_close A) ∧ frm [] [(24, 9), (24, 10)] A (fC_close A) := by
  obtain ⟨r, B, hB, _, hk⟩ := okM_ex okC_close (as := [rf 24]) (K := fun _ B => B = (fC_close A) ∧ iva IC (fC_close A) ∧ ivf JC (fC_close A) ∧ frm [] [(24, 9), (24, 10)] A (fC_close A)) hA (qoks_c (show qok (rf _) from trivial) qoks_n) ⟨rfl, ⟨p0, p1⟩, fun A9 i9 j9 f9 x0 => (by rw [← x0]; exact ⟨rfl, i9, j9, f9⟩)⟩
  exact ⟨hk.1 ▸ hB, hk.2⟩
def sC_isWritten : qS := fun as A K => ∃ i : Int, as = [rf 24, ni i] ∧ (iva IC A ∧ ivf JC A) ∧ ((0 ≤ i ∧ i ≤ 59 ∧ i < A 24 (fd 9) → K (some (ni 1)) A) ∧ (¬ (0 ≤ i ∧ i ≤ 59 ∧ i < A 24 (fd 9)) → K (some (ni 0)) A))
theorem okC_isWritten : okM LC 1 17 sC_isWritten := by
  refine qmeth [] false [] 16 rfl trivial ?_
  rintro _ A K hA has ⟨i, rfl, ⟨i0, j0⟩, hK⟩
  have rg_i : rng i := has (ni i) (by simp)
  have f0 := frm_0 [] [] A
  refine ⟨Nat.le_of_ble_eq_true rfl, [], trivial, ?_⟩
  refine And.intro (fun h1 => ?_) (fun h1 => ?_)
  · exact And.intro (by (first | (clear hm hnf; omega) | omega)) (hK.2 (by first | omega | (subst_vars; omega) | (simp_all; done) | (simp_all; omega)))
  · refine fun v2 gv2 e3 => ?_
    have b4 := ivf_at j0 2 rfl
    refine And.intro (fun h5 => ?_) (fun h5 => ?_)
    · exact And.intro (by (first | (clear hm hnf; omega) | omega)) (hK.2 (by first | omega | (subst_vars; omega) | (simp_all; done) | (simp_all; omega)))
    · exact And.intro (by (first | (clear hm hnf; omega) | omega)) (hK.1 (by first | omega | (subst_vars; omega) | (simp_all; done) | (simp_all; omega)))
def fC_fallFact (i w : Int) (A : qA) : Int := (if w = 0 then qlet (A 25 i) fun v4 => qlet (qd v4 6) fun v7 => v7 else (if w = 1 then qlet (A 25 i) fun v10 => qlet (qm v10 6) fun v13 => v13 else (if w = 2 then qlet (A 26 i) fun v16 => v16 else (if w = 3 then qlet (A 27 i) fun v19 => v19 else (if w = 4 then qlet (A 30 i) fun v22 => v22 else (if w = 5 then qlet (A 31 i) fun v25 => v25 else (if w = 6 then qlet (A 33 i) fun v28 => v28 else (-1000))))))))
def sC_fallFact : qS := fun as A K => ∃ i w : Int, as = [rf 24, ni i, ni w] ∧ (iva IC A ∧ ivf JC A ∧ 0 ≤ i ∧ i ≤ 60) ∧ (∀ r : Int, rng r → (r = fC_fallFact i w A) → K (some (ni r)) A)
theorem okC_fallFact : okM LC 1 18 sC_fallFact := by
  refine qmeth [] false [] 49 rfl trivial ?_
  rintro _ A K hA has ⟨i, w, rfl, ⟨i0, j0, p1, p2⟩, hK⟩
  have rg_i : rng i := has (ni i) (by simp)
  have rg_w : rng w := has (ni w) (by simp)
  have f0 := frm_0 [] [] A
  have hT : _ = fC_fallFact i w A := (fC_fallFact.eq_1 i w A).symm
  refine ⟨Nat.le_of_ble_eq_true rfl, [], trivial, ?_⟩
  refine (And.intro (fun h3 => ?_) (And.intro (fun h3 => ?_) (And.intro (fun h3 => ?_) (And.intro (fun h3 => ?_) (And.intro (fun h3 => ?_) (And.intro (fun h3 => ?_) (And.intro (fun h3 => ?_) (And.intro (fun h3 => ?_) trivial))))))))
  · replace hT := (if_neg (show ¬ (w = 0) by (first | (clear hm hnf; omega) | omega))).symm.trans hT
    replace hT := (if_neg (show ¬ (w = 1) by (first | (clear hm hnf; omega) | omega))).symm.trans hT
    replace hT := (if_neg (show ¬ (w = 2) by (first | (clear hm hnf; omega) | omega))).symm.trans hT
    replace hT := (if_neg (show ¬ (w = 3) by (first | (clear hm hnf; omega) | omega))).symm.trans hT
    replace hT := (if_neg (show ¬ (w = 4) by (first | (clear hm hnf; omega) | omega))).symm.trans hT
    replace hT := (if_neg (show ¬ (w = 5) by (first | (clear hm hnf; omega) | omega))).symm.trans hT
    replace hT := (if_neg (show ¬ (w = 6) by (first | (clear hm hnf; omega) | omega))).symm.trans hT
    exact hK _ (by first | assumption | exact wI_rng _ | exact ⟨by (first | (clear hm hnf; omega) | omega), by (first | (clear hm hnf; omega) | omega)⟩ | exact i_rng _ | (subst_vars; exact i_rng _) | exact (hA _ _).2 rfl) hT
  · replace hT := (if_pos (show w = 0 by (first | (clear hm hnf; omega) | omega))).symm.trans hT
    refine And.intro (by (first | (clear hm hnf; omega) | omega)) (fun v4 gv4 e5 => ?_)
    replace hT := qlc e5 hT
    have b6 := iva_at i0 17 rfl (i := i) (by (first | (clear hm hnf; omega) | omega)) (by (first | (clear hm hnf; omega) | omega))
    refine And.intro (by (first | (clear hm hnf; omega) | omega)) (fun v7 e8 => ?_)
    replace hT := qlc e8 hT
    have h9 := qd_nn (a := v4) (b := 6) (by (first | (clear hm hnf; omega) | omega))
    exact And.intro (by (first | (clear hm hnf; omega) | omega)) (hK _ (by first | assumption | exact wI_rng _ | exact ⟨by (first | (clear hm hnf; omega) | omega), by (first | (clear hm hnf; omega) | omega)⟩ | exact i_rng _ | (subst_vars; exact i_rng _) | exact (hA _ _).2 rfl) hT)
  · replace hT := (if_neg (show ¬ (w = 0) by (first | (clear hm hnf; omega) | omega))).symm.trans hT
    replace hT := (if_pos (show w = 1 by (first | (clear hm hnf; omega) | omega))).symm.trans hT
    refine And.intro (by (first | (clear hm hnf; omega) | omega)) (fun v10 gv10 e11 => ?_)
    replace hT := qlc e11 hT
    have b12 := iva_at i0 17 rfl (i := i) (by (first | (clear hm hnf; omega) | omega)) (by (first | (clear hm hnf; omega) | omega))
    refine And.intro (by (first | (clear hm hnf; omega) | omega)) (fun v13 e14 => ?_)
    replace hT := qlc e14 hT
    have h15 := qm_nn (a := v10) (b := 6) (by (first | (clear hm hnf; omega) | omega))
    exact hK _ (by first | assumption | exact wI_rng _ | exact ⟨by (first | (clear hm hnf; omega) | omega), by (first | (clear hm hnf; omega) | omega)⟩ | exact i_rng _ | (subst_vars; exact i_rng _) | exact (hA _ _).2 rfl) hT
  · replace hT := (if_neg (show ¬ (w = 0) by (first | (clear hm hnf; omega) | omega))).symm.trans hT
    replace hT := (if_neg (show ¬ (w = 1) by (first | (clear hm hnf; omega) | omega))).symm.trans hT
    replace hT := (if_pos (show w = 2 by (first | (clear hm hnf; omega) | omega))).symm.trans hT
    refine And.intro (by (first | (clear hm hnf; omega) | omega)) (fun v16 gv16 e17 => ?_)
    replace hT := qlc e17 hT
    have b18 := iva_at i0 18 rfl (i := i) (by (first | (clear hm hnf; omega) | omega)) (by (first | (clear hm hnf; omega) | omega))
    exact hK _ (by first | assumption | exact wI_rng _ | exact ⟨by (first | (clear hm hnf; omega) | omega), by (first | (clear hm hnf; omega) | omega)⟩ | exact i_rng _ | (subst_vars; exact i_rng _) | exact (hA _ _).2 rfl) hT
  · replace hT := (if_neg (show ¬ (w = 0) by (first | (clear hm hnf; omega) | omega))).symm.trans hT
    replace hT := (if_neg (show ¬ (w = 1) by (first | (clear hm hnf; omega) | omega))).symm.trans hT
    replace hT := (if_neg (show ¬ (w = 2) by (first | (clear hm hnf; omega) | omega))).symm.trans hT
    replace hT := (if_pos (show w = 3 by (first | (clear hm hnf; omega) | omega))).symm.trans hT
    refine And.intro (by (first | (clear hm hnf; omega) | omega)) (fun v19 gv19 e20 => ?_)
    replace hT := qlc e20 hT
    have b21 := iva_at i0 19 rfl (i := i) (by (first | (clear hm hnf; omega) | omega)) (by (first | (clear hm hnf; omega) | omega))
    exact hK _ (by first | assumption | exact wI_rng _ | exact ⟨by (first | (clear hm hnf; omega) | omega), by (first | (clear hm hnf; omega) | omega)⟩ | exact i_rng _ | (subst_vars; exact i_rng _) | exact (hA _ _).2 rfl) hT
  · replace hT := (if_neg (show ¬ (w = 0) by (first | (clear hm hnf; omega) | omega))).symm.trans hT
    replace hT := (if_neg (show ¬ (w = 1) by (first | (clear hm hnf; omega) | omega))).symm.trans hT
    replace hT := (if_neg (show ¬ (w = 2) by (first | (clear hm hnf; omega) | omega))).symm.trans hT
    replace hT := (if_neg (show ¬ (w = 3) by (first | (clear hm hnf; omega) | omega))).symm.trans hT
    replace hT := (if_pos (show w = 4 by (first | (clear hm hnf; omega) | omega))).symm.trans hT
    refine And.intro (by (first | (clear hm hnf; omega) | omega)) (fun v22 gv22 e23 => ?_)
    replace hT := qlc e23 hT
    have b24 := iva_at i0 20 rfl (i := i) (by (first | (clear hm hnf; omega) | omega)) (by (first | (clear hm hnf; omega) | omega))
    exact hK _ (by first | assumption | exact wI_rng _ | exact ⟨by (first | (clear hm hnf; omega) | omega), by (first | (clear hm hnf; omega) | omega)⟩ | exact i_rng _ | (subst_vars; exact i_rng _) | exact (hA _ _).2 rfl) hT
  · replace hT := (if_neg (show ¬ (w = 0) by (first | (clear hm hnf; omega) | omega))).symm.trans hT
    replace hT := (if_neg (show ¬ (w = 1) by (first | (clear hm hnf; omega) | omega))).symm.trans hT
    replace hT := (if_neg (show ¬ (w = 2) by (first | (clear hm hnf; omega) | omega))).symm.trans hT
    replace hT := (if_neg (show ¬ (w = 3) by (first | (clear hm hnf; omega) | omega))).symm.trans hT
    replace hT := (if_neg (show ¬ (w = 4) by (first | (clear hm hnf; omega) | omega))).symm.trans hT
    replace hT := (if_pos (show w = 5 by (first | (clear hm hnf; omega) | omega))).symm.trans hT
    refine And.intro (by (first | (clear hm hnf; omega) | omega)) (fun v25 gv25 e26 => ?_)
    replace hT := qlc e26 hT
    have b27 := iva_at i0 21 rfl (i := i) (by (first | (clear hm hnf; omega) | omega)) (by (first | (clear hm hnf; omega) | omega))
    exact hK _ (by first | assumption | exact wI_rng _ | exact ⟨by (first | (clear hm hnf; omega) | omega), by (first | (clear hm hnf; omega) | omega)⟩ | exact i_rng _ | (subst_vars; exact i_rng _) | exact (hA _ _).2 rfl) hT
  · replace hT := (if_neg (show ¬ (w = 0) by (first | (clear hm hnf; omega) | omega))).symm.trans hT
    replace hT := (if_neg (show ¬ (w = 1) by (first | (clear hm hnf; omega) | omega))).symm.trans hT
    replace hT := (if_neg (show ¬ (w = 2) by (first | (clear hm hnf; omega) | omega))).symm.trans hT
    replace hT := (if_neg (show ¬ (w = 3) by (first | (clear hm hnf; omega) | omega))).symm.trans hT
    replace hT := (if_neg (show ¬ (w = 4) by (first | (clear hm hnf; omega) | omega))).symm.trans hT
    replace hT := (if_neg (show ¬ (w = 5) by (first | (clear hm hnf; omega) | omega))).symm.trans hT
    replace hT := (if_pos (show w = 6 by (first | (clear hm hnf; omega) | omega))).symm.trans hT
    refine And.intro (by (first | (clear hm hnf; omega) | omega)) (fun v28 gv28 e29 => ?_)
    replace hT := qlc e29 hT
    exact hK _ (by first | assumption | exact wI_rng _ | exact ⟨by (first | (clear hm hnf; omega) | omega), by (first | (clear hm hnf; omega) | omega)⟩ | exact i_rng _ | (subst_vars; exact i_rng _) | exact (hA _ _).2 rfl) hT
theorem pC_fallFact {i w : Int} {A : qA} (hA : qokA LC A) (rg_w : rng w) (p0 : iva IC A) (p1 : ivf JC A) (p2 : 0 ≤ i) (p3 : i ≤ 60) : rng (fC_fallFact i w A) := by
  obtain ⟨r, B, hB, _, hk⟩ := okM_ex okC_fallFact (as := [rf 24, ni i, ni w]) (K := fun _ B => B = A ∧ rng (fC_fallFact i w A)) hA (qoks_c (show qok (rf _) from trivial) (qoks_c (show rng i from ⟨by (first | (clear hm hnf; omega) | omega), by (first | (clear hm hnf; omega) | omega)⟩) (qoks_c (rg_w) qoks_n))) ⟨i, w, rfl, ⟨p0, p1, p2, p3⟩, fun r9 g9 x0 => (by rw [← x0]; exact ⟨rfl, g9⟩)⟩
  exact hk.2
def fC_append_c2 (rec : Nat → List Int → qA → qA) (l1 k : Int) (B : qA) : qA := (if k < 0 then B else qlet (B 52 (fd 1)) fun v2 => (if v2 < 220 then qlet (B 52 (fd 1)) fun v6 => qlet (su l1 k) fun v10 => qlet (ia v10 255) fun v12 => qlet (qu B 53 v2 v12) fun A15 => qlet (A15 52 (fd 1)) fun v20 => qlet (v2 + 1) fun v24 => qlet (qu A15 52 (fd 1) v24) fun A26 => qlet (k + (-8)) fun v31 => rec 2 [l1, v31] A26 else B))
def fC_append_L : Nat → Nat → List Int → qA → qA
  | 0 => fun _ _ B => B
  | nF + 1 => fun k zs B => bif Nat.beq k 2 then (match zs with | [l1, k] => fC_append_c2 (fC_append_L nF) l1 k B | _ => B) else B
theorem fC_append_L2 (nF : Nat) (l1 k : Int) (B : qA) : fC_append_L (nF + 1) 2 [l1, k] B = fC_append_c2 (fC_append_L nF) l1 k B := (congrFun (congrFun (congrFun (fC_append_L.eq_2 nF) 2) [l1, k]) B).trans (qL1 rfl rfl)
def fC_append (x : Int) (A : qA) : qA := (fC_append_L 100000) 2 [x, 24] A
def sC_append : qS := fun as A K => ∃ x : Int, as = [rf 52, ni x] ∧ (iva IC A ∧ ivf JC A) ∧ (∀ A' : qA, iva IC A' → ivf JC A' → frm [53] [(52, 1)] A A' → (A' = fC_append x A) → K none A')
theorem okC_append : okM LC 1 84 sC_append := by
  refine qmeth [] false [] 33 rfl trivial ?_
  rintro _ A K hA has ⟨x, rfl, ⟨i0, j0⟩, hK⟩
  have rg_x : rng x := has (ni x) (by simp)
  have f0 := frm_0 [53] [(52, 1)] A
  have hT : _ = fC_append x A := (fC_append.eq_1 x A).symm
  refine ⟨Nat.le_of_ble_eq_true rfl, [(2, [(0, 2, 52), (1, 0, 0), (2, 0, 0)], fun zs B nn => match zs with | [l1, k] => iva IC B ∧ ivf JC B ∧ frm [53] [(52, 1)] A B ∧ nn = (k + 8 : Int).toNat ∧ (l1 = x) ∧ ((-8) ≤ k) ∧ (k ≤ 24) ∧ (∃ nf : Nat, nn < nf ∧ fC_append_L nf 2 [l1, k] B = fC_append x A) | _ => False)], ?_, ?_⟩
  · refine ⟨⟨rfl, ?_⟩, trivial⟩
    · refine fun l1 k B mm hB hz hI => ?_
      obtain ⟨i1, j1, f1, hm, c0, c1, c2, ⟨nf, hnf, hT⟩⟩ := hI
      obtain ⟨hz_l1, hz_k, _⟩ := hz
      obtain ⟨ng, rfl⟩ : ∃ k, nf = k + 1 := ⟨nf - 1, by omega⟩
      replace hT := (fC_append_c2.eq_1 (fC_append_L ng) l1 k B).symm.trans ((fC_append_L2 ng l1 k B).symm.trans hT)
      refine And.intro (fun h1 => ?_) (fun h1 => ?_)
      · replace hT := (if_pos h1).symm.trans hT
        exact hK _ i1 j1 f1 hT
      · replace hT := (if_neg (Int.not_lt.mpr h1)).symm.trans hT
        refine fun v2 gv2 e3 => ?_
        replace hT := qlc e3 hT
        have b4 := ivf_at j1 3 rfl
        refine And.intro (fun h5 => ?_) (fun h5 => ?_)
        · replace hT := (if_neg (Int.not_lt.mpr h5)).symm.trans hT
          exact hK _ i1 j1 f1 hT
        · replace hT := (if_pos h5).symm.trans hT
          refine fun v6 gv6 e7 => ?_
          replace hT := qlc e7 hT
          have b8 := ivf_at j1 3 rfl
          have q9 : v2 = v6 := (e7.trans e3.symm).symm
          subst q9
          refine fun v10 e11 => ?_
          replace hT := qlc e11 hT
          refine fun v12 e13 => ?_
          replace hT := qlc e13 hT
          have h14 := ia_bd (a := v10) (b := 255) (by (first | (clear hm hnf; omega) | omega)) (by (first | (clear hm hnf; omega) | omega))
          refine And.intro (by (first | (clear hm hnf; omega) | omega)) (fun A15 e16 => ?_)
          replace hT := qlc e16 hT
          have i17 := iva_st i1 e16 (And.intro (by (first | (clear hm hnf; omega) | omega)) trivial)
          have j18 := ivf_sa j1 e16 rfl
          have f19 := frm_s f1 e16 rfl
          refine fun v20 gv20 e21 => ?_
          replace hT := qlc e21 hT
          have b22 := ivf_at j18 3 rfl
          have q23 : v2 = v20 := (e21.trans ((congrFun (st_a e16 rfl) _).trans e7.symm)).symm
          subst q23
          refine fun v24 e25 => ?_
          replace hT := qlc e25 hT
          refine And.intro (by (first | (clear hm hnf; omega) | omega)) (fun A26 e27 => ?_)
          replace hT := qlc e27 hT
          have i28 := iva_sf i17 e27 rfl
          have j29 := ivf_st j18 e27 (And.intro (by (first | (clear hm hnf; omega) | omega)) trivial)
          have f30 := frm_sf f19 e27 rfl
          refine fun v31 e32 => ?_
          replace hT := qlc e32 hT
          exact And.intro (by (first | (clear hm hnf; omega) | omega)) (Exists.intro (v31 + 8 : Int).toNat (And.intro (by first | exact qtn hm (by (try clear hm hnf); omega) | omega) (And.intro i28 (And.intro j29 (And.intro f30 (And.intro rfl (And.intro (by (first | (clear hm hnf; omega) | omega)) (And.intro (by (first | (clear hm hnf; omega) | omega)) (And.intro (by (first | (clear hm hnf; omega) | omega)) (Exists.intro ng (And.intro (by first | exact qtm hm hnf (by (try clear hm hnf); omega) | omega) hT)))))))))))
  · exact Exists.intro (24 + 8 : Int).toNat (And.intro i0 (And.intro j0 (And.intro f0 (And.intro rfl (And.intro (by (first | (clear hm hnf; omega) | omega)) (And.intro (by (first | (clear hm hnf; omega) | omega)) (And.intro (by (first | (clear hm hnf; omega) | omega)) (Exists.intro 100000 (And.intro (by (first | (clear hm hnf; omega) | omega)) hT)))))))))
theorem pC_append {x : Int} {A : qA} (hA : qokA LC A) (rg_x : rng x) (p0 : iva IC A) (p1 : ivf JC A) : qokA LC (fC_append x A) ∧ iva IC (fC_append x A) ∧ ivf JC (fC_append x A) ∧ frm [53] [(52, 1)] A (fC_append x A) := by
  obtain ⟨r, B, hB, _, hk⟩ := okM_ex okC_append (as := [rf 52, ni x]) (K := fun _ B => B = (fC_append x A) ∧ iva IC (fC_append x A) ∧ ivf JC (fC_append x A) ∧ frm [53] [(52, 1)] A (fC_append x A)) hA (qoks_c (show qok (rf _) from trivial) (qoks_c (rg_x) qoks_n)) ⟨x, rfl, ⟨p0, p1⟩, fun A9 i9 j9 f9 x0 => (by rw [← x0]; exact ⟨rfl, i9, j9, f9⟩)⟩
  exact ⟨hk.1 ▸ hB, hk.2⟩
def fC_numberAt_c6 (rec : Nat → List Int → qA → Int) (l1 s k : Int) (A : qA) : Int := qlet (4 * l1) fun v8 => qlet (v8 + 4) fun v10 => (if k < (wI v10) then qlet (sl s 8) fun v16 => qlet (A 53 k) fun v18 => qlet (io v16 v18) fun v21 => qlet (k + 1) fun v23 => rec 6 [l1, v21, ((wI v23))] A else s)
def fC_numberAt_L : Nat → Nat → List Int → qA → Int
  | 0 => fun _ _ B => 0
  | nF + 1 => fun k zs B => bif Nat.beq k 6 then (match zs with | [l1, s, k] => fC_numberAt_c6 (fC_numberAt_L nF) l1 s k B | _ => 0) else 0
theorem fC_numberAt_L6 (nF : Nat) (l1 s k : Int) (B : qA) : fC_numberAt_L (nF + 1) 6 [l1, s, k] B = fC_numberAt_c6 (fC_numberAt_L nF) l1 s k B := (congrFun (congrFun (congrFun (fC_numberAt_L.eq_2 nF) 6) [l1, s, k]) B).trans (qL1 rfl rfl)
def fC_numberAt (p : Int) (A : qA) : Int := qlet (4 * p) fun v3 => (fC_numberAt_L 100000) 6 [p, 0, ((wI v3))] A
def sC_numberAt : qS := fun as A K => ∃ p : Int, as = [rf 52, ni p] ∧ (iva IC A ∧ ivf JC A ∧ 0 ≤ p ∧ p ≤ 5) ∧ (∀ r : Int, rng r → (r = fC_numberAt p A) → K (some (ni r)) A)
theorem okC_numberAt : okM LC 1 85 sC_numberAt := by
  refine qmeth [] true [] 37 rfl trivial ?_
  rintro _ A K hA has ⟨p, rfl, ⟨i0, j0, p1, p2⟩, hK⟩
  have rg_p : rng p := has (ni p) (by simp)
  have f0 := frm_0 [] [] A
  have hT : _ = fC_numberAt p A := (fC_numberAt.eq_1 p A).symm
  refine ⟨Nat.le_of_ble_eq_true rfl, [(6, [(0, 2, 52), (1, 0, 0), (2, 0, 0), (3, 0, 0)], fun zs B nn => match zs with | [l1, s, k] => A = B ∧ nn = (24 - k : Int).toNat ∧ (l1 = p) ∧ (0 ≤ k) ∧ (k ≤ 24) ∧ (∃ nf : Nat, nn < nf ∧ fC_numberAt_L nf 6 [l1, s, k] B = fC_numberAt p A) | _ => False)], ?_, ?_⟩
  · refine ⟨⟨rfl, ?_⟩, trivial⟩
    · refine fun l1 s k B mm hB hz hI => ?_
      obtain ⟨rfl, hm, c0, c1, c2, ⟨nf, hnf, hT⟩⟩ := hI
      obtain ⟨hz_l1, hz_s, hz_k, _⟩ := hz
      obtain ⟨ng, rfl⟩ : ∃ k, nf = k + 1 := ⟨nf - 1, by omega⟩
      replace hT := (fC_numberAt_c6.eq_1 (fC_numberAt_L ng) l1 s k A).symm.trans ((fC_numberAt_L6 ng l1 s k A).symm.trans hT)
      refine And.intro (fun h7 => by exfalso; omega) (fun h7 => ?_)
      refine fun v8 e9 => ?_
      replace hT := qlc e9 hT
      refine fun v10 e11 => ?_
      replace hT := qlc e11 hT
      have w13 := wI_rng v10
      have w14 : wI v10 = v10 := wI_id (by (first | (clear hm hnf; omega) | omega))
      refine And.intro (fun h12 => ?_) (fun h12 => ?_)
      · replace hT := (if_neg (Int.not_lt.mpr h12)).symm.trans hT
        exact hK _ (by first | assumption | exact wI_rng _ | exact ⟨by (first | (clear hm hnf; omega) | omega), by (first | (clear hm hnf; omega) | omega)⟩ | exact i_rng _ | (subst_vars; exact i_rng _) | exact (hA _ _).2 rfl) hT
      · replace hT := (if_pos h12).symm.trans hT
        refine And.intro (fun h15 => by exfalso; omega) (fun h15 => ?_)
        refine fun v16 e17 => ?_
        replace hT := qlc e17 hT
        refine And.intro (by (first | (clear hm hnf; omega) | omega)) (fun v18 gv18 e19 => ?_)
        replace hT := qlc e19 hT
        have b20 := iva_at i0 26 rfl (i := k) (by (first | (clear hm hnf; omega) | omega)) (by (first | (clear hm hnf; omega) | omega))
        refine fun v21 e22 => ?_
        replace hT := qlc e22 hT
        refine fun v23 e24 => ?_
        replace hT := qlc e24 hT
        have w25 := wI_rng v23
        have w26 : wI v23 = v23 := wI_id (by (first | (clear hm hnf; omega) | omega))
        exact Exists.intro (24 - ((wI v23)) : Int).toNat (And.intro (by first | exact qtn hm (by (try clear hm hnf); omega) | omega) (And.intro rfl (And.intro rfl (And.intro (by (first | (clear hm hnf; omega) | omega)) (And.intro (by (first | (clear hm hnf; omega) | omega)) (And.intro (by (first | (clear hm hnf; omega) | omega)) (Exists.intro ng (And.intro (by first | exact qtm hm hnf (by (try clear hm hnf); omega) | omega) hT))))))))
  · refine fun v3 e4 => ?_
    replace hT := qlc e4 hT
    have w5 := wI_rng v3
    have w6 : wI v3 = v3 := wI_id (by (first | (clear hm hnf; omega) | omega))
    exact Exists.intro (24 - ((wI v3)) : Int).toNat (And.intro rfl (And.intro rfl (And.intro (by (first | (clear hm hnf; omega) | omega)) (And.intro (by (first | (clear hm hnf; omega) | omega)) (And.intro (by (first | (clear hm hnf; omega) | omega)) (Exists.intro 100000 (And.intro (by (first | (clear hm hnf; omega) | omega)) hT)))))))
theorem pC_numberAt {p : Int} {A : qA} (hA : qokA LC A) (p0 : iva IC A) (p1 : ivf JC A) (p2 : 0 ≤ p) (p3 : p ≤ 5) : rng (fC_numberAt p A) := by
  obtain ⟨r, B, hB, _, hk⟩ := okM_ex okC_numberAt (as := [rf 52, ni p]) (K := fun _ B => B = A ∧ rng (fC_numberAt p A)) hA (qoks_c (show qok (rf _) from trivial) (qoks_c (show rng p from ⟨by (first | (clear hm hnf; omega) | omega), by (first | (clear hm hnf; omega) | omega)⟩) qoks_n)) ⟨p, rfl, ⟨p0, p1, p2, p3⟩, fun r9 g9 x0 => (by rw [← x0]; exact ⟨rfl, g9⟩)⟩
  exact hk.2
def fC_fill35_c5 (rec : Nat → List Int → qA → qA) (l1 i n : Int) (B : qA) : qA := (if i < n then qlet (qu B 35 i l1) fun A2 => qlet (i + 1) fun v7 => rec 5 [l1, v7, n] A2 else B)
def fC_fill35_L : Nat → Nat → List Int → qA → qA
  | 0 => fun _ _ B => B
  | nF + 1 => fun k zs B => bif Nat.beq k 5 then (match zs with | [l1, i, n] => fC_fill35_c5 (fC_fill35_L nF) l1 i n B | _ => B) else B
theorem fC_fill35_L5 (nF : Nat) (l1 i n : Int) (B : qA) : fC_fill35_L (nF + 1) 5 [l1, i, n] B = fC_fill35_c5 (fC_fill35_L nF) l1 i n B := (congrFun (congrFun (congrFun (fC_fill35_L.eq_2 nF) 5) [l1, i, n]) B).trans (qL1 rfl rfl)
def fC_fill35 (v : Int) (A : qA) : qA := (fC_fill35_L 100000) 5 [v, 0, (((14 : Nat) : Int))] A
def sC_fill35 : qS := fun as A K => ∃ v : Int, as = [rf 35, ni v] ∧ (iva IC A ∧ ivf JC A) ∧ (∀ A' : qA, iva IC A' → ivf JC A' → frm [35] [] A A' → (A' = fC_fill35 v A) → K none A')
theorem okC_fill35 : okM LC 1 250 sC_fill35 := by
  refine qmeth [] false [] 21 rfl trivial ?_
  rintro _ A K hA has ⟨v, rfl, ⟨i0, j0⟩, hK⟩
  have rg_v : rng v := has (ni v) (by simp)
  have f0 := frm_0 [35] [] A
  have hT : _ = fC_fill35 v A := (fC_fill35.eq_1 v A).symm
  refine ⟨Nat.le_of_ble_eq_true rfl, [(5, [(0, 2, 35), (1, 0, 0), (2, 0, 0), (3, 0, 0)], fun zs B nn => match zs with | [l1, i, n] => iva IC B ∧ ivf JC B ∧ frm [35] [] A B ∧ nn = (14 - i : Int).toNat ∧ (l1 = v) ∧ (0 ≤ i) ∧ (i ≤ 14) ∧ (n = 14) ∧ (∃ nf : Nat, nn < nf ∧ fC_fill35_L nf 5 [l1, i, n] B = fC_fill35 v A) | _ => False)], ?_, ?_⟩
  · refine ⟨⟨rfl, ?_⟩, trivial⟩
    · refine fun l1 i n B mm hB hz hI => ?_
      obtain ⟨i1, j1, f1, hm, c0, c1, c2, c3, ⟨nf, hnf, hT⟩⟩ := hI
      obtain ⟨hz_l1, hz_i, hz_n, _⟩ := hz
      obtain ⟨ng, rfl⟩ : ∃ k, nf = k + 1 := ⟨nf - 1, by omega⟩
      replace hT := (fC_fill35_c5.eq_1 (fC_fill35_L ng) l1 i n B).symm.trans ((fC_fill35_L5 ng l1 i n B).symm.trans hT)
      refine And.intro (fun h1 => ?_) (fun h1 => ?_)
      · replace hT := (if_neg (Int.not_lt.mpr h1)).symm.trans hT
        exact hK _ i1 j1 f1 hT
      · replace hT := (if_pos h1).symm.trans hT
        refine And.intro (by (first | (clear hm hnf; omega) | omega)) (fun A2 e3 => ?_)
        replace hT := qlc e3 hT
        have i4 := iva_st i1 e3 trivial
        have j5 := ivf_sa j1 e3 rfl
        have f6 := frm_s f1 e3 rfl
        refine fun v7 e8 => ?_
        replace hT := qlc e8 hT
        exact And.intro (by (first | (clear hm hnf; omega) | omega)) (Exists.intro (14 - v7 : Int).toNat (And.intro (by first | exact qtn hm (by (try clear hm hnf); omega) | omega) (And.intro i4 (And.intro j5 (And.intro f6 (And.intro rfl (And.intro (by (first | (clear hm hnf; omega) | omega)) (And.intro (by (first | (clear hm hnf; omega) | omega)) (And.intro (by (first | (clear hm hnf; omega) | omega)) (And.intro (by (first | (clear hm hnf; omega) | omega)) (Exists.intro ng (And.intro (by first | exact qtm hm hnf (by (try clear hm hnf); omega) | omega) hT))))))))))))
  · exact Exists.intro (14 - 0 : Int).toNat (And.intro i0 (And.intro j0 (And.intro f0 (And.intro rfl (And.intro (by (first | (clear hm hnf; omega) | omega)) (And.intro (by (first | (clear hm hnf; omega) | omega)) (And.intro (by (first | (clear hm hnf; omega) | omega)) (And.intro (by (first | (clear hm hnf; omega) | omega)) (Exists.intro 100000 (And.intro (by (first | (clear hm hnf; omega) | omega)) hT))))))))))
theorem pC_fill35 {v : Int} {A : qA} (hA : qokA LC A) (rg_v : rng v) (p0 : iva IC A) (p1 : ivf JC A) : qokA LC (fC_fill35 v A) ∧ iva IC (fC_fill35 v A) ∧ ivf JC (fC_fill35 v A) ∧ frm [35] [] A (fC_fill35 v A) := by
  obtain ⟨r, B, hB, _, hk⟩ := okM_ex okC_fill35 (as := [rf 35, ni v]) (K := fun _ B => B = (fC_fill35 v A) ∧ iva IC (fC_fill35 v A) ∧ ivf JC (fC_fill35 v A) ∧ frm [35] [] A (fC_fill35 v A)) hA (qoks_c (show qok (rf _) from trivial) (qoks_c (rg_v) qoks_n)) ⟨v, rfl, ⟨p0, p1⟩, fun A9 i9 j9 f9 x0 => (by rw [← x0]; exact ⟨rfl, i9, j9, f9⟩)⟩
  exact ⟨hk.1 ▸ hB, hk.2⟩
def fC_fill45_c5 (rec : Nat → List Int → qA → qA) (l1 i n : Int) (B : qA) : qA := (if i < n then qlet (qu B 45 i l1) fun A2 => qlet (i + 1) fun v7 => rec 5 [l1, v7, n] A2 else B)
def fC_fill45_L : Nat → Nat → List Int → qA → qA
  | 0 => fun _ _ B => B
  | nF + 1 => fun k zs B => bif Nat.beq k 5 then (match zs with | [l1, i, n] => fC_fill45_c5 (fC_fill45_L nF) l1 i n B | _ => B) else B
theorem fC_fill45_L5 (nF : Nat) (l1 i n : Int) (B : qA) : fC_fill45_L (nF + 1) 5 [l1, i, n] B = fC_fill45_c5 (fC_fill45_L nF) l1 i n B := (congrFun (congrFun (congrFun (fC_fill45_L.eq_2 nF) 5) [l1, i, n]) B).trans (qL1 rfl rfl)
def fC_fill45 (v : Int) (A : qA) : qA := (fC_fill45_L 100000) 5 [v, 0, (((8 : Nat) : Int))] A
def sC_fill45 : qS := fun as A K => ∃ v : Int, as = [rf 45, ni v] ∧ (iva IC A ∧ ivf JC A) ∧ (∀ A' : qA, iva IC A' → ivf JC A' → frm [45] [] A A' → (A' = fC_fill45 v A) → K none A')
theorem okC_fill45 : okM LC 1 250 sC_fill45 := by
  refine qmeth [] false [] 21 rfl trivial ?_
  rintro _ A K hA has ⟨v, rfl, ⟨i0, j0⟩, hK⟩
  have rg_v : rng v := has (ni v) (by simp)
  have f0 := frm_0 [45] [] A
  have hT : _ = fC_fill45 v A := (fC_fill45.eq_1 v A).symm
  refine ⟨Nat.le_of_ble_eq_true rfl, [(5, [(0, 2, 45), (1, 0, 0), (2, 0, 0), (3, 0, 0)], fun zs B nn => match zs with | [l1, i, n] => iva IC B ∧ ivf JC B ∧ frm [45] [] A B ∧ nn = (8 - i : Int).toNat ∧ (l1 = v) ∧ (0 ≤ i) ∧ (i ≤ 8) ∧ (n = 8) ∧ (∃ nf : Nat, nn < nf ∧ fC_fill45_L nf 5 [l1, i, n] B = fC_fill45 v A) | _ => False)], ?_, ?_⟩
  · refine ⟨⟨rfl, ?_⟩, trivial⟩
    · refine fun l1 i n B mm hB hz hI => ?_
      obtain ⟨i1, j1, f1, hm, c0, c1, c2, c3, ⟨nf, hnf, hT⟩⟩ := hI
      obtain ⟨hz_l1, hz_i, hz_n, _⟩ := hz
      obtain ⟨ng, rfl⟩ : ∃ k, nf = k + 1 := ⟨nf - 1, by omega⟩
      replace hT := (fC_fill45_c5.eq_1 (fC_fill45_L ng) l1 i n B).symm.trans ((fC_fill45_L5 ng l1 i n B).symm.trans hT)
      refine And.intro (fun h1 => ?_) (fun h1 => ?_)
      · replace hT := (if_neg (Int.not_lt.mpr h1)).symm.trans hT
        exact hK _ i1 j1 f1 hT
      · replace hT := (if_pos h1).symm.trans hT
        refine And.intro (by (first | (clear hm hnf; omega) | omega)) (fun A2 e3 => ?_)
        replace hT := qlc e3 hT
        have i4 := iva_st i1 e3 trivial
        have j5 := ivf_sa j1 e3 rfl
        have f6 := frm_s f1 e3 rfl
        refine fun v7 e8 => ?_
        replace hT := qlc e8 hT
        exact And.intro (by (first | (clear hm hnf; omega) | omega)) (Exists.intro (8 - v7 : Int).toNat (And.intro (by first | exact qtn hm (by (try clear hm hnf); omega) | omega) (And.intro i4 (And.intro j5 (And.intro f6 (And.intro rfl (And.intro (by (first | (clear hm hnf; omega) | omega)) (And.intro (by (first | (clear hm hnf; omega) | omega)) (And.intro (by (first | (clear hm hnf; omega) | omega)) (And.intro (by (first | (clear hm hnf; omega) | omega)) (Exists.intro ng (And.intro (by first | exact qtm hm hnf (by (try clear hm hnf); omega) | omega) hT))))))))))))
  · exact Exists.intro (8 - 0 : Int).toNat (And.intro i0 (And.intro j0 (And.intro f0 (And.intro rfl (And.intro (by (first | (clear hm hnf; omega) | omega)) (And.intro (by (first | (clear hm hnf; omega) | omega)) (And.intro (by (first | (clear hm hnf; omega) | omega)) (And.intro (by (first | (clear hm hnf; omega) | omega)) (Exists.intro 100000 (And.intro (by (first | (clear hm hnf; omega) | omega)) hT))))))))))
theorem pC_fill45 {v : Int} {A : qA} (hA : qokA LC A) (rg_v : rng v) (p0 : iva IC A) (p1 : ivf JC A) : qokA LC (fC_fill45 v A) ∧ iva IC (fC_fill45 v A) ∧ ivf JC (fC_fill45 v A) ∧ frm [45] [] A (fC_fill45 v A) := by
  obtain ⟨r, B, hB, _, hk⟩ := okM_ex okC_fill45 (as := [rf 45, ni v]) (K := fun _ B => B = (fC_fill45 v A) ∧ iva IC (fC_fill45 v A) ∧ ivf JC (fC_fill45 v A) ∧ frm [45] [] A (fC_fill45 v A)) hA (qoks_c (show qok (rf _) from trivial) (qoks_c (rg_v) qoks_n)) ⟨v, rfl, ⟨p0, p1⟩, fun A9 i9 j9 f9 x0 => (by rw [← x0]; exact ⟨rfl, i9, j9, f9⟩)⟩
  exact ⟨hk.1 ▸ hB, hk.2⟩
def fC_fill57_c5 (rec : Nat → List Int → qA → qA) (l1 i n : Int) (B : qA) : qA := (if i < n then qlet (qu B 57 i l1) fun A2 => qlet (i + 1) fun v7 => rec 5 [l1, v7, n] A2 else B)
def fC_fill57_L : Nat → Nat → List Int → qA → qA
  | 0 => fun _ _ B => B
  | nF + 1 => fun k zs B => bif Nat.beq k 5 then (match zs with | [l1, i, n] => fC_fill57_c5 (fC_fill57_L nF) l1 i n B | _ => B) else B
theorem fC_fill57_L5 (nF : Nat) (l1 i n : Int) (B : qA) : fC_fill57_L (nF + 1) 5 [l1, i, n] B = fC_fill57_c5 (fC_fill57_L nF) l1 i n B := (congrFun (congrFun (congrFun (fC_fill57_L.eq_2 nF) 5) [l1, i, n]) B).trans (qL1 rfl rfl)
def fC_fill57 (v : Int) (A : qA) : qA := (fC_fill57_L 100000) 5 [v, 0, (((72 : Nat) : Int))] A
def sC_fill57 : qS := fun as A K => ∃ v : Int, as = [rf 57, ni v] ∧ (iva IC A ∧ ivf JC A) ∧ (∀ A' : qA, iva IC A' → ivf JC A' → frm [57] [] A A' → (A' = fC_fill57 v A) → K none A')
theorem okC_fill57 : okM LC 1 250 sC_fill57 := by
  refine qmeth [] false [] 21 rfl trivial ?_
  rintro _ A K hA has ⟨v, rfl, ⟨i0, j0⟩, hK⟩
  have rg_v : rng v := has (ni v) (by simp)
  have f0 := frm_0 [57] [] A
  have hT : _ = fC_fill57 v A := (fC_fill57.eq_1 v A).symm
  refine ⟨Nat.le_of_ble_eq_true rfl, [(5, [(0, 2, 57), (1, 0, 0), (2, 0, 0), (3, 0, 0)], fun zs B nn => match zs with | [l1, i, n] => iva IC B ∧ ivf JC B ∧ frm [57] [] A B ∧ nn = (72 - i : Int).toNat ∧ (l1 = v) ∧ (0 ≤ i) ∧ (i ≤ 72) ∧ (n = 72) ∧ (∃ nf : Nat, nn < nf ∧ fC_fill57_L nf 5 [l1, i, n] B = fC_fill57 v A) | _ => False)], ?_, ?_⟩
  · refine ⟨⟨rfl, ?_⟩, trivial⟩
    · refine fun l1 i n B mm hB hz hI => ?_
      obtain ⟨i1, j1, f1, hm, c0, c1, c2, c3, ⟨nf, hnf, hT⟩⟩ := hI
      obtain ⟨hz_l1, hz_i, hz_n, _⟩ := hz
      obtain ⟨ng, rfl⟩ : ∃ k, nf = k + 1 := ⟨nf - 1, by omega⟩
      replace hT := (fC_fill57_c5.eq_1 (fC_fill57_L ng) l1 i n B).symm.trans ((fC_fill57_L5 ng l1 i n B).symm.trans hT)
      refine And.intro (fun h1 => ?_) (fun h1 => ?_)
      · replace hT := (if_neg (Int.not_lt.mpr h1)).symm.trans hT
        exact hK _ i1 j1 f1 hT
      · replace hT := (if_pos h1).symm.trans hT
        refine And.intro (by (first | (clear hm hnf; omega) | omega)) (fun A2 e3 => ?_)
        replace hT := qlc e3 hT
        have i4 := iva_st i1 e3 trivial
        have j5 := ivf_sa j1 e3 rfl
        have f6 := frm_s f1 e3 rfl
        refine fun v7 e8 => ?_
        replace hT := qlc e8 hT
        exact And.intro (by (first | (clear hm hnf; omega) | omega)) (Exists.intro (72 - v7 : Int).toNat (And.intro (by first | exact qtn hm (by (try clear hm hnf); omega) | omega) (And.intro i4 (And.intro j5 (And.intro f6 (And.intro rfl (And.intro (by (first | (clear hm hnf; omega) | omega)) (And.intro (by (first | (clear hm hnf; omega) | omega)) (And.intro (by (first | (clear hm hnf; omega) | omega)) (And.intro (by (first | (clear hm hnf; omega) | omega)) (Exists.intro ng (And.intro (by first | exact qtm hm hnf (by (try clear hm hnf); omega) | omega) hT))))))))))))
  · exact Exists.intro (72 - 0 : Int).toNat (And.intro i0 (And.intro j0 (And.intro f0 (And.intro rfl (And.intro (by (first | (clear hm hnf; omega) | omega)) (And.intro (by (first | (clear hm hnf; omega) | omega)) (And.intro (by (first | (clear hm hnf; omega) | omega)) (And.intro (by (first | (clear hm hnf; omega) | omega)) (Exists.intro 100000 (And.intro (by (first | (clear hm hnf; omega) | omega)) hT))))))))))
theorem pC_fill57 {v : Int} {A : qA} (hA : qokA LC A) (rg_v : rng v) (p0 : iva IC A) (p1 : ivf JC A) : qokA LC (fC_fill57 v A) ∧ iva IC (fC_fill57 v A) ∧ ivf JC (fC_fill57 v A) ∧ frm [57] [] A (fC_fill57 v A) := by
  obtain ⟨r, B, hB, _, hk⟩ := okM_ex okC_fill57 (as := [rf 57, ni v]) (K := fun _ B => B = (fC_fill57 v A) ∧ iva IC (fC_fill57 v A) ∧ ivf JC (fC_fill57 v A) ∧ frm [57] [] A (fC_fill57 v A)) hA (qoks_c (show qok (rf _) from trivial) (qoks_c (rg_v) qoks_n)) ⟨v, rfl, ⟨p0, p1⟩, fun A9 i9 j9 f9 x0 => (by rw [← x0]; exact ⟨rfl, i9, j9, f9⟩)⟩
  exact ⟨hk.1 ▸ hB, hk.2⟩
def fC_fill69_c5 (rec : Nat → List Int → qA → qA) (l1 i n : Int) (B : qA) : qA := (if i < n then qlet (qu B 69 i l1) fun A2 => qlet (i + 1) fun v7 => rec 5 [l1, v7, n] A2 else B)
def fC_fill69_L : Nat → Nat → List Int → qA → qA
  | 0 => fun _ _ B => B
  | nF + 1 => fun k zs B => bif Nat.beq k 5 then (match zs with | [l1, i, n] => fC_fill69_c5 (fC_fill69_L nF) l1 i n B | _ => B) else B
theorem fC_fill69_L5 (nF : Nat) (l1 i n : Int) (B : qA) : fC_fill69_L (nF + 1) 5 [l1, i, n] B = fC_fill69_c5 (fC_fill69_L nF) l1 i n B := (congrFun (congrFun (congrFun (fC_fill69_L.eq_2 nF) 5) [l1, i, n]) B).trans (qL1 rfl rfl)
def fC_fill69 (v : Int) (A : qA) : qA := (fC_fill69_L 100000) 5 [v, 0, (((24 : Nat) : Int))] A
def sC_fill69 : qS := fun as A K => ∃ v : Int, as = [rf 69, ni v] ∧ (iva IC A ∧ ivf JC A) ∧ (∀ A' : qA, iva IC A' → ivf JC A' → frm [69] [] A A' → (A' = fC_fill69 v A) → K none A')
theorem okC_fill69 : okM LC 1 250 sC_fill69 := by
  refine qmeth [] false [] 21 rfl trivial ?_
  rintro _ A K hA has ⟨v, rfl, ⟨i0, j0⟩, hK⟩
  have rg_v : rng v := has (ni v) (by simp)
  have f0 := frm_0 [69] [] A
  have hT : _ = fC_fill69 v A := (fC_fill69.eq_1 v A).symm
  refine ⟨Nat.le_of_ble_eq_true rfl, [(5, [(0, 2, 69), (1, 0, 0), (2, 0, 0), (3, 0, 0)], fun zs B nn => match zs with | [l1, i, n] => iva IC B ∧ ivf JC B ∧ frm [69] [] A B ∧ nn = (24 - i : Int).toNat ∧ (l1 = v) ∧ (0 ≤ i) ∧ (i ≤ 24) ∧ (n = 24) ∧ (∃ nf : Nat, nn < nf ∧ fC_fill69_L nf 5 [l1, i, n] B = fC_fill69 v A) | _ => False)], ?_, ?_⟩
  · refine ⟨⟨rfl, ?_⟩, trivial⟩
    · refine fun l1 i n B mm hB hz hI => ?_
      obtain ⟨i1, j1, f1, hm, c0, c1, c2, c3, ⟨nf, hnf, hT⟩⟩ := hI
      obtain ⟨hz_l1, hz_i, hz_n, _⟩ := hz
      obtain ⟨ng, rfl⟩ : ∃ k, nf = k + 1 := ⟨nf - 1, by omega⟩
      replace hT := (fC_fill69_c5.eq_1 (fC_fill69_L ng) l1 i n B).symm.trans ((fC_fill69_L5 ng l1 i n B).symm.trans hT)
      refine And.intro (fun h1 => ?_) (fun h1 => ?_)
      · replace hT := (if_neg (Int.not_lt.mpr h1)).symm.trans hT
        exact hK _ i1 j1 f1 hT
      · replace hT := (if_pos h1).symm.trans hT
        refine And.intro (by (first | (clear hm hnf; omega) | omega)) (fun A2 e3 => ?_)
        replace hT := qlc e3 hT
        have i4 := iva_st i1 e3 trivial
        have j5 := ivf_sa j1 e3 rfl
        have f6 := frm_s f1 e3 rfl
        refine fun v7 e8 => ?_
        replace hT := qlc e8 hT
        exact And.intro (by (first | (clear hm hnf; omega) | omega)) (Exists.intro (24 - v7 : Int).toNat (And.intro (by first | exact qtn hm (by (try clear hm hnf); omega) | omega) (And.intro i4 (And.intro j5 (And.intro f6 (And.intro rfl (And.intro (by (first | (clear hm hnf; omega) | omega)) (And.intro (by (first | (clear hm hnf; omega) | omega)) (And.intro (by (first | (clear hm hnf; omega) | omega)) (And.intro (by (first | (clear hm hnf; omega) | omega)) (Exists.intro ng (And.intro (by first | exact qtm hm hnf (by (try clear hm hnf); omega) | omega) hT))))))))))))
  · exact Exists.intro (24 - 0 : Int).toNat (And.intro i0 (And.intro j0 (And.intro f0 (And.intro rfl (And.intro (by (first | (clear hm hnf; omega) | omega)) (And.intro (by (first | (clear hm hnf; omega) | omega)) (And.intro (by (first | (clear hm hnf; omega) | omega)) (And.intro (by (first | (clear hm hnf; omega) | omega)) (Exists.intro 100000 (And.intro (by (first | (clear hm hnf; omega) | omega)) hT))))))))))
theorem pC_fill69 {v : Int} {A : qA} (hA : qokA LC A) (rg_v : rng v) (p0 : iva IC A) (p1 : ivf JC A) : qokA LC (fC_fill69 v A) ∧ iva IC (fC_fill69 v A) ∧ ivf JC (fC_fill69 v A) ∧ frm [69] [] A (fC_fill69 v A) := by
  obtain ⟨r, B, hB, _, hk⟩ := okM_ex okC_fill69 (as := [rf 69, ni v]) (K := fun _ B => B = (fC_fill69 v A) ∧ iva IC (fC_fill69 v A) ∧ ivf JC (fC_fill69 v A) ∧ frm [69] [] A (fC_fill69 v A)) hA (qoks_c (show qok (rf _) from trivial) (qoks_c (rg_v) qoks_n)) ⟨v, rfl, ⟨p0, p1⟩, fun A9 i9 j9 f9 x0 => (by rw [← x0]; exact ⟨rfl, i9, j9, f9⟩)⟩
  exact ⟨hk.1 ▸ hB, hk.2⟩
def fC_bitsL (x : Int) (A : qA) : Int := qlet (jsu x 1) fun v1 => qlet (ja v1 (qnL 6148914691236517205)) fun v3 => qlet (jsub x v3) fun v5 => qlet (ja v5 (qnL 3689348814741910323)) fun v7 => qlet (jsu v5 2) fun v9 => qlet (ja v9 (qnL 3689348814741910323)) fun v11 => qlet (jadd v7 v11) fun v13 => qlet (jsu v13 4) fun v15 => qlet (jadd v13 v15) fun v17 => qlet (ja v17 (qnL 1085102592571150095)) fun v19 => qlet (jsu v19 8) fun v21 => qlet (jadd v19 v21) fun v23 => qlet (jsu v23 16) fun v25 => qlet (jadd v23 v25) fun v27 => qlet (jsu v27 32) fun v29 => qlet (jadd v27 v29) fun v31 => qlet (ia v31 127) fun v33 => v33
def sC_bitsL : qS := fun as A K => ∃ x : Int, as = [nl x] ∧ (∀ r : Int, rng r → (r = fC_bitsL x A) → K (some (ni r)) A)
theorem okC_bitsL : okM LC 1 249 sC_bitsL := by
  refine qmeth [] true [] 55 rfl trivial ?_
  rintro _ A K hA has ⟨x, rfl, hK⟩
  have rg_x : rngL x := has (nl x) (by simp)
  have hT : _ = fC_bitsL x A := (fC_bitsL.eq_1 x A).symm
  refine ⟨Nat.le_of_ble_eq_true rfl, [], trivial, ?_⟩
  refine fun v1 e2 => ?_
  replace hT := qlc e2 hT
  refine fun v3 e4 => ?_
  replace hT := qlc e4 hT
  refine fun v5 e6 => ?_
  replace hT := qlc e6 hT
  refine fun v7 e8 => ?_
  replace hT := qlc e8 hT
  refine fun v9 e10 => ?_
  replace hT := qlc e10 hT
  refine fun v11 e12 => ?_
  replace hT := qlc e12 hT
  refine fun v13 e14 => ?_
  replace hT := qlc e14 hT
  refine fun v15 e16 => ?_
  replace hT := qlc e16 hT
  refine fun v17 e18 => ?_
  replace hT := qlc e18 hT
  refine fun v19 e20 => ?_
  replace hT := qlc e20 hT
  refine fun v21 e22 => ?_
  replace hT := qlc e22 hT
  refine fun v23 e24 => ?_
  replace hT := qlc e24 hT
  refine fun v25 e26 => ?_
  replace hT := qlc e26 hT
  refine fun v27 e28 => ?_
  replace hT := qlc e28 hT
  refine fun v29 e30 => ?_
  replace hT := qlc e30 hT
  refine fun v31 e32 => ?_
  replace hT := qlc e32 hT
  refine fun v33 e34 => ?_
  replace hT := qlc e34 hT
  have h35 := ia_bd (a := v31) (b := 127) (by (first | (clear hm hnf; omega) | omega)) (by (first | (clear hm hnf; omega) | omega))
  exact hK _ (by first | assumption | exact wI_rng _ | exact ⟨by (first | (clear hm hnf; omega) | omega), by (first | (clear hm hnf; omega) | omega)⟩ | exact i_rng _ | (subst_vars; exact i_rng _) | exact (hA _ _).2 rfl) hT
theorem pC_bitsL {x : Int} {A : qA} (hA : qokA LC A) (rg_x : rngL x) : rng (fC_bitsL x A) := by
  obtain ⟨r, B, hB, _, hk⟩ := okM_ex okC_bitsL (as := [nl x]) (K := fun _ B => B = A ∧ rng (fC_bitsL x A)) hA (qoks_c (rg_x) qoks_n) ⟨x, rfl, fun r9 g9 x0 => (by rw [← x0]; exact ⟨rfl, g9⟩)⟩
  exact hk.2
def fC_bitsI (x : Int) (A : qA) : Int := qlet (su x 1) fun v1 => qlet (ia v1 (qn 1431655765)) fun v4 => qlet (x - v4) fun v7 => qlet (ia v7 (qn 858993459)) fun v10 => qlet (su v7 2) fun v13 => qlet (ia v13 (qn 858993459)) fun v16 => qlet (v10 + v16) fun v19 => qlet (su v19 4) fun v21 => qlet (v19 + v21) fun v23 => qlet (ia v23 (qn 252645135)) fun v26 => qlet (su v26 8) fun v29 => qlet (v26 + v29) fun v31 => qlet (su v31 16) fun v33 => qlet (v31 + v33) fun v35 => qlet (ia v35 63) fun v37 => v37
def sC_bitsI : qS := fun as A K => ∃ x : Int, as = [ni x] ∧ (∀ r : Int, rng r → (r = fC_bitsI x A) → K (some (ni r)) A)
theorem okC_bitsI : okM LC 1 248 sC_bitsI := by
  refine qmeth [] true [] 48 rfl trivial ?_
  rintro _ A K hA has ⟨x, rfl, hK⟩
  have rg_x : rng x := has (ni x) (by simp)
  have hT : _ = fC_bitsI x A := (fC_bitsI.eq_1 x A).symm
  refine ⟨Nat.le_of_ble_eq_true rfl, [], trivial, ?_⟩
  refine fun v1 e2 => ?_
  replace hT := qlc e2 hT
  have k3 : qn 1431655765 = 1431655765 := by decide
  refine fun v4 e5 => ?_
  replace hT := qlc e5 hT
  have h6 := ia_bd (a := v1) (b := (qn 1431655765)) (by (first | (clear hm hnf; omega) | omega)) (by (first | (clear hm hnf; omega) | omega))
  refine fun v7 e8 => ?_
  replace hT := qlc e8 hT
  have k9 : qn 858993459 = 858993459 := by decide
  refine fun v10 e11 => ?_
  replace hT := qlc e11 hT
  have h12 := ia_bd (a := v7) (b := (qn 858993459)) (by (first | (clear hm hnf; omega) | omega)) (by (first | (clear hm hnf; omega) | omega))
  refine fun v13 e14 => ?_
  replace hT := qlc e14 hT
  have k15 : qn 858993459 = 858993459 := by decide
  refine fun v16 e17 => ?_
  replace hT := qlc e17 hT
  have h18 := ia_bd (a := v13) (b := (qn 858993459)) (by (first | (clear hm hnf; omega) | omega)) (by (first | (clear hm hnf; omega) | omega))
  refine fun v19 e20 => ?_
  replace hT := qlc e20 hT
  refine fun v21 e22 => ?_
  replace hT := qlc e22 hT
  refine fun v23 e24 => ?_
  replace hT := qlc e24 hT
  have k25 : qn 252645135 = 252645135 := by decide
  refine fun v26 e27 => ?_
  replace hT := qlc e27 hT
  have h28 := ia_bd (a := v23) (b := (qn 252645135)) (by (first | (clear hm hnf; omega) | omega)) (by (first | (clear hm hnf; omega) | omega))
  refine fun v29 e30 => ?_
  replace hT := qlc e30 hT
  refine fun v31 e32 => ?_
  replace hT := qlc e32 hT
  refine fun v33 e34 => ?_
  replace hT := qlc e34 hT
  refine fun v35 e36 => ?_
  replace hT := qlc e36 hT
  refine fun v37 e38 => ?_
  replace hT := qlc e38 hT
  have h39 := ia_bd (a := v35) (b := 63) (by (first | (clear hm hnf; omega) | omega)) (by (first | (clear hm hnf; omega) | omega))
  exact hK _ (by first | assumption | exact wI_rng _ | exact ⟨by (first | (clear hm hnf; omega) | omega), by (first | (clear hm hnf; omega) | omega)⟩ | exact i_rng _ | (subst_vars; exact i_rng _) | exact (hA _ _).2 rfl) hT
theorem pC_bitsI {x : Int} {A : qA} (hA : qokA LC A) (rg_x : rng x) : rng (fC_bitsI x A) := by
  obtain ⟨r, B, hB, _, hk⟩ := okM_ex okC_bitsI (as := [ni x]) (K := fun _ B => B = A ∧ rng (fC_bitsI x A)) hA (qoks_c (rg_x) qoks_n) ⟨x, rfl, fun r9 g9 x0 => (by rw [← x0]; exact ⟨rfl, g9⟩)⟩
  exact hk.2
