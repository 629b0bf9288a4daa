def fC_joined (g a b : Int) (A : qA) : Int := (if g = 37 then (if b = 0 then 0 else qlet (qm a b) fun v10 => v10) else (if g = 42 then qlet (a * b) fun v13 => (wI v13) else (if g = 43 then qlet (a + b) fun v16 => (wI v16) else (if g = 45 then qlet (a - b) fun v19 => (wI v19) else (if g = 47 then (if b = 0 then 0 else qlet (qd a b) fun v23 => (wI v23)) else (if g = 60 then (if a < b then 1 else 0) else (if g = 62 then (if b < a then 1 else 0) else (if a = b then 1 else 0))))))))
def sC_joined : qS := fun as A K => ∃ g a b : Int, as = [ni g, ni a, ni b] ∧ (∀ r : Int, rng r → (r = fC_joined g a b A) → K (some (ni r)) A)
theorem okC_joined : okM LC 1 78 sC_joined := by
  refine qmeth [] true [] 57 rfl trivial ?_
  rintro _ A K hA has ⟨g, a, b, rfl, hK⟩
  have rg_g : rng g := has (ni g) (by simp)
  have rg_a : rng a := has (ni a) (by simp)
  have rg_b : rng b := has (ni b) (by simp)
  have hT : _ = fC_joined g a b A := (fC_joined.eq_1 g a b A).symm
  refine ⟨Nat.le_of_ble_eq_true rfl, [], trivial, ?_⟩
  refine (And.intro (fun h1 => ?_) (fun h8 => (And.intro (fun h1 => ?_) (fun h7 => (And.intro (fun h1 => ?_) (fun h6 => (And.intro (fun h1 => ?_) (fun h5 => (And.intro (fun h1 => ?_) (fun h4 => (And.intro (fun h1 => ?_) (fun h3 => (And.intro (fun h1 => ?_) (fun h2 => ?_))))))))))))))
  · replace hT := (if_pos (show g = 37 by (first | (clear hm hnf; omega) | omega))).symm.trans hT
    refine And.intro (fun h9 => ?_) (fun h9 => ?_)
    · replace hT := (if_neg h9).symm.trans hT
      refine And.intro (by (first | (clear hm hnf; omega) | omega)) (fun v10 e11 => ?_)
      replace hT := qlc e11 hT
      have h12 := qm_rng (a := a) (b := b) (by (first | (clear hm hnf; omega) | omega))
      exact hK _ (by first | assumption | exact wI_rng _ | exact ⟨by (first | (clear hm hnf; omega) | omega), by (first | (clear hm hnf; omega) | omega)⟩ | exact i_rng _ | (subst_vars; exact i_rng _) | exact (hA _ _).2 rfl) hT
    · replace hT := (if_pos h9).symm.trans hT
      exact hK _ (by first | assumption | exact wI_rng _ | exact ⟨by (first | (clear hm hnf; omega) | omega), by (first | (clear hm hnf; omega) | omega)⟩ | exact i_rng _ | (subst_vars; exact i_rng _) | exact (hA _ _).2 rfl) hT
  · replace hT := (if_neg (show ¬ (g = 37) by (first | (clear hm hnf; omega) | omega))).symm.trans hT
    replace hT := (if_pos (show g = 42 by (first | (clear hm hnf; omega) | omega))).symm.trans hT
    refine fun v13 e14 => ?_
    replace hT := qlc e14 hT
    have w15 := wI_rng v13
    exact hK _ (by first | assumption | exact wI_rng _ | exact ⟨by (first | (clear hm hnf; omega) | omega), by (first | (clear hm hnf; omega) | omega)⟩ | exact i_rng _ | (subst_vars; exact i_rng _) | exact (hA _ _).2 rfl) hT
  · replace hT := (if_neg (show ¬ (g = 37) by (first | (clear hm hnf; omega) | omega))).symm.trans hT
    replace hT := (if_neg (show ¬ (g = 42) by (first | (clear hm hnf; omega) | omega))).symm.trans hT
    replace hT := (if_pos (show g = 43 by (first | (clear hm hnf; omega) | omega))).symm.trans hT
    refine fun v16 e17 => ?_
    replace hT := qlc e17 hT
    have w18 := wI_rng v16
    exact hK _ (by first | assumption | exact wI_rng _ | exact ⟨by (first | (clear hm hnf; omega) | omega), by (first | (clear hm hnf; omega) | omega)⟩ | exact i_rng _ | (subst_vars; exact i_rng _) | exact (hA _ _).2 rfl) hT
  · replace hT := (if_neg (show ¬ (g = 37) by (first | (clear hm hnf; omega) | omega))).symm.trans hT
    replace hT := (if_neg (show ¬ (g = 42) by (first | (clear hm hnf; omega) | omega))).symm.trans hT
    replace hT := (if_neg (show ¬ (g = 43) by (first | (clear hm hnf; omega) | omega))).symm.trans hT
    replace hT := (if_pos (show g = 45 by (first | (clear hm hnf; omega) | omega))).symm.trans hT
    refine fun v19 e20 => ?_
    replace hT := qlc e20 hT
    have w21 := wI_rng v19
    exact hK _ (by first | assumption | exact wI_rng _ | exact ⟨by (first | (clear hm hnf; omega) | omega), by (first | (clear hm hnf; omega) | omega)⟩ | exact i_rng _ | (subst_vars; exact i_rng _) | exact (hA _ _).2 rfl) hT
  · replace hT := (if_neg (show ¬ (g = 37) by (first | (clear hm hnf; omega) | omega))).symm.trans hT
    replace hT := (if_neg (show ¬ (g = 42) by (first | (clear hm hnf; omega) | omega))).symm.trans hT
    replace hT := (if_neg (show ¬ (g = 43) by (first | (clear hm hnf; omega) | omega))).symm.trans hT
    replace hT := (if_neg (show ¬ (g = 45) by (first | (clear hm hnf; omega) | omega))).symm.trans hT
    replace hT := (if_pos (show g = 47 by (first | (clear hm hnf; omega) | omega))).symm.trans hT
    refine And.intro (fun h22 => ?_) (fun h22 => ?_)
    · replace hT := (if_neg h22).symm.trans hT
      refine And.intro (by (first | (clear hm hnf; omega) | omega)) (fun v23 e24 => ?_)
      replace hT := qlc e24 hT
      have w26 := wI_rng v23
      exact hK _ (by first | assumption | exact wI_rng _ | exact ⟨by (first | (clear hm hnf; omega) | omega), by (first | (clear hm hnf; omega) | omega)⟩ | exact i_rng _ | (subst_vars; exact i_rng _) | exact (hA _ _).2 rfl) hT
    · replace hT := (if_pos h22).symm.trans hT
      exact hK _ (by first | assumption | exact wI_rng _ | exact ⟨by (first | (clear hm hnf; omega) | omega), by (first | (clear hm hnf; omega) | omega)⟩ | exact i_rng _ | (subst_vars; exact i_rng _) | exact (hA _ _).2 rfl) hT
  · replace hT := (if_neg (show ¬ (g = 37) by (first | (clear hm hnf; omega) | omega))).symm.trans hT
    replace hT := (if_neg (show ¬ (g = 42) by (first | (clear hm hnf; omega) | omega))).symm.trans hT
    replace hT := (if_neg (show ¬ (g = 43) by (first | (clear hm hnf; omega) | omega))).symm.trans hT
    replace hT := (if_neg (show ¬ (g = 45) by (first | (clear hm hnf; omega) | omega))).symm.trans hT
    replace hT := (if_neg (show ¬ (g = 47) by (first | (clear hm hnf; omega) | omega))).symm.trans hT
    replace hT := (if_pos (show g = 60 by (first | (clear hm hnf; omega) | omega))).symm.trans hT
    refine And.intro (fun h27 => ?_) (fun h27 => ?_)
    · replace hT := (if_neg (Int.not_lt.mpr h27)).symm.trans hT
      exact hK _ (by first | assumption | exact wI_rng _ | exact ⟨by (first | (clear hm hnf; omega) | omega), by (first | (clear hm hnf; omega) | omega)⟩ | exact i_rng _ | (subst_vars; exact i_rng _) | exact (hA _ _).2 rfl) hT
    · replace hT := (if_pos h27).symm.trans hT
      exact hK _ (by first | assumption | exact wI_rng _ | exact ⟨by (first | (clear hm hnf; omega) | omega), by (first | (clear hm hnf; omega) | omega)⟩ | exact i_rng _ | (subst_vars; exact i_rng _) | exact (hA _ _).2 rfl) hT
  · replace hT := (if_neg (show ¬ (g = 37) by (first | (clear hm hnf; omega) | omega))).symm.trans hT
    replace hT := (if_neg (show ¬ (g = 42) by (first | (clear hm hnf; omega) | omega))).symm.trans hT
    replace hT := (if_neg (show ¬ (g = 43) by (first | (clear hm hnf; omega) | omega))).symm.trans hT
    replace hT := (if_neg (show ¬ (g = 45) by (first | (clear hm hnf; omega) | omega))).symm.trans hT
    replace hT := (if_neg (show ¬ (g = 47) by (first | (clear hm hnf; omega) | omega))).symm.trans hT
    replace hT := (if_neg (show ¬ (g = 60) by (first | (clear hm hnf; omega) | omega))).symm.trans hT
    replace hT := (if_pos (show g = 62 by (first | (clear hm hnf; omega) | omega))).symm.trans hT
    refine And.intro (fun h28 => ?_) (fun h28 => ?_)
    · replace hT := (if_neg (Int.not_lt.mpr h28)).symm.trans hT
      exact hK _ (by first | assumption | exact wI_rng _ | exact ⟨by (first | (clear hm hnf; omega) | omega), by (first | (clear hm hnf; omega) | omega)⟩ | exact i_rng _ | (subst_vars; exact i_rng _) | exact (hA _ _).2 rfl) hT
    · replace hT := (if_pos h28).symm.trans hT
      exact hK _ (by first | assumption | exact wI_rng _ | exact ⟨by (first | (clear hm hnf; omega) | omega), by (first | (clear hm hnf; omega) | omega)⟩ | exact i_rng _ | (subst_vars; exact i_rng _) | exact (hA _ _).2 rfl) hT
  · replace hT := (if_neg (show ¬ (g = 37) by (first | (clear hm hnf; omega) | omega))).symm.trans hT
    replace hT := (if_neg (show ¬ (g = 42) by (first | (clear hm hnf; omega) | omega))).symm.trans hT
    replace hT := (if_neg (show ¬ (g = 43) by (first | (clear hm hnf; omega) | omega))).symm.trans hT
    replace hT := (if_neg (show ¬ (g = 45) by (first | (clear hm hnf; omega) | omega))).symm.trans hT
    replace hT := (if_neg (show ¬ (g = 47) by (first | (clear hm hnf; omega) | omega))).symm.trans hT
    replace hT := (if_neg (show ¬ (g = 60) by (first | (clear hm hnf; omega) | omega))).symm.trans hT
    replace hT := (if_neg (show ¬ (g = 62) by (first | (clear hm hnf; omega) | omega))).symm.trans hT
    refine And.intro (fun h29 => ?_) (fun h29 => ?_)
    · replace hT := (if_neg h29).symm.trans hT
      exact hK _ (by first | assumption | exact wI_rng _ | exact ⟨by (first | (clear hm hnf; omega) | omega), by (first | (clear hm hnf; omega) | omega)⟩ | exact i_rng _ | (subst_vars; exact i_rng _) | exact (hA _ _).2 rfl) hT
    · replace hT := (if_pos h29).symm.trans hT
      exact hK _ (by first | assumption | exact wI_rng _ | exact ⟨by (first | (clear hm hnf; omega) | omega), by (first | (clear hm hnf; omega) | omega)⟩ | exact i_rng _ | (subst_vars; exact i_rng _) | exact (hA _ _).2 rfl) hT
theorem pC_joined {g a b : Int} {A : qA} (hA : qokA LC A) (rg_g : rng g) (rg_a : rng a) (rg_b : rng b) : rng (fC_joined g a b A) := by
  obtain ⟨r, B, hB, _, hk⟩ := okM_ex okC_joined (as := [ni g, ni a, ni b]) (K := fun _ B => B = A ∧ rng (fC_joined g a b A)) hA (qoks_c (rg_g) (qoks_c (rg_a) (qoks_c (rg_b) qoks_n))) ⟨g, a, b, rfl, fun r9 g9 x0 => (by rw [← x0]; exact ⟨rfl, g9⟩)⟩
  exact hk.2
def fC_put36 (g x : Int) (A : qA) : qA := qlet (A 36 (fd 8)) fun v3 => (if v3 < 200 then qlet (A 36 (fd 8)) fun v7 => qlet (qu A 37 v3 g) fun A11 => qlet (A11 36 (fd 8)) fun v16 => qlet (qu A11 38 v3 x) fun A20 => qlet (A20 36 (fd 8)) fun v25 => qlet (v3 + 1) fun v29 => qlet (qu A20 36 (fd 8) v29) fun A31 => A31 else A)
def sC_put36 : qS := fun as A K => ∃ g x : Int, as = [rf 36, ni g, ni x] ∧ (iva IC A ∧ ivf JC A ∧ 0 ≤ x ∧ x ≤ 99999) ∧ (∀ A' : qA, iva IC A' → ivf JC A' → frm [37, 38] [(36, 8)] A A' → (A' = fC_put36 g x A) → K none A')
theorem okC_put36 : okM LC 1 75 sC_put36 := by
  refine qmeth [] false [] 29 rfl trivial ?_
  rintro _ A K hA has ⟨g, x, rfl, ⟨i0, j0, p1, p2⟩, hK⟩
  have rg_g : rng g := has (ni g) (by simp)
  have rg_x : rng x := has (ni x) (by simp)
  have f0 := frm_0 [37, 38] [(36, 8)] A
  have hT : _ = fC_put36 g x A := (fC_put36.eq_1 g x A).symm
  refine ⟨Nat.le_of_ble_eq_true rfl, [], trivial, ?_⟩
  refine fun v3 gv3 e4 => ?_
  replace hT := qlc e4 hT
  have b5 := ivf_at j0 9 rfl
  refine And.intro (fun h6 => ?_) (fun h6 => ?_)
  · replace hT := (if_neg (Int.not_lt.mpr h6)).symm.trans hT
    exact hK _ i0 j0 f0 hT
  · replace hT := (if_pos h6).symm.trans hT
    refine fun v7 gv7 e8 => ?_
    replace hT := qlc e8 hT
    have b9 := ivf_at j0 9 rfl
    have q10 : v3 = v7 := (e8.trans e4.symm).symm
    subst q10
    refine And.intro (by (first | (clear hm hnf; omega) | omega)) (fun A11 e12 => ?_)
    replace hT := qlc e12 hT
    have i13 := iva_st i0 e12 trivial
    have j14 := ivf_sa j0 e12 rfl
    have f15 := frm_s f0 e12 rfl
    refine fun v16 gv16 e17 => ?_
    replace hT := qlc e17 hT
    have b18 := ivf_at j14 9 rfl
    have q19 : v3 = v16 := (e17.trans ((congrFun (st_a e12 rfl) _).trans e8.symm)).symm
    subst q19
    refine And.intro (by (first | (clear hm hnf; omega) | omega)) (fun A20 e21 => ?_)
    replace hT := qlc e21 hT
    have i22 := iva_st i13 e21 (And.intro (by (first | (clear hm hnf; omega) | omega)) trivial)
    have j23 := ivf_sa j14 e21 rfl
    have f24 := frm_s f15 e21 rfl
    refine fun v25 gv25 e26 => ?_
    replace hT := qlc e26 hT
    have b27 := ivf_at j23 9 rfl
    have q28 : v3 = v25 := (e26.trans ((congrFun (st_a e21 rfl) _).trans e17.symm)).symm
    subst q28
    refine fun v29 e30 => ?_
    replace hT := qlc e30 hT
    refine And.intro (by (first | (clear hm hnf; omega) | omega)) (fun A31 e32 => ?_)
    replace hT := qlc e32 hT
    have i33 := iva_sf i22 e32 rfl
    have j34 := ivf_st j23 e32 (And.intro (by (first | (clear hm hnf; omega) | omega)) trivial)
    have f35 := frm_sf f24 e32 rfl
    exact hK _ i33 j34 f35 hT
theorem pC_put36 {g x : Int} {A : qA} (hA : qokA LC A) (rg_g : rng g) (p0 : iva IC A) (p1 : ivf JC A) (p2 : 0 ≤ x) (p3 : x ≤ 99999) : qokA LC (fC_put36 g x A) ∧ iva IC (fC_put36 g x A) ∧ ivf JC (fC_put36 g x A) ∧ frm [37, 38] [(36, 8)] A (fC_put36 g x A) := by
  obtain ⟨r, B, hB, _, hk⟩ := okM_ex okC_put36 (as := [rf 36, ni g, ni x]) (K := fun _ B => B = (fC_put36 g x A) ∧ iva IC (fC_put36 g x A) ∧ ivf JC (fC_put36 g x A) ∧ frm [37, 38] [(36, 8)] A (fC_put36 g x A)) hA (qoks_c (show qok (rf _) from trivial) (qoks_c (rg_g) (qoks_c (show rng x from ⟨by (first | (clear hm hnf; omega) | omega), by (first | (clear hm hnf; omega) | omega)⟩) qoks_n))) ⟨g, x, rfl, ⟨p0, p1, p2, p3⟩, fun A9 i9 j9 f9 x0 => (by rw [← x0]; exact ⟨rfl, i9, j9, f9⟩)⟩
  exact ⟨hk.1 ▸ hB, hk.2⟩
def fC_reckon36_c5 (rec : Nat → List Int → qA → Int × qA) (l2 k : Int) (B : qA) : Int × qA := (if k < l2 then qlet (B 37 k) fun v19 => (if v19 = 48 then qlet (B 36 (fd 9)) fun v22 => (if v22 < 40 then qlet (B 36 (fd 9)) fun v26 => qlet (B 38 k) fun v31 => qlet (qu B 43 v22 v31) fun A34 => qlet (A34 36 (fd 9)) fun v39 => qlet (v22 + 1) fun v43 => qlet (qu A34 36 (fd 9) (wI v43)) fun A45 => qlet (k + 1) fun v52 => rec 5 [l2, ((wI v52))] A45 else (0, B)) else (if v19 = 107 then qlet (B 36 (fd 9)) fun v282 => (if v282 < 40 then qlet (B 36 (fd 9)) fun v286 => qlet (B 38 k) fun v291 => qlet (B 35 v291) fun v294 => qlet (qu B 43 v282 v294) fun A296 => qlet (A296 36 (fd 9)) fun v301 => qlet (v282 + 1) fun v305 => qlet (qu A296 36 (fd 9) (wI v305)) fun A307 => qlet (k + 1) fun v314 => rec 5 [l2, ((wI v314))] A307 else (0, B)) else qlet (B 36 (fd 9)) fun v57 => (if v57 < 1 then (0, B) else (if v19 = 33 then qlet (B 36 (fd 9)) fun v256 => qlet (v57 - 1) fun v260 => qlet (B 36 (fd 9)) fun v262 => qlet (v57 - 1) fun v266 => qlet (B 43 v266) fun v268 => qlet (1 - v268) fun v270 => qlet (qu B 43 v260 (wI v270)) fun A272 => qlet (k + 1) fun v278 => rec 5 [l2, ((wI v278))] A272 else (if v19 = 38 then qlet (B 36 (fd 9)) fun v63 => qlet (v57 - 1) fun v67 => qlet (B 43 v67) fun v69 => (if v69 = 0 then qlet (B 38 k) fun v74 => qlet (v74 - 1) fun v77 => qlet (max k (wI v77)) fun v79 => qlet (v79 + 1) fun v83 => rec 5 [l2, ((wI v83))] B else qlet (B 36 (fd 9)) fun v89 => qlet (v57 - 1) fun v93 => qlet (qu B 36 (fd 9) (wI v93)) fun A95 => qlet (k + 1) fun v102 => rec 5 [l2, ((wI v102))] A95) else (if v19 = 124 then qlet (B 36 (fd 9)) fun v213 => qlet (v57 - 1) fun v217 => qlet (B 43 v217) fun v219 => (if v219 = 0 then qlet (B 36 (fd 9)) fun v224 => qlet (v57 - 1) fun v228 => qlet (qu B 36 (fd 9) (wI v228)) fun A230 => qlet (k + 1) fun v237 => rec 5 [l2, ((wI v237))] A230 else qlet (B 38 k) fun v243 => qlet (v243 - 1) fun v246 => qlet (max k (wI v246)) fun v248 => qlet (v248 + 1) fun v252 => rec 5 [l2, ((wI v252))] B) else qlet (B 36 (fd 9)) fun v107 => (if v57 < 2 then (0, B) else qlet (B 36 (fd 9)) fun v112 => qlet (v57 - 1) fun v116 => qlet (B 43 v116) fun v118 => (if v118 = 0 then (if v19 = 47 then (0, B) else (if v19 = 37 then (0, B) else qlet (B 36 (fd 9)) fun v168 => qlet (v57 - 1) fun v172 => qlet (qu B 36 (fd 9) (wI v172)) fun A174 => qlet (A174 36 (fd 9)) fun v181 => qlet ((wI v172) - 1) fun v185 => qlet (A174 36 (fd 9)) fun v187 => qlet ((wI v172) - 1) fun v191 => qlet (A174 43 v191) fun v193 => qlet (A174 36 (fd 9)) fun v195 => qlet (A174 43 (wI v172)) fun v199 => qlet (fC_joined v19 v193 v199 A174) fun r201 => qlet (qu A174 43 v185 r201) fun A204 => qlet (k + 1) fun v209 => rec 5 [l2, ((wI v209))] A204)) else qlet (B 36 (fd 9)) fun v121 => qlet (v57 - 1) fun v125 => qlet (qu B 36 (fd 9) (wI v125)) fun A127 => qlet (A127 36 (fd 9)) fun v134 => qlet ((wI v125) - 1) fun v138 => qlet (A127 36 (fd 9)) fun v140 => qlet ((wI v125) - 1) fun v144 => qlet (A127 43 v144) fun v146 => qlet (A127 36 (fd 9)) fun v148 => qlet (A127 43 (wI v125)) fun v152 => qlet (fC_joined v19 v146 v152 A127) fun r154 => qlet (qu A127 43 v138 r154) fun A157 => qlet (k + 1) fun v162 => rec 5 [l2, ((wI v162))] A157)))))))) else qlet (B 36 (fd 9)) fun v12 => (if 0 < v12 then qlet (B 43 0) fun v16 => (v16, B) else (0, B)))
def fC_reckon36_L : Nat → Nat → List Int → qA → Int × qA
  | 0 => fun _ _ B => (0, B)
  | nF + 1 => fun k zs B => bif Nat.beq k 5 then (match zs with | [l2, k] => fC_reckon36_c5 (fC_reckon36_L nF) l2 k B | _ => (0, B)) else (0, B)
theorem fC_reckon36_L5 (nF : Nat) (l2 k : Int) (B : qA) : fC_reckon36_L (nF + 1) 5 [l2, k] B = fC_reckon36_c5 (fC_reckon36_L nF) l2 k B := (congrFun (congrFun (congrFun (fC_reckon36_L.eq_2 nF) 5) [l2, k]) B).trans (qL1 rfl rfl)
def fC_reckon36 (f t : Int) (A : qA) : Int × qA := qlet (qu A 36 (fd 9) 0) fun A6 => (fC_reckon36_L 100000) 5 [t, f] A6
def sC_reckon36 : qS := fun as A K => ∃ f t : Int, as = [rf 36, ni f, ni t, rf 35] ∧ (iva IC A ∧ ivf JC A ∧ 0 ≤ f ∧ f ≤ 200 ∧ 0 ≤ t ∧ t ≤ 200 ∧ (KO A)) ∧ (∀ A' : qA, iva IC A' → ivf JC A' → frm [43] [(36, 9)] A A' → ∀ r : Int, rng r → (r = (fC_reckon36 f t A).1) → (A' = (fC_reckon36 f t A).2) → K (some (ni r)) A')
theorem okC_reckon36 : okM LC 2 77 sC_reckon36 := by
  refine qmeth [] true [(78, sC_joined)] 186 rfl ⟨okC_joined.le (by decide), trivial⟩ ?_
  rintro _ A K hA has ⟨f, t, rfl, ⟨i0, j0, p1, p2, p3, p4, p5⟩, hK⟩
  have rg_f : rng f := has (ni f) (by simp)
  have rg_t : rng t := has (ni t) (by simp)
  have f0 := frm_0 [43] [(36, 9)] A
  have hT : _ = fC_reckon36 f t A := (fC_reckon36.eq_1 f t A).symm
  refine ⟨Nat.le_of_ble_eq_true rfl, [(5, [(0, 2, 36), (2, 0, 0), (3, 2, 35), (4, 0, 0)], fun zs B nn => match zs with | [l2, k] => iva IC B ∧ ivf JC B ∧ frm [43] [(36, 9)] A B ∧ nn = (200 - k : Int).toNat ∧ (l2 = t) ∧ (0 ≤ k) ∧ (k ≤ 100000) ∧ (∃ nf : Nat, nn < nf ∧ fC_reckon36_L nf 5 [l2, k] B = fC_reckon36 f t A) | _ => False)], ?_, ?_⟩
  · refine ⟨⟨rfl, ?_⟩, trivial⟩
    · refine fun l2 k B mm hB hz hI => ?_
      obtain ⟨i1, j1, f1, hm, c0, c1, c2, ⟨nf, hnf, hT⟩⟩ := hI
      obtain ⟨hz_l2, hz_k, _⟩ := hz
      obtain ⟨ng, rfl⟩ : ∃ k, nf = k + 1 := ⟨nf - 1, by omega⟩
      replace hT := (fC_reckon36_c5.eq_1 (fC_reckon36_L ng) l2 k B).symm.trans ((fC_reckon36_L5 ng l2 k B).symm.trans hT)
      refine And.intro (fun h11 => ?_) (fun h11 => ?_)
      · replace hT := (if_neg (Int.not_lt.mpr h11)).symm.trans hT
        refine fun v12 gv12 e13 => ?_
        replace hT := qlc e13 hT
        have b14 := ivf_at j1 10 rfl
        refine And.intro (fun h15 => ?_) (fun h15 => ?_)
        · replace hT := (if_neg (Int.not_lt.mpr h15)).symm.trans hT
          exact hK _ i1 j1 f1 _ (by first | assumption | exact wI_rng _ | exact ⟨by (first | (clear hm hnf; omega) | omega), by (first | (clear hm hnf; omega) | omega)⟩ | exact i_rng _ | (subst_vars; exact i_rng _) | exact (hA _ _).2 rfl) (congrArg Prod.fst hT) (congrArg Prod.snd hT)
        · replace hT := (if_pos h15).symm.trans hT
          refine And.intro (by (first | (clear hm hnf; omega) | omega)) (fun v16 gv16 e17 => ?_)
          replace hT := qlc e17 hT
          exact hK _ i1 j1 f1 _ (by first | assumption | exact wI_rng _ | exact ⟨by (first | (clear hm hnf; omega) | omega), by (first | (clear hm hnf; omega) | omega)⟩ | exact i_rng _ | (subst_vars; exact i_rng _) | exact (hA _ _).2 rfl) (congrArg Prod.fst hT) (congrArg Prod.snd hT)
      · replace hT := (if_pos h11).symm.trans hT
        refine And.intro (fun h18 => by exfalso; omega) (fun h18 => ?_)
        refine And.intro (by (first | (clear hm hnf; omega) | omega)) (fun v19 gv19 e20 => ?_)
        replace hT := qlc e20 hT
        refine And.intro (fun h21 => ?_) (fun h21 => ?_)
        · replace hT := (if_pos h21).symm.trans hT
          refine fun v22 gv22 e23 => ?_
          replace hT := qlc e23 hT
          have b24 := ivf_at j1 10 rfl
          refine And.intro (fun h25 => ?_) (fun h25 => ?_)
          · replace hT := (if_pos h25).symm.trans hT
            refine fun v26 gv26 e27 => ?_
            replace hT := qlc e27 hT
            have b28 := ivf_at j1 10 rfl
            have q29 : v22 = v26 := (e27.trans e23.symm).symm
            subst q29
            refine And.intro (fun h30 => by exfalso; omega) (fun h30 => ?_)
            refine And.intro (by (first | (clear hm hnf; omega) | omega)) (fun v31 gv31 e32 => ?_)
            replace hT := qlc e32 hT
            have b33 := iva_at i1 34 rfl (i := k) (by (first | (clear hm hnf; omega) | omega)) (by (first | (clear hm hnf; omega) | omega))
            refine And.intro (by (first | (clear hm hnf; omega) | omega)) (fun A34 e35 => ?_)
            replace hT := qlc e35 hT
            have i36 := iva_st i1 e35 trivial
            have j37 := ivf_sa j1 e35 rfl
            have f38 := frm_s f1 e35 rfl
            refine fun v39 gv39 e40 => ?_
            replace hT := qlc e40 hT
            have b41 := ivf_at j37 10 rfl
            have q42 : v22 = v39 := (e40.trans ((congrFun (st_a e35 rfl) _).trans e27.symm)).symm
            subst q42
            refine fun v43 e44 => ?_
            replace hT := qlc e44 hT
            have w47 := wI_rng v43
            have w48 : wI v43 = v43 := wI_id (by (first | (clear hm hnf; omega) | omega))
            refine fun A45 e46 => ?_
            replace hT := qlc e46 hT
            have i49 := iva_sf i36 e46 rfl
            have j50 := ivf_st j37 e46 (And.intro (by (first | (clear hm hnf; omega) | omega)) trivial)
            have f51 := frm_sf f38 e46 rfl
            refine fun v52 e53 => ?_
            replace hT := qlc e53 hT
            have w54 := wI_rng v52
            have w55 : wI v52 = v52 := wI_id (by (first | (clear hm hnf; omega) | omega))
            exact Exists.intro (200 - ((wI v52)) : Int).toNat (And.intro (by first | exact qtn hm (by (try clear hm hnf); omega) | omega) (And.intro i49 (And.intro j50 (And.intro f51 (And.intro rfl (And.intro (by (first | (clear hm hnf; omega) | omega)) (And.intro (by (first | (clear hm hnf; omega) | omega)) (And.intro (by (first | (clear hm hnf; omega) | omega)) (Exists.intro ng (And.intro (by first | exact qtm hm hnf (by (try clear hm hnf); omega) | omega) hT))))))))))
          · replace hT := (if_neg (Int.not_lt.mpr h25)).symm.trans hT
            exact hK _ i1 j1 f1 _ (by first | assumption | exact wI_rng _ | exact ⟨by (first | (clear hm hnf; omega) | omega), by (first | (clear hm hnf; omega) | omega)⟩ | exact i_rng _ | (subst_vars; exact i_rng _) | exact (hA _ _).2 rfl) (congrArg Prod.fst hT) (congrArg Prod.snd hT)
        · replace hT := (if_neg h21).symm.trans hT
          refine And.intro (fun h56 => ?_) (fun h56 => ?_)
          · replace hT := (if_neg h56).symm.trans hT
            refine fun v57 gv57 e58 => ?_
            replace hT := qlc e58 hT
            have b59 := ivf_at j1 10 rfl
            refine And.intro (fun h60 => ?_) (fun h60 => ?_)
            · replace hT := (if_neg (Int.not_lt.mpr h60)).symm.trans hT
              refine And.intro (fun h61 => ?_) (fun h61 => ?_)
              · replace hT := (if_neg h61).symm.trans hT
                refine And.intro (fun h62 => ?_) (fun h62 => ?_)
                · replace hT := (if_pos h62).symm.trans hT
                  refine fun v63 gv63 e64 => ?_
                  replace hT := qlc e64 hT
                  have b65 := ivf_at j1 10 rfl
                  have q66 : v57 = v63 := (e64.trans e58.symm).symm
                  subst q66
                  refine fun v67 e68 => ?_
                  replace hT := qlc e68 hT
                  refine And.intro (by (first | (clear hm hnf; omega) | omega)) (fun v69 gv69 e70 => ?_)
                  replace hT := qlc e70 hT
                  refine And.intro (fun h71 => ?_) (fun h71 => ?_)
                  · replace hT := (if_pos h71).symm.trans hT
                    refine And.intro (fun h72 => ?_) (fun h72 => by exfalso; omega)
                    refine And.intro (fun h73 => by exfalso; omega) (fun h73 => ?_)
                    refine And.intro (by (first | (clear hm hnf; omega) | omega)) (fun v74 gv74 e75 => ?_)
                    replace hT := qlc e75 hT
                    have b76 := iva_at i1 34 rfl (i := k) (by (first | (clear hm hnf; omega) | omega)) (by (first | (clear hm hnf; omega) | omega))
                    refine fun v77 e78 => ?_
                    replace hT := qlc e78 hT
                    have w81 := wI_rng v77
                    have w82 : wI v77 = v77 := wI_id (by (first | (clear hm hnf; omega) | omega))
                    refine (fun v79 e80 => ?_)
                    replace hT := qlc e80 hT
                    refine fun v83 e84 => ?_
                    replace hT := qlc e84 hT
                    have w85 := wI_rng v83
                    have w86 : wI v83 = v83 := wI_id (by (first | (clear hm hnf; omega) | omega))
                    exact Exists.intro (200 - ((wI v83)) : Int).toNat (And.intro (by first | exact qtn hm (by (try clear hm hnf); omega) | omega) (And.intro i1 (And.intro j1 (And.intro f1 (And.intro rfl (And.intro (by (first | (clear hm hnf; omega) | omega)) (And.intro (by (first | (clear hm hnf; omega) | omega)) (And.intro (by (first | (clear hm hnf; omega) | omega)) (Exists.intro ng (And.intro (by first | exact qtm hm hnf (by (try clear hm hnf); omega) | omega) hT))))))))))
                  · replace hT := (if_neg h71).symm.trans hT
                    refine And.intro (fun h87 => ?_) (fun h87 => by exfalso; omega)
                    refine And.intro (fun h88 => ?_) (fun h88 => by exfalso; omega)
                    refine fun v89 gv89 e90 => ?_
                    replace hT := qlc e90 hT
                    have b91 := ivf_at j1 10 rfl
                    have q92 : v57 = v89 := (e90.trans e64.symm).symm
                    subst q92
                    refine fun v93 e94 => ?_
                    replace hT := qlc e94 hT
                    have w97 := wI_rng v93
                    have w98 : wI v93 = v93 := wI_id (by (first | (clear hm hnf; omega) | omega))
                    refine fun A95 e96 => ?_
                    replace hT := qlc e96 hT
                    have i99 := iva_sf i1 e96 rfl
                    have j100 := ivf_st j1 e96 (And.intro (by (first | (clear hm hnf; omega) | omega)) trivial)
                    have f101 := frm_sf f1 e96 rfl
                    refine fun v102 e103 => ?_
                    replace hT := qlc e103 hT
                    have w104 := wI_rng v102
                    have w105 : wI v102 = v102 := wI_id (by (first | (clear hm hnf; omega) | omega))
                    exact Exists.intro (200 - ((wI v102)) : Int).toNat (And.intro (by first | exact qtn hm (by (try clear hm hnf); omega) | omega) (And.intro i99 (And.intro j100 (And.intro f101 (And.intro rfl (And.intro (by (first | (clear hm hnf; omega) | omega)) (And.intro (by (first | (clear hm hnf; omega) | omega)) (And.intro (by (first | (clear hm hnf; omega) | omega)) (Exists.intro ng (And.intro (by first | exact qtm hm hnf (by (try clear hm hnf); omega) | omega) hT))))))))))
                · replace hT := (if_neg h62).symm.trans hT
                  refine And.intro (fun h106 => ?_) (fun h106 => ?_)
                  · replace hT := (if_neg h106).symm.trans hT
                    refine fun v107 gv107 e108 => ?_
                    replace hT := qlc e108 hT
                    have b109 := ivf_at j1 10 rfl
                    have q110 : v57 = v107 := (e108.trans e58.symm).symm
                    subst q110
                    refine And.intro (fun h111 => ?_) (fun h111 => ?_)
                    · replace hT := (if_pos h111).symm.trans hT
                      exact hK _ i1 j1 f1 _ (by first | assumption | exact wI_rng _ | exact ⟨by (first | (clear hm hnf; omega) | omega), by (first | (clear hm hnf; omega) | omega)⟩ | exact i_rng _ | (subst_vars; exact i_rng _) | exact (hA _ _).2 rfl) (congrArg Prod.fst hT) (congrArg Prod.snd hT)
                    · replace hT := (if_neg (Int.not_lt.mpr h111)).symm.trans hT
                      refine fun v112 gv112 e113 => ?_
                      replace hT := qlc e113 hT
                      have b114 := ivf_at j1 10 rfl
                      have q115 : v57 = v112 := (e113.trans e108.symm).symm
                      subst q115
                      refine fun v116 e117 => ?_
                      replace hT := qlc e117 hT
                      refine And.intro (by (first | (clear hm hnf; omega) | omega)) (fun v118 gv118 e119 => ?_)
                      replace hT := qlc e119 hT
                      refine And.intro (fun h120 => ?_) (fun h120 => ?_)
                      · replace hT := (if_neg h120).symm.trans hT
                        refine fun v121 gv121 e122 => ?_
                        replace hT := qlc e122 hT
                        have b123 := ivf_at j1 10 rfl
                        have q124 : v57 = v121 := (e122.trans e113.symm).symm
                        subst q124
                        refine fun v125 e126 => ?_
                        replace hT := qlc e126 hT
                        have w129 := wI_rng v125
                        have w130 : wI v125 = v125 := wI_id (by (first | (clear hm hnf; omega) | omega))
                        refine fun A127 e128 => ?_
                        replace hT := qlc e128 hT
                        have i131 := iva_sf i1 e128 rfl
                        have j132 := ivf_st j1 e128 (And.intro (by (first | (clear hm hnf; omega) | omega)) trivial)
                        have f133 := frm_sf f1 e128 rfl
                        refine fun v134 gv134 e135 => ?_
                        replace hT := qlc e135 hT
                        have b136 := ivf_at j132 10 rfl
                        have q137 : (wI v125) = v134 := (e135.trans (st_v e128)).symm
                        subst q137
                        refine fun v138 e139 => ?_
                        replace hT := qlc e139 hT
                        refine fun v140 gv140 e141 => ?_
                        replace hT := qlc e141 hT
                        have b142 := ivf_at j132 10 rfl
                        have q143 : (wI v125) = v140 := (e141.trans e135.symm).symm
                        subst q143
                        refine fun v144 e145 => ?_
                        replace hT := qlc e145 hT
                        refine And.intro (by (first | (clear hm hnf; omega) | omega)) (fun v146 gv146 e147 => ?_)
                        replace hT := qlc e147 hT
                        refine fun v148 gv148 e149 => ?_
                        replace hT := qlc e149 hT
                        have b150 := ivf_at j132 10 rfl
                        have q151 : (wI v125) = v148 := (e149.trans e141.symm).symm
                        subst q151
                        refine And.intro (by (first | (clear hm hnf; omega) | omega)) (fun v152 gv152 e153 => ?_)
                        replace hT := qlc e153 hT
                        refine Exists.intro v19 (Exists.intro v146 (Exists.intro v152 (And.intro rfl (fun r154 g156 g155 => ?_))))
                        replace hT := qlc g155 hT
                        clear g155
                        refine And.intro (by (first | (clear hm hnf; omega) | omega)) (fun A157 e158 => ?_)
                        replace hT := qlc e158 hT
                        have i159 := iva_st i131 e158 trivial
                        have j160 := ivf_sa j132 e158 rfl
                        have f161 := frm_s f133 e158 rfl
                        refine fun v162 e163 => ?_
                        replace hT := qlc e163 hT
                        have w164 := wI_rng v162
                        have w165 : wI v162 = v162 := wI_id (by (first | (clear hm hnf; omega) | omega))
                        exact Exists.intro (200 - ((wI v162)) : Int).toNat (And.intro (by first | exact qtn hm (by (try clear hm hnf); omega) | omega) (And.intro i159 (And.intro j160 (And.intro f161 (And.intro rfl (And.intro (by (first | (clear hm hnf; omega) | omega)) (And.intro (by (first | (clear hm hnf; omega) | omega)) (And.intro (by (first | (clear hm hnf; omega) | omega)) (Exists.intro ng (And.intro (by first | exact qtm hm hnf (by (try clear hm hnf); omega) | omega) hT))))))))))
                      · replace hT := (if_pos h120).symm.trans hT
                        refine And.intro (fun h166 => ?_) (fun h166 => ?_)
                        · replace hT := (if_pos h166).symm.trans hT
                          exact hK _ i1 j1 f1 _ (by first | assumption | exact wI_rng _ | exact ⟨by (first | (clear hm hnf; omega) | omega), by (first | (clear hm hnf; omega) | omega)⟩ | exact i_rng _ | (subst_vars; exact i_rng _) | exact (hA _ _).2 rfl) (congrArg Prod.fst hT) (congrArg Prod.snd hT)
                        · replace hT := (if_neg h166).symm.trans hT
                          refine And.intro (fun h167 => ?_) (fun h167 => ?_)
                          · replace hT := (if_neg h167).symm.trans hT
                            refine fun v168 gv168 e169 => ?_
                            replace hT := qlc e169 hT
                            have b170 := ivf_at j1 10 rfl
                            have q171 : v57 = v168 := (e169.trans e113.symm).symm
                            subst q171
                            refine fun v172 e173 => ?_
                            replace hT := qlc e173 hT
                            have w176 := wI_rng v172
                            have w177 : wI v172 = v172 := wI_id (by (first | (clear hm hnf; omega) | omega))
                            refine fun A174 e175 => ?_
                            replace hT := qlc e175 hT
                            have i178 := iva_sf i1 e175 rfl
                            have j179 := ivf_st j1 e175 (And.intro (by (first | (clear hm hnf; omega) | omega)) trivial)
                            have f180 := frm_sf f1 e175 rfl
                            refine fun v181 gv181 e182 => ?_
                            replace hT := qlc e182 hT
                            have b183 := ivf_at j179 10 rfl
                            have q184 : (wI v172) = v181 := (e182.trans (st_v e175)).symm
                            subst q184
                            refine fun v185 e186 => ?_
                            replace hT := qlc e186 hT
                            refine fun v187 gv187 e188 => ?_
                            replace hT := qlc e188 hT
                            have b189 := ivf_at j179 10 rfl
                            have q190 : (wI v172) = v187 := (e188.trans e182.symm).symm
                            subst q190
                            refine fun v191 e192 => ?_
                            replace hT := qlc e192 hT
                            refine And.intro (by (first | (clear hm hnf; omega) | omega)) (fun v193 gv193 e194 => ?_)
                            replace hT := qlc e194 hT
                            refine fun v195 gv195 e196 => ?_
                            replace hT := qlc e196 hT
                            have b197 := ivf_at j179 10 rfl
                            have q198 : (wI v172) = v195 := (e196.trans e188.symm).symm
                            subst q198
                            refine And.intro (by (first | (clear hm hnf; omega) | omega)) (fun v199 gv199 e200 => ?_)
                            replace hT := qlc e200 hT
                            refine Exists.intro v19 (Exists.intro v193 (Exists.intro v199 (And.intro rfl (fun r201 g203 g202 => ?_))))
                            replace hT := qlc g202 hT
                            clear g202
                            refine And.intro (by (first | (clear hm hnf; omega) | omega)) (fun A204 e205 => ?_)
                            replace hT := qlc e205 hT
                            have i206 := iva_st i178 e205 trivial
                            have j207 := ivf_sa j179 e205 rfl
                            have f208 := frm_s f180 e205 rfl
                            refine fun v209 e210 => ?_
                            replace hT := qlc e210 hT
                            have w211 := wI_rng v209
                            have w212 : wI v209 = v209 := wI_id (by (first | (clear hm hnf; omega) | omega))
                            exact Exists.intro (200 - ((wI v209)) : Int).toNat (And.intro (by first | exact qtn hm (by (try clear hm hnf); omega) | omega) (And.intro i206 (And.intro j207 (And.intro f208 (And.intro rfl (And.intro (by (first | (clear hm hnf; omega) | omega)) (And.intro (by (first | (clear hm hnf; omega) | omega)) (And.intro (by (first | (clear hm hnf; omega) | omega)) (Exists.intro ng (And.intro (by first | exact qtm hm hnf (by (try clear hm hnf); omega) | omega) hT))))))))))
                          · replace hT := (if_pos h167).symm.trans hT
                            exact hK _ i1 j1 f1 _ (by first | assumption | exact wI_rng _ | exact ⟨by (first | (clear hm hnf; omega) | omega), by (first | (clear hm hnf; omega) | omega)⟩ | exact i_rng _ | (subst_vars; exact i_rng _) | exact (hA _ _).2 rfl) (congrArg Prod.fst hT) (congrArg Prod.snd hT)
                  · replace hT := (if_pos h106).symm.trans hT
                    refine fun v213 gv213 e214 => ?_
                    replace hT := qlc e214 hT
                    have b215 := ivf_at j1 10 rfl
                    have q216 : v57 = v213 := (e214.trans e58.symm).symm
                    subst q216
                    refine fun v217 e218 => ?_
                    replace hT := qlc e218 hT
                    refine And.intro (by (first | (clear hm hnf; omega) | omega)) (fun v219 gv219 e220 => ?_)
                    replace hT := qlc e220 hT
                    refine And.intro (fun h221 => ?_) (fun h221 => ?_)
                    · replace hT := (if_pos h221).symm.trans hT
                      refine And.intro (fun h222 => by exfalso; omega) (fun h222 => ?_)
                      refine And.intro (fun h223 => ?_) (fun h223 => by exfalso; omega)
                      refine fun v224 gv224 e225 => ?_
                      replace hT := qlc e225 hT
                      have b226 := ivf_at j1 10 rfl
                      have q227 : v57 = v224 := (e225.trans e214.symm).symm
                      subst q227
                      refine fun v228 e229 => ?_
                      replace hT := qlc e229 hT
                      have w232 := wI_rng v228
                      have w233 : wI v228 = v228 := wI_id (by (first | (clear hm hnf; omega) | omega))
                      refine fun A230 e231 => ?_
                      replace hT := qlc e231 hT
                      have i234 := iva_sf i1 e231 rfl
                      have j235 := ivf_st j1 e231 (And.intro (by (first | (clear hm hnf; omega) | omega)) trivial)
                      have f236 := frm_sf f1 e231 rfl
                      refine fun v237 e238 => ?_
                      replace hT := qlc e238 hT
                      have w239 := wI_rng v237
                      have w240 : wI v237 = v237 := wI_id (by (first | (clear hm hnf; omega) | omega))
                      exact Exists.intro (200 - ((wI v237)) : Int).toNat (And.intro (by first | exact qtn hm (by (try clear hm hnf); omega) | omega) (And.intro i234 (And.intro j235 (And.intro f236 (And.intro rfl (And.intro (by (first | (clear hm hnf; omega) | omega)) (And.intro (by (first | (clear hm hnf; omega) | omega)) (And.intro (by (first | (clear hm hnf; omega) | omega)) (Exists.intro ng (And.intro (by first | exact qtm hm hnf (by (try clear hm hnf); omega) | omega) hT))))))))))
                    · replace hT := (if_neg h221).symm.trans hT
                      refine And.intro (fun h241 => by exfalso; omega) (fun h241 => ?_)
                      refine And.intro (fun h242 => by exfalso; omega) (fun h242 => ?_)
                      refine And.intro (by (first | (clear hm hnf; omega) | omega)) (fun v243 gv243 e244 => ?_)
                      replace hT := qlc e244 hT
                      have b245 := iva_at i1 34 rfl (i := k) (by (first | (clear hm hnf; omega) | omega)) (by (first | (clear hm hnf; omega) | omega))
                      refine fun v246 e247 => ?_
                      replace hT := qlc e247 hT
                      have w250 := wI_rng v246
                      have w251 : wI v246 = v246 := wI_id (by (first | (clear hm hnf; omega) | omega))
                      refine (fun v248 e249 => ?_)
                      replace hT := qlc e249 hT
                      refine fun v252 e253 => ?_
                      replace hT := qlc e253 hT
                      have w254 := wI_rng v252
                      have w255 : wI v252 = v252 := wI_id (by (first | (clear hm hnf; omega) | omega))
                      exact Exists.intro (200 - ((wI v252)) : Int).toNat (And.intro (by first | exact qtn hm (by (try clear hm hnf); omega) | omega) (And.intro i1 (And.intro j1 (And.intro f1 (And.intro rfl (And.intro (by (first | (clear hm hnf; omega) | omega)) (And.intro (by (first | (clear hm hnf; omega) | omega)) (And.intro (by (first | (clear hm hnf; omega) | omega)) (Exists.intro ng (And.intro (by first | exact qtm hm hnf (by (try clear hm hnf); omega) | omega) hT))))))))))
              · replace hT := (if_pos h61).symm.trans hT
                refine fun v256 gv256 e257 => ?_
                replace hT := qlc e257 hT
                have b258 := ivf_at j1 10 rfl
                have q259 : v57 = v256 := (e257.trans e58.symm).symm
                subst q259
                refine fun v260 e261 => ?_
                replace hT := qlc e261 hT
                refine fun v262 gv262 e263 => ?_
                replace hT := qlc e263 hT
                have b264 := ivf_at j1 10 rfl
                have q265 : v57 = v262 := (e263.trans e257.symm).symm
                subst q265
                refine fun v266 e267 => ?_
                replace hT := qlc e267 hT
                refine And.intro (by (first | (clear hm hnf; omega) | omega)) (fun v268 gv268 e269 => ?_)
                replace hT := qlc e269 hT
                refine fun v270 e271 => ?_
                replace hT := qlc e271 hT
                have w274 := wI_rng v270
                refine And.intro (by (first | (clear hm hnf; omega) | omega)) (fun A272 e273 => ?_)
                replace hT := qlc e273 hT
                have i275 := iva_st i1 e273 trivial
                have j276 := ivf_sa j1 e273 rfl
                have f277 := frm_s f1 e273 rfl
                refine fun v278 e279 => ?_
                replace hT := qlc e279 hT
                have w280 := wI_rng v278
                have w281 : wI v278 = v278 := wI_id (by (first | (clear hm hnf; omega) | omega))
                exact Exists.intro (200 - ((wI v278)) : Int).toNat (And.intro (by first | exact qtn hm (by (try clear hm hnf); omega) | omega) (And.intro i275 (And.intro j276 (And.intro f277 (And.intro rfl (And.intro (by (first | (clear hm hnf; omega) | omega)) (And.intro (by (first | (clear hm hnf; omega) | omega)) (And.intro (by (first | (clear hm hnf; omega) | omega)) (Exists.intro ng (And.intro (by first | exact qtm hm hnf (by (try clear hm hnf); omega) | omega) hT))))))))))
            · replace hT := (if_pos h60).symm.trans hT
              exact hK _ i1 j1 f1 _ (by first | assumption | exact wI_rng _ | exact ⟨by (first | (clear hm hnf; omega) | omega), by (first | (clear hm hnf; omega) | omega)⟩ | exact i_rng _ | (subst_vars; exact i_rng _) | exact (hA _ _).2 rfl) (congrArg Prod.fst hT) (congrArg Prod.snd hT)
          · replace hT := (if_pos h56).symm.trans hT
            refine fun v282 gv282 e283 => ?_
            replace hT := qlc e283 hT
            have b284 := ivf_at j1 10 rfl
            refine And.intro (fun h285 => ?_) (fun h285 => ?_)
            · replace hT := (if_pos h285).symm.trans hT
              refine fun v286 gv286 e287 => ?_
              replace hT := qlc e287 hT
              have b288 := ivf_at j1 10 rfl
              have q289 : v282 = v286 := (e287.trans e283.symm).symm
              subst q289
              refine And.intro (fun h290 => ?_) (fun h290 => by exfalso; omega)
              refine And.intro (by (first | (clear hm hnf; omega) | omega)) (fun v291 gv291 e292 => ?_)
              replace hT := qlc e292 hT
              have b293 := iva_at i1 34 rfl (i := k) (by (first | (clear hm hnf; omega) | omega)) (by (first | (clear hm hnf; omega) | omega))
              have kk := (KO_fr p5 f1 rfl).1 k (by (first | (clear hm hnf; omega) | omega)) (by (first | (clear hm hnf; omega) | omega))
              refine And.intro (by (first | (clear hm hnf; omega) | omega)) (fun v294 gv294 e295 => ?_)
              replace hT := qlc e295 hT
              refine And.intro (by (first | (clear hm hnf; omega) | omega)) (fun A296 e297 => ?_)
              replace hT := qlc e297 hT
              have i298 := iva_st i1 e297 trivial
              have j299 := ivf_sa j1 e297 rfl
              have f300 := frm_s f1 e297 rfl
              refine fun v301 gv301 e302 => ?_
              replace hT := qlc e302 hT
              have b303 := ivf_at j299 10 rfl
              have q304 : v282 = v301 := (e302.trans ((congrFun (st_a e297 rfl) _).trans e287.symm)).symm
              subst q304
              refine fun v305 e306 => ?_
              replace hT := qlc e306 hT
              have w309 := wI_rng v305
              have w310 : wI v305 = v305 := wI_id (by (first | (clear hm hnf; omega) | omega))
              refine fun A307 e308 => ?_
              replace hT := qlc e308 hT
              have i311 := iva_sf i298 e308 rfl
              have j312 := ivf_st j299 e308 (And.intro (by (first | (clear hm hnf; omega) | omega)) trivial)
              have f313 := frm_sf f300 e308 rfl
              refine fun v314 e315 => ?_
              replace hT := qlc e315 hT
              have w316 := wI_rng v314
              have w317 : wI v314 = v314 := wI_id (by (first | (clear hm hnf; omega) | omega))
              exact Exists.intro (200 - ((wI v314)) : Int).toNat (And.intro (by first | exact qtn hm (by (try clear hm hnf); omega) | omega) (And.intro i311 (And.intro j312 (And.intro f313 (And.intro rfl (And.intro (by (first | (clear hm hnf; omega) | omega)) (And.intro (by (first | (clear hm hnf; omega) | omega)) (And.intro (by (first | (clear hm hnf; omega) | omega)) (Exists.intro ng (And.intro (by first | exact qtm hm hnf (by (try clear hm hnf); omega) | omega) hT))))))))))
            · replace hT := (if_neg (Int.not_lt.mpr h285)).symm.trans hT
              exact hK _ i1 j1 f1 _ (by first | assumption | exact wI_rng _ | exact ⟨by (first | (clear hm hnf; omega) | omega), by (first | (clear hm hnf; omega) | omega)⟩ | exact i_rng _ | (subst_vars; exact i_rng _) | exact (hA _ _).2 rfl) (congrArg Prod.fst hT) (congrArg Prod.snd hT)
  · refine fun A6 e7 => ?_
    replace hT := qlc e7 hT
    have i8 := iva_sf i0 e7 rfl
    have j9 := ivf_st j0 e7 (And.intro (by (first | (clear hm hnf; omega) | omega)) trivial)
    have f10 := frm_sf f0 e7 rfl
    exact Exists.intro (200 - f : Int).toNat (And.intro i8 (And.intro j9 (And.intro f10 (And.intro rfl (And.intro (by (first | (clear hm hnf; omega) | omega)) (And.intro (by (first | (clear hm hnf; omega) | omega)) (And.intro (by (first | (clear hm hnf; omega) | omega)) (Exists.intro 100000 (And.intro (by (first | (clear hm hnf; omega) | omega)) hT)))))))))
theorem pC_reckon36 {f t : Int} {A : qA} (hA : qokA LC A) (p0 : iva IC A) (p1 : ivf JC A) (p2 : 0 ≤ f) (p3 : f ≤ 200) (p4 : 0 ≤ t) (p5 : t ≤ 200) (p6 : KO A) : qokA LC (fC_reckon36 f t A).2 ∧ iva IC (fC_reckon36 f t A).2 ∧ ivf JC (fC_reckon36 f t A).2 ∧ frm [43] [(36, 9)] A (fC_reckon36 f t A).2 ∧ rng (fC_reckon36 f t A).1 := by
  obtain ⟨r, B, hB, _, hk⟩ := okM_ex okC_reckon36 (as := [rf 36, ni f, ni t, rf 35]) (K := fun _ B => B = (fC_reckon36 f t A).2 ∧ iva IC (fC_reckon36 f t A).2 ∧ ivf JC (fC_reckon36 f t A).2 ∧ frm [43] [(36, 9)] A (fC_reckon36 f t A).2 ∧ rng (fC_reckon36 f t A).1) hA (qoks_c (show qok (rf _) from trivial) (qoks_c (show rng f from ⟨by (first | (clear hm hnf; omega) | omega), by (first | (clear hm hnf; omega) | omega)⟩) (qoks_c (show rng t from ⟨by (first | (clear hm hnf; omega) | omega), by (first | (clear hm hnf; omega) | omega)⟩) (qoks_c (show qok (rf _) from trivial) qoks_n)))) ⟨f, t, rfl, ⟨p0, p1, p2, p3, p4, p5, p6⟩, fun A9 i9 j9 f9 r9 g9 x0 x1 => (by rw [← x1]; (try rw [← x0]); exact ⟨rfl, i9, j9, f9, g9⟩)⟩
  exact ⟨hk.1 ▸ hB, hk.2⟩
def fC_answer36_c2 (rec : Nat → List Int → qA → Int × qA) (l1 l2 i : Int) (B : qA) : Int × qA := qlet (B 36 (fd 7)) fun v4 => (if i < v4 then qlet (B 39 i) fun v9 => (if v9 = l1 then qlet (B 41 i) fun v14 => qlet (B 42 i) fun v17 => qlp (fC_reckon36 v14 v17 B) fun r24 A20 => (if r24 = 0 then qlet (i + 1) fun v30 => rec 2 [l1, l2, v30] A20 else qlet (A20 40 i) fun v32 => qlet (A20 41 i) fun v35 => qlp (fC_reckon36 v32 v14 A20) fun r43 A39 => qlet (min l2 r43) fun v48 => qlet (max 0 v48) fun v50 => (v50, A39)) else qlet (i + 1) fun v12 => rec 2 [l1, l2, v12] B) else (0, B))
def fC_answer36_L : Nat → Nat → List Int → qA → Int × qA
  | 0 => fun _ _ B => (0, B)
  | nF + 1 => fun k zs B => bif Nat.beq k 2 then (match zs with | [l1, l2, i] => fC_answer36_c2 (fC_answer36_L nF) l1 l2 i B | _ => (0, B)) else (0, B)
theorem fC_answer36_L2 (nF : Nat) (l1 l2 i : Int) (B : qA) : fC_answer36_L (nF + 1) 2 [l1, l2, i] B = fC_answer36_c2 (fC_answer36_L nF) l1 l2 i B := (congrFun (congrFun (congrFun (fC_answer36_L.eq_2 nF) 2) [l1, l2, i]) B).trans (qL1 rfl rfl)
def fC_answer36 (w m : Int) (A : qA) : Int × qA := (fC_answer36_L 100000) 2 [w, m, 0] A
def sC_answer36 : qS := fun as A K => ∃ w m : Int, as = [rf 36, ni w, ni m, rf 35] ∧ (iva IC A ∧ ivf JC A ∧ 0 ≤ m ∧ m ≤ 1000 ∧ (KO A)) ∧ (∀ A' : qA, iva IC A' → ivf JC A' → frm [43] [(36, 9)] A A' → ∀ r : Int, 0 ≤ r → r ≤ 1000 → (r ≤ m) → (r = (fC_answer36 w m A).1) → (A' = (fC_answer36 w m A).2) → K (some (ni r)) A')
theorem okC_answer36 : okM LC 3 76 sC_answer36 := by
  refine qmeth [] false [(77, sC_reckon36)] 53 rfl ⟨okC_reckon36.le (by decide), trivial⟩ ?_
  rintro _ A K hA has ⟨w, m, rfl, ⟨i0, j0, p1, p2, p3⟩, hK⟩
  have rg_w : rng w := has (ni w) (by simp)
  have rg_m : rng m := has (ni m) (by simp)
  have f0 := frm_0 [43] [(36, 9)] A
  have hT : _ = fC_answer36 w m A := (fC_answer36.eq_1 w m A).symm
  refine ⟨Nat.le_of_ble_eq_true rfl, [(2, [(0, 2, 36), (1, 0, 0), (2, 0, 0), (3, 2, 35), (4, 0, 0)], fun zs B nn => match zs with | [l1, l2, i] => iva IC B ∧ ivf JC B ∧ frm [43] [(36, 9)] A B ∧ nn = (14 - i : Int).toNat ∧ (l1 = w) ∧ (l2 = m) ∧ (0 ≤ i) ∧ (i ≤ 14) ∧ (∃ nf : Nat, nn < nf ∧ fC_answer36_L nf 2 [l1, l2, i] B = fC_answer36 w m A) | _ => False)], ?_, ?_⟩
  · refine ⟨⟨rfl, ?_⟩, trivial⟩
    · refine fun l1 l2 i B mm hB hz hI => ?_
      obtain ⟨i1, j1, f1, hm, c0, c1, c2, c3, ⟨nf, hnf, hT⟩⟩ := hI
      obtain ⟨hz_l1, hz_l2, hz_i, _⟩ := hz
      obtain ⟨ng, rfl⟩ : ∃ k, nf = k + 1 := ⟨nf - 1, by omega⟩
      replace hT := (fC_answer36_c2.eq_1 (fC_answer36_L ng) l1 l2 i B).symm.trans ((fC_answer36_L2 ng l1 l2 i B).symm.trans hT)
      refine fun v4 gv4 e5 => ?_
      replace hT := qlc e5 hT
      have b6 := ivf_at j1 8 rfl
      refine And.intro (fun h7 => ?_) (fun h7 => ?_)
      · replace hT := (if_neg (Int.not_lt.mpr h7)).symm.trans hT
        exact hK _ i1 j1 f1 _ (by (first | (clear hm hnf; omega) | omega)) (by (first | (clear hm hnf; omega) | omega)) (by first | assumption | omega | simp_all) (congrArg Prod.fst hT) (congrArg Prod.snd hT)
      · replace hT := (if_pos h7).symm.trans hT
        refine And.intro (fun h8 => by exfalso; omega) (fun h8 => ?_)
        refine And.intro (by (first | (clear hm hnf; omega) | omega)) (fun v9 gv9 e10 => ?_)
        replace hT := qlc e10 hT
        refine And.intro (fun h11 => ?_) (fun h11 => ?_)
        · replace hT := (if_neg h11).symm.trans hT
          refine fun v12 e13 => ?_
          replace hT := qlc e13 hT
          exact And.intro (by (first | (clear hm hnf; omega) | omega)) (Exists.intro (14 - v12 : Int).toNat (And.intro (by first | exact qtn hm (by (try clear hm hnf); omega) | omega) (And.intro i1 (And.intro j1 (And.intro f1 (And.intro rfl (And.intro (by (first | (clear hm hnf; omega) | omega)) (And.intro (by (first | (clear hm hnf; omega) | omega)) (And.intro (by (first | (clear hm hnf; omega) | omega)) (And.intro (by (first | (clear hm hnf; omega) | omega)) (Exists.intro ng (And.intro (by first | exact qtm hm hnf (by (try clear hm hnf); omega) | omega) hT))))))))))))
        · replace hT := (if_pos h11).symm.trans hT
          refine And.intro (by (first | (clear hm hnf; omega) | omega)) (fun v14 gv14 e15 => ?_)
          replace hT := qlc e15 hT
          have b16 := iva_at i1 37 rfl (i := i) (by (first | (clear hm hnf; omega) | omega)) (by (first | (clear hm hnf; omega) | omega))
          refine And.intro (by (first | (clear hm hnf; omega) | omega)) (fun v17 gv17 e18 => ?_)
          replace hT := qlc e18 hT
          have b19 := iva_at i1 38 rfl (i := i) (by (first | (clear hm hnf; omega) | omega)) (by (first | (clear hm hnf; omega) | omega))
          refine Exists.intro v14 (Exists.intro v17 (And.intro rfl (And.intro (And.intro i1 (And.intro j1 (And.intro (by (first | (clear hm hnf; omega) | omega)) (And.intro (by (first | (clear hm hnf; omega) | omega)) (And.intro (by (first | (clear hm hnf; omega) | omega)) (And.intro (by (first | (clear hm hnf; omega) | omega)) (KO_fr p3 f1 rfl))))))) (fun A20 i21 j22 f23 r24 g27 g25 g26 => ?_))))
          replace hT := qlpc g25 g26 hT
          clear g25 g26
          have f28 := frm_c f1 f23 rfl
          refine And.intro (fun h29 => ?_) (fun h29 => ?_)
          · replace hT := (if_pos h29).symm.trans hT
            refine fun v30 e31 => ?_
            replace hT := qlc e31 hT
            exact And.intro (by (first | (clear hm hnf; omega) | omega)) (Exists.intro (14 - v30 : Int).toNat (And.intro (by first | exact qtn hm (by (try clear hm hnf); omega) | omega) (And.intro i21 (And.intro j22 (And.intro f28 (And.intro rfl (And.intro (by (first | (clear hm hnf; omega) | omega)) (And.intro (by (first | (clear hm hnf; omega) | omega)) (And.intro (by (first | (clear hm hnf; omega) | omega)) (And.intro (by (first | (clear hm hnf; omega) | omega)) (Exists.intro ng (And.intro (by first | exact qtm hm hnf (by (try clear hm hnf); omega) | omega) hT))))))))))))
          · replace hT := (if_neg h29).symm.trans hT
            refine And.intro (by (first | (clear hm hnf; omega) | omega)) (fun v32 gv32 e33 => ?_)
            replace hT := qlc e33 hT
            have b34 := iva_at i21 36 rfl (i := i) (by (first | (clear hm hnf; omega) | omega)) (by (first | (clear hm hnf; omega) | omega))
            refine And.intro (by (first | (clear hm hnf; omega) | omega)) (fun v35 gv35 e36 => ?_)
            replace hT := qlc e36 hT
            have b37 := iva_at i21 37 rfl (i := i) (by (first | (clear hm hnf; omega) | omega)) (by (first | (clear hm hnf; omega) | omega))
            have q38 : v14 = v35 := (e36.trans ((congrFun (frm_a f23 rfl) _).trans e15.symm)).symm
            subst q38
            refine Exists.intro v32 (Exists.intro v14 (And.intro rfl (And.intro (And.intro i21 (And.intro j22 (And.intro (by (first | (clear hm hnf; omega) | omega)) (And.intro (by (first | (clear hm hnf; omega) | omega)) (And.intro (by (first | (clear hm hnf; omega) | omega)) (And.intro (by (first | (clear hm hnf; omega) | omega)) (KO_fr p3 f28 rfl))))))) (fun A39 i40 j41 f42 r43 g46 g44 g45 => ?_))))
            replace hT := qlpc g44 g45 hT
            clear g44 g45
            have f47 := frm_c f28 f42 rfl
            refine (fun v48 e49 => ?_)
            replace hT := qlc e49 hT
            refine (fun v50 e51 => ?_)
            replace hT := qlc e51 hT
            exact hK _ i40 j41 f47 _ (by (first | (clear hm hnf; omega) | omega)) (by (first | (clear hm hnf; omega) | omega)) (by first | assumption | omega | simp_all) (congrArg Prod.fst hT) (congrArg Prod.snd hT)
  · exact Exists.intro (14 - 0 : Int).toNat (And.intro i0 (And.intro j0 (And.intro f0 (And.intro rfl (And.intro (by (first | (clear hm hnf; omega) | omega)) (And.intro (by (first | (clear hm hnf; omega) | omega)) (And.intro (by (first | (clear hm hnf; omega) | omega)) (And.intro (by (first | (clear hm hnf; omega) | omega)) (Exists.intro 100000 (And.intro (by (first | (clear hm hnf; omega) | omega)) hT))))))))))
theorem pC_answer36 {w m : Int} {A : qA} (hA : qokA LC A) (rg_w : rng w) (p0 : iva IC A) (p1 : ivf JC A) (p2 : 0 ≤ m) (p3 : m ≤ 1000) (p4 : KO A) : qokA LC (fC_answer36 w m A).2 ∧ iva IC (fC_answer36 w m A).2 ∧ ivf JC (fC_answer36 w m A).2 ∧ frm [43] [(36, 9)] A (fC_answer36 w m A).2 ∧ (0 ≤ (fC_answer36 w m A).1 ∧ (fC_answer36 w m A).1 ≤ 1000) ∧ ((fC_answer36 w m A).1 ≤ m) := by
  obtain ⟨r, B, hB, _, hk⟩ := okM_ex okC_answer36 (as := [rf 36, ni w, ni m, rf 35]) (K := fun _ B => B = (fC_answer36 w m A).2 ∧ iva IC (fC_answer36 w m A).2 ∧ ivf JC (fC_answer36 w m A).2 ∧ frm [43] [(36, 9)] A (fC_answer36 w m A).2 ∧ (0 ≤ (fC_answer36 w m A).1 ∧ (fC_answer36 w m A).1 ≤ 1000) ∧ ((fC_answer36 w m A).1 ≤ m)) hA (qoks_c (show qok (rf _) from trivial) (qoks_c (rg_w) (qoks_c (show rng m from ⟨by (first | (clear hm hnf; omega) | omega), by (first | (clear hm hnf; omega) | omega)⟩) (qoks_c (show qok (rf _) from trivial) qoks_n)))) ⟨w, m, rfl, ⟨p0, p1, p2, p3, p4⟩, fun A9 i9 j9 f9 r9 g8 g9 x0 x1 x2 => (by rw [← x2]; (try rw [← x1]); exact ⟨rfl, i9, j9, f9, ⟨g8, g9⟩, x0⟩)⟩
  exact ⟨hk.1 ▸ hB, hk.2⟩
def fC_put71 (g x : Int) (A : qA) : qA := qlet (A 71 (fd 8)) fun v3 => (if v3 < 200 then qlet (A 71 (fd 8)) fun v7 => qlet (qu A 72 v3 g) fun A11 => qlet (A11 71 (fd 8)) fun v16 => qlet (qu A11 73 v3 x) fun A20 => qlet (A20 71 (fd 8)) fun v25 => qlet (v3 + 1) fun v29 => qlet (qu A20 71 (fd 8) v29) fun A31 => A31 else A)
def sC_put71 : qS := fun as A K => ∃ g x : Int, as = [rf 71, ni g, ni x] ∧ (iva IC A ∧ ivf JC A ∧ 0 ≤ x ∧ x ≤ 99999) ∧ (∀ A' : qA, iva IC A' → ivf JC A' → frm [72, 73] [(71, 8)] A A' → (A' = fC_put71 g x A) → K none A')
theorem okC_put71 : okM LC 1 75 sC_put71 := by
  refine qmeth [] false [] 29 rfl trivial ?_
  rintro _ A K hA has ⟨g, x, rfl, ⟨i0, j0, p1, p2⟩, hK⟩
  have rg_g : rng g := has (ni g) (by simp)
  have rg_x : rng x := has (ni x) (by simp)
  have f0 := frm_0 [72, 73] [(71, 8)] A
  have hT : _ = fC_put71 g x A := (fC_put71.eq_1 g x A).symm
  refine ⟨Nat.le_of_ble_eq_true rfl, [], trivial, ?_⟩
  refine fun v3 gv3 e4 => ?_
  replace hT := qlc e4 hT
  have b5 := ivf_at j0 12 rfl
  refine And.intro (fun h6 => ?_) (fun h6 => ?_)
  · replace hT := (if_neg (Int.not_lt.mpr h6)).symm.trans hT
    exact hK _ i0 j0 f0 hT
  · replace hT := (if_pos h6).symm.trans hT
    refine fun v7 gv7 e8 => ?_
    replace hT := qlc e8 hT
    have b9 := ivf_at j0 12 rfl
    have q10 : v3 = v7 := (e8.trans e4.symm).symm
    subst q10
    refine And.intro (by (first | (clear hm hnf; omega) | omega)) (fun A11 e12 => ?_)
    replace hT := qlc e12 hT
    have i13 := iva_st i0 e12 trivial
    have j14 := ivf_sa j0 e12 rfl
    have f15 := frm_s f0 e12 rfl
    refine fun v16 gv16 e17 => ?_
    replace hT := qlc e17 hT
    have b18 := ivf_at j14 12 rfl
    have q19 : v3 = v16 := (e17.trans ((congrFun (st_a e12 rfl) _).trans e8.symm)).symm
    subst q19
    refine And.intro (by (first | (clear hm hnf; omega) | omega)) (fun A20 e21 => ?_)
    replace hT := qlc e21 hT
    have i22 := iva_st i13 e21 (And.intro (by (first | (clear hm hnf; omega) | omega)) trivial)
    have j23 := ivf_sa j14 e21 rfl
    have f24 := frm_s f15 e21 rfl
    refine fun v25 gv25 e26 => ?_
    replace hT := qlc e26 hT
    have b27 := ivf_at j23 12 rfl
    have q28 : v3 = v25 := (e26.trans ((congrFun (st_a e21 rfl) _).trans e17.symm)).symm
    subst q28
    refine fun v29 e30 => ?_
    replace hT := qlc e30 hT
    refine And.intro (by (first | (clear hm hnf; omega) | omega)) (fun A31 e32 => ?_)
    replace hT := qlc e32 hT
    have i33 := iva_sf i22 e32 rfl
    have j34 := ivf_st j23 e32 (And.intro (by (first | (clear hm hnf; omega) | omega)) trivial)
    have f35 := frm_sf f24 e32 rfl
    exact hK _ i33 j34 f35 hT
theorem pC_put71 {g x : Int} {A : qA} (hA : qokA LC A) (rg_g : rng g) (p0 : iva IC A) (p1 : ivf JC A) (p2 : 0 ≤ x) (p3 : x ≤ 99999) : qokA LC (fC_put71 g x A) ∧ iva IC (fC_put71 g x A) ∧ ivf JC (fC_put71 g x A) ∧ frm [72, 73] [(71, 8)] A (fC_put71 g x A) := by
  obtain ⟨r, B, hB, _, hk⟩ := okM_ex okC_put71 (as := [rf 71, ni g, ni x]) (K := fun _ B => B = (fC_put71 g x A) ∧ iva IC (fC_put71 g x A) ∧ ivf JC (fC_put71 g x A) ∧ frm [72, 73] [(71, 8)] A (fC_put71 g x A)) hA (qoks_c (show qok (rf _) from trivial) (qoks_c (rg_g) (qoks_c (show rng x from ⟨by (first | (clear hm hnf; omega) | omega), by (first | (clear hm hnf; omega) | omega)⟩) qoks_n))) ⟨g, x, rfl, ⟨p0, p1, p2, p3⟩, fun A9 i9 j9 f9 x0 => (by rw [← x0]; exact ⟨rfl, i9, j9, f9⟩)⟩
  exact ⟨hk.1 ▸ hB, hk.2⟩
def fC_reckon71_c5 (rec : Nat → List Int → qA → Int × qA) (l2 k : Int) (B : qA) : Int × qA := (if k < l2 then qlet (B 72 k) fun v19 => (if v19 = 48 then qlet (B 71 (fd 9)) fun v22 => (if v22 < 40 then qlet (B 71 (fd 9)) fun v26 => qlet (B 73 k) fun v31 => qlet (qu B 78 v22 v31) fun A34 => qlet (A34 71 (fd 9)) fun v39 => qlet (v22 + 1) fun v43 => qlet (qu A34 71 (fd 9) (wI v43)) fun A45 => qlet (k + 1) fun v52 => rec 5 [l2, ((wI v52))] A45 else (0, B)) else (if v19 = 107 then qlet (B 71 (fd 9)) fun v282 => (if v282 < 40 then qlet (B 71 (fd 9)) fun v286 => qlet (B 73 k) fun v291 => qlet (B 35 v291) fun v294 => qlet (qu B 78 v282 v294) fun A296 => qlet (A296 71 (fd 9)) fun v301 => qlet (v282 + 1) fun v305 => qlet (qu A296 71 (fd 9) (wI v305)) fun A307 => qlet (k + 1) fun v314 => rec 5 [l2, ((wI v314))] A307 else (0, B)) else qlet (B 71 (fd 9)) fun v57 => (if v57 < 1 then (0, B) else (if v19 = 33 then qlet (B 71 (fd 9)) fun v256 => qlet (v57 - 1) fun v260 => qlet (B 71 (fd 9)) fun v262 => qlet (v57 - 1) fun v266 => qlet (B 78 v266) fun v268 => qlet (1 - v268) fun v270 => qlet (qu B 78 v260 (wI v270)) fun A272 => qlet (k + 1) fun v278 => rec 5 [l2, ((wI v278))] A272 else (if v19 = 38 then qlet (B 71 (fd 9)) fun v63 => qlet (v57 - 1) fun v67 => qlet (B 78 v67) fun v69 => (if v69 = 0 then qlet (B 73 k) fun v74 => qlet (v74 - 1) fun v77 => qlet (max k (wI v77)) fun v79 => qlet (v79 + 1) fun v83 => rec 5 [l2, ((wI v83))] B else qlet (B 71 (fd 9)) fun v89 => qlet (v57 - 1) fun v93 => qlet (qu B 71 (fd 9) (wI v93)) fun A95 => qlet (k + 1) fun v102 => rec 5 [l2, ((wI v102))] A95) else (if v19 = 124 then qlet (B 71 (fd 9)) fun v213 => qlet (v57 - 1) fun v217 => qlet (B 78 v217) fun v219 => (if v219 = 0 then qlet (B 71 (fd 9)) fun v224 => qlet (v57 - 1) fun v228 => qlet (qu B 71 (fd 9) (wI v228)) fun A230 => qlet (k + 1) fun v237 => rec 5 [l2, ((wI v237))] A230 else qlet (B 73 k) fun v243 => qlet (v243 - 1) fun v246 => qlet (max k (wI v246)) fun v248 => qlet (v248 + 1) fun v252 => rec 5 [l2, ((wI v252))] B) else qlet (B 71 (fd 9)) fun v107 => (if v57 < 2 then (0, B) else qlet (B 71 (fd 9)) fun v112 => qlet (v57 - 1) fun v116 => qlet (B 78 v116) fun v118 => (if v118 = 0 then (if v19 = 47 then (0, B) else (if v19 = 37 then (0, B) else qlet (B 71 (fd 9)) fun v168 => qlet (v57 - 1) fun v172 => qlet (qu B 71 (fd 9) (wI v172)) fun A174 => qlet (A174 71 (fd 9)) fun v181 => qlet ((wI v172) - 1) fun v185 => qlet (A174 71 (fd 9)) fun v187 => qlet ((wI v172) - 1) fun v191 => qlet (A174 78 v191) fun v193 => qlet (A174 71 (fd 9)) fun v195 => qlet (A174 78 (wI v172)) fun v199 => qlet (fC_joined v19 v193 v199 A174) fun r201 => qlet (qu A174 78 v185 r201) fun A204 => qlet (k + 1) fun v209 => rec 5 [l2, ((wI v209))] A204)) else qlet (B 71 (fd 9)) fun v121 => qlet (v57 - 1) fun v125 => qlet (qu B 71 (fd 9) (wI v125)) fun A127 => qlet (A127 71 (fd 9)) fun v134 => qlet ((wI v125) - 1) fun v138 => qlet (A127 71 (fd 9)) fun v140 => qlet ((wI v125) - 1) fun v144 => qlet (A127 78 v144) fun v146 => qlet (A127 71 (fd 9)) fun v148 => qlet (A127 78 (wI v125)) fun v152 => qlet (fC_joined v19 v146 v152 A127) fun r154 => qlet (qu A127 78 v138 r154) fun A157 => qlet (k + 1) fun v162 => rec 5 [l2, ((wI v162))] A157)))))))) else qlet (B 71 (fd 9)) fun v12 => (if 0 < v12 then qlet (B 78 0) fun v16 => (v16, B) else (0, B)))
def fC_reckon71_L : Nat → Nat → List Int → qA → Int × qA
  | 0 => fun _ _ B => (0, B)
  | nF + 1 => fun k zs B => bif Nat.beq k 5 then (match zs with | [l2, k] => fC_reckon71_c5 (fC_reckon71_L nF) l2 k B | _ => (0, B)) else (0, B)
theorem fC_reckon71_L5 (nF : Nat) (l2 k : Int) (B : qA) : fC_reckon71_L (nF + 1) 5 [l2, k] B = fC_reckon71_c5 (fC_reckon71_L nF) l2 k B := (congrFun (congrFun (congrFun (fC_reckon71_L.eq_2 nF) 5) [l2, k]) B).trans (qL1 rfl rfl)
def fC_reckon71 (f t : Int) (A : qA) : Int × qA := qlet (qu A 71 (fd 9) 0) fun A6 => (fC_reckon71_L 100000) 5 [t, f] A6
def sC_reckon71 : qS := fun as A K => ∃ f t : Int, as = [rf 71, ni f, ni t, rf 35] ∧ (iva IC A ∧ ivf JC A ∧ 0 ≤ f ∧ f ≤ 200 ∧ 0 ≤ t ∧ t ≤ 200 ∧ (KO A)) ∧ (∀ A' : qA, iva IC A' → ivf JC A' → frm [78] [(71, 9)] A A' → ∀ r : Int, rng r → (r = (fC_reckon71 f t A).1) → (A' = (fC_reckon71 f t A).2) → K (some (ni r)) A')
theorem okC_reckon71 : okM LC 2 77 sC_reckon71 := by
  refine qmeth [] true [(78, sC_joined)] 186 rfl ⟨okC_joined.le (by decide), trivial⟩ ?_
  rintro _ A K hA has ⟨f, t, rfl, ⟨i0, j0, p1, p2, p3, p4, p5⟩, hK⟩
  have rg_f : rng f := has (ni f) (by simp)
  have rg_t : rng t := has (ni t) (by simp)
  have f0 := frm_0 [78] [(71, 9)] A
  have hT : _ = fC_reckon71 f t A := (fC_reckon71.eq_1 f t A).symm
  refine ⟨Nat.le_of_ble_eq_true rfl, [(5, [(0, 2, 71), (2, 0, 0), (3, 2, 35), (4, 0, 0)], fun zs B nn => match zs with | [l2, k] => iva IC B ∧ ivf JC B ∧ frm [78] [(71, 9)] A B ∧ nn = (200 - k : Int).toNat ∧ (l2 = t) ∧ (0 ≤ k) ∧ (k ≤ 100000) ∧ (∃ nf : Nat, nn < nf ∧ fC_reckon71_L nf 5 [l2, k] B = fC_reckon71 f t A) | _ => False)], ?_, ?_⟩
  · refine ⟨⟨rfl, ?_⟩, trivial⟩
    · refine fun l2 k B mm hB hz hI => ?_
      obtain ⟨i1, j1, f1, hm, c0, c1, c2, ⟨nf, hnf, hT⟩⟩ := hI
      obtain ⟨hz_l2, hz_k, _⟩ := hz
      obtain ⟨ng, rfl⟩ : ∃ k, nf = k + 1 := ⟨nf - 1, by omega⟩
      replace hT := (fC_reckon71_c5.eq_1 (fC_reckon71_L ng) l2 k B).symm.trans ((fC_reckon71_L5 ng l2 k B).symm.trans hT)
      refine And.intro (fun h11 => ?_) (fun h11 => ?_)
      · replace hT := (if_neg (Int.not_lt.mpr h11)).symm.trans hT
        refine fun v12 gv12 e13 => ?_
        replace hT := qlc e13 hT
        have b14 := ivf_at j1 13 rfl
        refine And.intro (fun h15 => ?_) (fun h15 => ?_)
        · replace hT := (if_neg (Int.not_lt.mpr h15)).symm.trans hT
          exact hK _ i1 j1 f1 _ (by first | assumption | exact wI_rng _ | exact ⟨by (first | (clear hm hnf; omega) | omega), by (first | (clear hm hnf; omega) | omega)⟩ | exact i_rng _ | (subst_vars; exact i_rng _) | exact (hA _ _).2 rfl) (congrArg Prod.fst hT) (congrArg Prod.snd hT)
        · replace hT := (if_pos h15).symm.trans hT
          refine And.intro (by (first | (clear hm hnf; omega) | omega)) (fun v16 gv16 e17 => ?_)
          replace hT := qlc e17 hT
          exact hK _ i1 j1 f1 _ (by first | assumption | exact wI_rng _ | exact ⟨by (first | (clear hm hnf; omega) | omega), by (first | (clear hm hnf; omega) | omega)⟩ | exact i_rng _ | (subst_vars; exact i_rng _) | exact (hA _ _).2 rfl) (congrArg Prod.fst hT) (congrArg Prod.snd hT)
      · replace hT := (if_pos h11).symm.trans hT
        refine And.intro (fun h18 => by exfalso; omega) (fun h18 => ?_)
        refine And.intro (by (first | (clear hm hnf; omega) | omega)) (fun v19 gv19 e20 => ?_)
        replace hT := qlc e20 hT
        refine And.intro (fun h21 => ?_) (fun h21 => ?_)
        · replace hT := (if_pos h21).symm.trans hT
          refine fun v22 gv22 e23 => ?_
          replace hT := qlc e23 hT
          have b24 := ivf_at j1 13 rfl
          refine And.intro (fun h25 => ?_) (fun h25 => ?_)
          · replace hT := (if_pos h25).symm.trans hT
            refine fun v26 gv26 e27 => ?_
            replace hT := qlc e27 hT
            have b28 := ivf_at j1 13 rfl
            have q29 : v22 = v26 := (e27.trans e23.symm).symm
            subst q29
            refine And.intro (fun h30 => by exfalso; omega) (fun h30 => ?_)
            refine And.intro (by (first | (clear hm hnf; omega) | omega)) (fun v31 gv31 e32 => ?_)
            replace hT := qlc e32 hT
            have b33 := iva_at i1 35 rfl (i := k) (by (first | (clear hm hnf; omega) | omega)) (by (first | (clear hm hnf; omega) | omega))
            refine And.intro (by (first | (clear hm hnf; omega) | omega)) (fun A34 e35 => ?_)
            replace hT := qlc e35 hT
            have i36 := iva_st i1 e35 trivial
            have j37 := ivf_sa j1 e35 rfl
            have f38 := frm_s f1 e35 rfl
            refine fun v39 gv39 e40 => ?_
            replace hT := qlc e40 hT
            have b41 := ivf_at j37 13 rfl
            have q42 : v22 = v39 := (e40.trans ((congrFun (st_a e35 rfl) _).trans e27.symm)).symm
            subst q42
            refine fun v43 e44 => ?_
            replace hT := qlc e44 hT
            have w47 := wI_rng v43
            have w48 : wI v43 = v43 := wI_id (by (first | (clear hm hnf; omega) | omega))
            refine fun A45 e46 => ?_
            replace hT := qlc e46 hT
            have i49 := iva_sf i36 e46 rfl
            have j50 := ivf_st j37 e46 (And.intro (by (first | (clear hm hnf; omega) | omega)) trivial)
            have f51 := frm_sf f38 e46 rfl
            refine fun v52 e53 => ?_
            replace hT := qlc e53 hT
            have w54 := wI_rng v52
            have w55 : wI v52 = v52 := wI_id (by (first | (clear hm hnf; omega) | omega))
            exact Exists.intro (200 - ((wI v52)) : Int).toNat (And.intro (by first | exact qtn hm (by (try clear hm hnf); omega) | omega) (And.intro i49 (And.intro j50 (And.intro f51 (And.intro rfl (And.intro (by (first | (clear hm hnf; omega) | omega)) (And.intro (by (first | (clear hm hnf; omega) | omega)) (And.intro (by (first | (clear hm hnf; omega) | omega)) (Exists.intro ng (And.intro (by first | exact qtm hm hnf (by (try clear hm hnf); omega) | omega) hT))))))))))
          · replace hT := (if_neg (Int.not_lt.mpr h25)).symm.trans hT
            exact hK _ i1 j1 f1 _ (by first | assumption | exact wI_rng _ | exact ⟨by (first | (clear hm hnf; omega) | omega), by (first | (clear hm hnf; omega) | omega)⟩ | exact i_rng _ | (subst_vars; exact i_rng _) | exact (hA _ _).2 rfl) (congrArg Prod.fst hT) (congrArg Prod.snd hT)
        · replace hT := (if_neg h21).symm.trans hT
          refine And.intro (fun h56 => ?_) (fun h56 => ?_)
          · replace hT := (if_neg h56).symm.trans hT
            refine fun v57 gv57 e58 => ?_
            replace hT := qlc e58 hT
            have b59 := ivf_at j1 13 rfl
            refine And.intro (fun h60 => ?_) (fun h60 => ?_)
            · replace hT := (if_neg (Int.not_lt.mpr h60)).symm.trans hT
              refine And.intro (fun h61 => ?_) (fun h61 => ?_)
              · replace hT := (if_neg h61).symm.trans hT
                refine And.intro (fun h62 => ?_) (fun h62 => ?_)
                · replace hT := (if_pos h62).symm.trans hT
                  refine fun v63 gv63 e64 => ?_
                  replace hT := qlc e64 hT
                  have b65 := ivf_at j1 13 rfl
                  have q66 : v57 = v63 := (e64.trans e58.symm).symm
                  subst q66
                  refine fun v67 e68 => ?_
                  replace hT := qlc e68 hT
                  refine And.intro (by (first | (clear hm hnf; omega) | omega)) (fun v69 gv69 e70 => ?_)
                  replace hT := qlc e70 hT
                  refine And.intro (fun h71 => ?_) (fun h71 => ?_)
                  · replace hT := (if_pos h71).symm.trans hT
                    refine And.intro (fun h72 => ?_) (fun h72 => by exfalso; omega)
                    refine And.intro (fun h73 => by exfalso; omega) (fun h73 => ?_)
                    refine And.intro (by (first | (clear hm hnf; omega) | omega)) (fun v74 gv74 e75 => ?_)
                    replace hT := qlc e75 hT
                    have b76 := iva_at i1 35 rfl (i := k) (by (first | (clear hm hnf; omega) | omega)) (by (first | (clear hm hnf; omega) | omega))
                    refine fun v77 e78 => ?_
                    replace hT := qlc e78 hT
                    have w81 := wI_rng v77
                    have w82 : wI v77 = v77 := wI_id (by (first | (clear hm hnf; omega) | omega))
                    refine (fun v79 e80 => ?_)
                    replace hT := qlc e80 hT
                    refine fun v83 e84 => ?_
                    replace hT := qlc e84 hT
                    have w85 := wI_rng v83
                    have w86 : wI v83 = v83 := wI_id (by (first | (clear hm hnf; omega) | omega))
                    exact Exists.intro (200 - ((wI v83)) : Int).toNat (And.intro (by first | exact qtn hm (by (try clear hm hnf); omega) | omega) (And.intro i1 (And.intro j1 (And.intro f1 (And.intro rfl (And.intro (by (first | (clear hm hnf; omega) | omega)) (And.intro (by (first | (clear hm hnf; omega) | omega)) (And.intro (by (first | (clear hm hnf; omega) | omega)) (Exists.intro ng (And.intro (by first | exact qtm hm hnf (by (try clear hm hnf); omega) | omega) hT))))))))))
                  · replace hT := (if_neg h71).symm.trans hT
                    refine And.intro (fun h87 => ?_) (fun h87 => by exfalso; omega)
                    refine And.intro (fun h88 => ?_) (fun h88 => by exfalso; omega)
                    refine fun v89 gv89 e90 => ?_
                    replace hT := qlc e90 hT
                    have b91 := ivf_at j1 13 rfl
                    have q92 : v57 = v89 := (e90.trans e64.symm).symm
                    subst q92
                    refine fun v93 e94 => ?_
                    replace hT := qlc e94 hT
                    have w97 := wI_rng v93
                    have w98 : wI v93 = v93 := wI_id (by (first | (clear hm hnf; omega) | omega))
                    refine fun A95 e96 => ?_
                    replace hT := qlc e96 hT
                    have i99 := iva_sf i1 e96 rfl
                    have j100 := ivf_st j1 e96 (And.intro (by (first | (clear hm hnf; omega) | omega)) trivial)
                    have f101 := frm_sf f1 e96 rfl
                    refine fun v102 e103 => ?_
                    replace hT := qlc e103 hT
                    have w104 := wI_rng v102
                    have w105 : wI v102 = v102 := wI_id (by (first | (clear hm hnf; omega) | omega))
                    exact Exists.intro (200 - ((wI v102)) : Int).toNat (And.intro (by first | exact qtn hm (by (try clear hm hnf); omega) | omega) (And.intro i99 (And.intro j100 (And.intro f101 (And.intro rfl (And.intro (by (first | (clear hm hnf; omega) | omega)) (And.intro (by (first | (clear hm hnf; omega) | omega)) (And.intro (by (first | (clear hm hnf; omega) | omega)) (Exists.intro ng (And.intro (by first | exact qtm hm hnf (by (try clear hm hnf); omega) | omega) hT))))))))))
                · replace hT := (if_neg h62).symm.trans hT
                  refine And.intro (fun h106 => ?_) (fun h106 => ?_)
                  · replace hT := (if_neg h106).symm.trans hT
                    refine fun v107 gv107 e108 => ?_
                    replace hT := qlc e108 hT
                    have b109 := ivf_at j1 13 rfl
                    have q110 : v57 = v107 := (e108.trans e58.symm).symm
                    subst q110
                    refine And.intro (fun h111 => ?_) (fun h111 => ?_)
                    · replace hT := (if_pos h111).symm.trans hT
                      exact hK _ i1 j1 f1 _ (by first | assumption | exact wI_rng _ | exact ⟨by (first | (clear hm hnf; omega) | omega), by (first | (clear hm hnf; omega) | omega)⟩ | exact i_rng _ | (subst_vars; exact i_rng _) | exact (hA _ _).2 rfl) (congrArg Prod.fst hT) (congrArg Prod.snd hT)
                    · replace hT := (if_neg (Int.not_lt.mpr h111)).symm.trans hT
                      refine fun v112 gv112 e113 => ?_
                      replace hT := qlc e113 hT
                      have b114 := ivf_at j1 13 rfl
                      have q115 : v57 = v112 := (e113.trans e108.symm).symm
                      subst q115
                      refine fun v116 e117 => ?_
                      replace hT := qlc e117 hT
                      refine And.intro (by (first | (clear hm hnf; omega) | omega)) (fun v118 gv118 e119 => ?_)
                      replace hT := qlc e119 hT
                      refine And.intro (fun h120 => ?_) (fun h120 => ?_)
                      · replace hT := (if_neg h120).symm.trans hT
                        refine fun v121 gv121 e122 => ?_
                        replace hT := qlc e122 hT
                        have b123 := ivf_at j1 13 rfl
                        have q124 : v57 = v121 := (e122.trans e113.symm).symm
                        subst q124
                        refine fun v125 e126 => ?_
                        replace hT := qlc e126 hT
                        have w129 := wI_rng v125
                        have w130 : wI v125 = v125 := wI_id (by (first | (clear hm hnf; omega) | omega))
                        refine fun A127 e128 => ?_
                        replace hT := qlc e128 hT
                        have i131 := iva_sf i1 e128 rfl
                        have j132 := ivf_st j1 e128 (And.intro (by (first | (clear hm hnf; omega) | omega)) trivial)
                        have f133 := frm_sf f1 e128 rfl
                        refine fun v134 gv134 e135 => ?_
                        replace hT := qlc e135 hT
                        have b136 := ivf_at j132 13 rfl
                        have q137 : (wI v125) = v134 := (e135.trans (st_v e128)).symm
                        subst q137
                        refine fun v138 e139 => ?_
                        replace hT := qlc e139 hT
                        refine fun v140 gv140 e141 => ?_
                        replace hT := qlc e141 hT
                        have b142 := ivf_at j132 13 rfl
                        have q143 : (wI v125) = v140 := (e141.trans e135.symm).symm
                        subst q143
                        refine fun v144 e145 => ?_
                        replace hT := qlc e145 hT
                        refine And.intro (by (first | (clear hm hnf; omega) | omega)) (fun v146 gv146 e147 => ?_)
                        replace hT := qlc e147 hT
                        refine fun v148 gv148 e149 => ?_
                        replace hT := qlc e149 hT
                        have b150 := ivf_at j132 13 rfl
                        have q151 : (wI v125) = v148 := (e149.trans e141.symm).symm
                        subst q151
                        refine And.intro (by (first | (clear hm hnf; omega) | omega)) (fun v152 gv152 e153 => ?_)
                        replace hT := qlc e153 hT
                        refine Exists.intro v19 (Exists.intro v146 (Exists.intro v152 (And.intro rfl (fun r154 g156 g155 => ?_))))
                        replace hT := qlc g155 hT
                        clear g155
                        refine And.intro (by (first | (clear hm hnf; omega) | omega)) (fun A157 e158 => ?_)
                        replace hT := qlc e158 hT
                        have i159 := iva_st i131 e158 trivial
                        have j160 := ivf_sa j132 e158 rfl
                        have f161 := frm_s f133 e158 rfl
                        refine fun v162 e163 => ?_
                        replace hT := qlc e163 hT
                        have w164 := wI_rng v162
                        have w165 : wI v162 = v162 := wI_id (by (first | (clear hm hnf; omega) | omega))
                        exact Exists.intro (200 - ((wI v162)) : Int).toNat (And.intro (by first | exact qtn hm (by (try clear hm hnf); omega) | omega) (And.intro i159 (And.intro j160 (And.intro f161 (And.intro rfl (And.intro (by (first | (clear hm hnf; omega) | omega)) (And.intro (by (first | (clear hm hnf; omega) | omega)) (And.intro (by (first | (clear hm hnf; omega) | omega)) (Exists.intro ng (And.intro (by first | exact qtm hm hnf (by (try clear hm hnf); omega) | omega) hT))))))))))
                      · replace hT := (if_pos h120).symm.trans hT
                        refine And.intro (fun h166 => ?_) (fun h166 => ?_)
                        · replace hT := (if_pos h166).symm.trans hT
                          exact hK _ i1 j1 f1 _ (by first | assumption | exact wI_rng _ | exact ⟨by (first | (clear hm hnf; omega) | omega), by (first | (clear hm hnf; omega) | omega)⟩ | exact i_rng _ | (subst_vars; exact i_rng _) | exact (hA _ _).2 rfl) (congrArg Prod.fst hT) (congrArg Prod.snd hT)
                        · replace hT := (if_neg h166).symm.trans hT
                          refine And.intro (fun h167 => ?_) (fun h167 => ?_)
                          · replace hT := (if_neg h167).symm.trans hT
                            refine fun v168 gv168 e169 => ?_
                            replace hT := qlc e169 hT
                            have b170 := ivf_at j1 13 rfl
                            have q171 : v57 = v168 := (e169.trans e113.symm).symm
                            subst q171
                            refine fun v172 e173 => ?_
                            replace hT := qlc e173 hT
                            have w176 := wI_rng v172
                            have w177 : wI v172 = v172 := wI_id (by (first | (clear hm hnf; omega) | omega))
                            refine fun A174 e175 => ?_
                            replace hT := qlc e175 hT
                            have i178 := iva_sf i1 e175 rfl
                            have j179 := ivf_st j1 e175 (And.intro (by (first | (clear hm hnf; omega) | omega)) trivial)
                            have f180 := frm_sf f1 e175 rfl
                            refine fun v181 gv181 e182 => ?_
                            replace hT := qlc e182 hT
                            have b183 := ivf_at j179 13 rfl
                            have q184 : (wI v172) = v181 := (e182.trans (st_v e175)).symm
                            subst q184
                            refine fun v185 e186 => ?_
                            replace hT := qlc e186 hT
                            refine fun v187 gv187 e188 => ?_
                            replace hT := qlc e188 hT
                            have b189 := ivf_at j179 13 rfl
                            have q190 : (wI v172) = v187 := (e188.trans e182.symm).symm
                            subst q190
                            refine fun v191 e192 => ?_
                            replace hT := qlc e192 hT
                            refine And.intro (by (first | (clear hm hnf; omega) | omega)) (fun v193 gv193 e194 => ?_)
                            replace hT := qlc e194 hT
                            refine fun v195 gv195 e196 => ?_
                            replace hT := qlc e196 hT
                            have b197 := ivf_at j179 13 rfl
                            have q198 : (wI v172) = v195 := (e196.trans e188.symm).symm
                            subst q198
                            refine And.intro (by (first | (clear hm hnf; omega) | omega)) (fun v199 gv199 e200 => ?_)
                            replace hT := qlc e200 hT
                            refine Exists.intro v19 (Exists.intro v193 (Exists.intro v199 (And.intro rfl (fun r201 g203 g202 => ?_))))
                            replace hT := qlc g202 hT
                            clear g202
                            refine And.intro (by (first | (clear hm hnf; omega) | omega)) (fun A204 e205 => ?_)
                            replace hT := qlc e205 hT
                            have i206 := iva_st i178 e205 trivial
                            have j207 := ivf_sa j179 e205 rfl
                            have f208 := frm_s f180 e205 rfl
                            refine fun v209 e210 => ?_
                            replace hT := qlc e210 hT
                            have w211 := wI_rng v209
                            have w212 : wI v209 = v209 := wI_id (by (first | (clear hm hnf; omega) | omega))
                            exact Exists.intro (200 - ((wI v209)) : Int).toNat (And.intro (by first | exact qtn hm (by (try clear hm hnf); omega) | omega) (And.intro i206 (And.intro j207 (And.intro f208 (And.intro rfl (And.intro (by (first | (clear hm hnf; omega) | omega)) (And.intro (by (first | (clear hm hnf; omega) | omega)) (And.intro (by (first | (clear hm hnf; omega) | omega)) (Exists.intro ng (And.intro (by first | exact qtm hm hnf (by (try clear hm hnf); omega) | omega) hT))))))))))
                          · replace hT := (if_pos h167).symm.trans hT
                            exact hK _ i1 j1 f1 _ (by first | assumption | exact wI_rng _ | exact ⟨by (first | (clear hm hnf; omega) | omega), by (first | (clear hm hnf; omega) | omega)⟩ | exact i_rng _ | (subst_vars; exact i_rng _) | exact (hA _ _).2 rfl) (congrArg Prod.fst hT) (congrArg Prod.snd hT)
                  · replace hT := (if_pos h106).symm.trans hT
                    refine fun v213 gv213 e214 => ?_
                    replace hT := qlc e214 hT
                    have b215 := ivf_at j1 13 rfl
                    have q216 : v57 = v213 := (e214.trans e58.symm).symm
                    subst q216
                    refine fun v217 e218 => ?_
                    replace hT := qlc e218 hT
                    refine And.intro (by (first | (clear hm hnf; omega) | omega)) (fun v219 gv219 e220 => ?_)
                    replace hT := qlc e220 hT
                    refine And.intro (fun h221 => ?_) (fun h221 => ?_)
                    · replace hT := (if_pos h221).symm.trans hT
                      refine And.intro (fun h222 => by exfalso; omega) (fun h222 => ?_)
                      refine And.intro (fun h223 => ?_) (fun h223 => by exfalso; omega)
                      refine fun v224 gv224 e225 => ?_
                      replace hT := qlc e225 hT
                      have b226 := ivf_at j1 13 rfl
                      have q227 : v57 = v224 := (e225.trans e214.symm).symm
                      subst q227
                      refine fun v228 e229 => ?_
                      replace hT := qlc e229 hT
                      have w232 := wI_rng v228
                      have w233 : wI v228 = v228 := wI_id (by (first | (clear hm hnf; omega) | omega))
                      refine fun A230 e231 => ?_
                      replace hT := qlc e231 hT
                      have i234 := iva_sf i1 e231 rfl
                      have j235 := ivf_st j1 e231 (And.intro (by (first | (clear hm hnf; omega) | omega)) trivial)
                      have f236 := frm_sf f1 e231 rfl
                      refine fun v237 e238 => ?_
                      replace hT := qlc e238 hT
                      have w239 := wI_rng v237
                      have w240 : wI v237 = v237 := wI_id (by (first | (clear hm hnf; omega) | omega))
                      exact Exists.intro (200 - ((wI v237)) : Int).toNat (And.intro (by first | exact qtn hm (by (try clear hm hnf); omega) | omega) (And.intro i234 (And.intro j235 (And.intro f236 (And.intro rfl (And.intro (by (first | (clear hm hnf; omega) | omega)) (And.intro (by (first | (clear hm hnf; omega) | omega)) (And.intro (by (first | (clear hm hnf; omega) | omega)) (Exists.intro ng (And.intro (by first | exact qtm hm hnf (by (try clear hm hnf); omega) | omega) hT))))))))))
                    · replace hT := (if_neg h221).symm.trans hT
                      refine And.intro (fun h241 => by exfalso; omega) (fun h241 => ?_)
                      refine And.intro (fun h242 => by exfalso; omega) (fun h242 => ?_)
                      refine And.intro (by (first | (clear hm hnf; omega) | omega)) (fun v243 gv243 e244 => ?_)
                      replace hT := qlc e244 hT
                      have b245 := iva_at i1 35 rfl (i := k) (by (first | (clear hm hnf; omega) | omega)) (by (first | (clear hm hnf; omega) | omega))
                      refine fun v246 e247 => ?_
                      replace hT := qlc e247 hT
                      have w250 := wI_rng v246
                      have w251 : wI v246 = v246 := wI_id (by (first | (clear hm hnf; omega) | omega))
                      refine (fun v248 e249 => ?_)
                      replace hT := qlc e249 hT
                      refine fun v252 e253 => ?_
                      replace hT := qlc e253 hT
                      have w254 := wI_rng v252
                      have w255 : wI v252 = v252 := wI_id (by (first | (clear hm hnf; omega) | omega))
                      exact Exists.intro (200 - ((wI v252)) : Int).toNat (And.intro (by first | exact qtn hm (by (try clear hm hnf); omega) | omega) (And.intro i1 (And.intro j1 (And.intro f1 (And.intro rfl (And.intro (by (first | (clear hm hnf; omega) | omega)) (And.intro (by (first | (clear hm hnf; omega) | omega)) (And.intro (by (first | (clear hm hnf; omega) | omega)) (Exists.intro ng (And.intro (by first | exact qtm hm hnf (by (try clear hm hnf); omega) | omega) hT))))))))))
              · replace hT := (if_pos h61).symm.trans hT
                refine fun v256 gv256 e257 => ?_
                replace hT := qlc e257 hT
                have b258 := ivf_at j1 13 rfl
                have q259 : v57 = v256 := (e257.trans e58.symm).symm
                subst q259
                refine fun v260 e261 => ?_
                replace hT := qlc e261 hT
                refine fun v262 gv262 e263 => ?_
                replace hT := qlc e263 hT
                have b264 := ivf_at j1 13 rfl
                have q265 : v57 = v262 := (e263.trans e257.symm).symm
                subst q265
                refine fun v266 e267 => ?_
                replace hT := qlc e267 hT
                refine And.intro (by (first | (clear hm hnf; omega) | omega)) (fun v268 gv268 e269 => ?_)
                replace hT := qlc e269 hT
                refine fun v270 e271 => ?_
                replace hT := qlc e271 hT
                have w274 := wI_rng v270
                refine And.intro (by (first | (clear hm hnf; omega) | omega)) (fun A272 e273 => ?_)
                replace hT := qlc e273 hT
                have i275 := iva_st i1 e273 trivial
                have j276 := ivf_sa j1 e273 rfl
                have f277 := frm_s f1 e273 rfl
                refine fun v278 e279 => ?_
                replace hT := qlc e279 hT
                have w280 := wI_rng v278
                have w281 : wI v278 = v278 := wI_id (by (first | (clear hm hnf; omega) | omega))
                exact Exists.intro (200 - ((wI v278)) : Int).toNat (And.intro (by first | exact qtn hm (by (try clear hm hnf); omega) | omega) (And.intro i275 (And.intro j276 (And.intro f277 (And.intro rfl (And.intro (by (first | (clear hm hnf; omega) | omega)) (And.intro (by (first | (clear hm hnf; omega) | omega)) (And.intro (by (first | (clear hm hnf; omega) | omega)) (Exists.intro ng (And.intro (by first | exact qtm hm hnf (by (try clear hm hnf); omega) | omega) hT))))))))))
            · replace hT := (if_pos h60).symm.trans hT
              exact hK _ i1 j1 f1 _ (by first | assumption | exact wI_rng _ | exact ⟨by (first | (clear hm hnf; omega) | omega), by (first | (clear hm hnf; omega) | omega)⟩ | exact i_rng _ | (subst_vars; exact i_rng _) | exact (hA _ _).2 rfl) (congrArg Prod.fst hT) (congrArg Prod.snd hT)
          · replace hT := (if_pos h56).symm.trans hT
            refine fun v282 gv282 e283 => ?_
            replace hT := qlc e283 hT
            have b284 := ivf_at j1 13 rfl
            refine And.intro (fun h285 => ?_) (fun h285 => ?_)
            · replace hT := (if_pos h285).symm.trans hT
              refine fun v286 gv286 e287 => ?_
              replace hT := qlc e287 hT
              have b288 := ivf_at j1 13 rfl
              have q289 : v282 = v286 := (e287.trans e283.symm).symm
              subst q289
              refine And.intro (fun h290 => ?_) (fun h290 => by exfalso; omega)
              refine And.intro (by (first | (clear hm hnf; omega) | omega)) (fun v291 gv291 e292 => ?_)
              replace hT := qlc e292 hT
              have b293 := iva_at i1 35 rfl (i := k) (by (first | (clear hm hnf; omega) | omega)) (by (first | (clear hm hnf; omega) | omega))
              have kk := (KO_fr p5 f1 rfl).2 k (by (first | (clear hm hnf; omega) | omega)) (by (first | (clear hm hnf; omega) | omega))
              refine And.intro (by (first | (clear hm hnf; omega) | omega)) (fun v294 gv294 e295 => ?_)
              replace hT := qlc e295 hT
              refine And.intro (by (first | (clear hm hnf; omega) | omega)) (fun A296 e297 => ?_)
              replace hT := qlc e297 hT
              have i298 := iva_st i1 e297 trivial
              have j299 := ivf_sa j1 e297 rfl
              have f300 := frm_s f1 e297 rfl
              refine fun v301 gv301 e302 => ?_
              replace hT := qlc e302 hT
              have b303 := ivf_at j299 13 rfl
              have q304 : v282 = v301 := (e302.trans ((congrFun (st_a e297 rfl) _).trans e287.symm)).symm
              subst q304
              refine fun v305 e306 => ?_
              replace hT := qlc e306 hT
              have w309 := wI_rng v305
              have w310 : wI v305 = v305 := wI_id (by (first | (clear hm hnf; omega) | omega))
              refine fun A307 e308 => ?_
              replace hT := qlc e308 hT
              have i311 := iva_sf i298 e308 rfl
              have j312 := ivf_st j299 e308 (And.intro (by (first | (clear hm hnf; omega) | omega)) trivial)
              have f313 := frm_sf f300 e308 rfl
              refine fun v314 e315 => ?_
              replace hT := qlc e315 hT
              have w316 := wI_rng v314
              have w317 : wI v314 = v314 := wI_id (by (first | (clear hm hnf; omega) | omega))
              exact Exists.intro (200 - ((wI v314)) : Int).toNat (And.intro (by first | exact qtn hm (by (try clear hm hnf); omega) | omega) (And.intro i311 (And.intro j312 (And.intro f313 (And.intro rfl (And.intro (by (first | (clear hm hnf; omega) | omega)) (And.intro (by (first | (clear hm hnf; omega) | omega)) (And.intro (by (first | (clear hm hnf; omega) | omega)) (Exists.intro ng (And.intro (by first | exact qtm hm hnf (by (try clear hm hnf); omega) | omega) hT))))))))))
            · replace hT := (if_neg (Int.not_lt.mpr h285)).symm.trans hT
              exact hK _ i1 j1 f1 _ (by first | assumption | exact wI_rng _ | exact ⟨by (first | (clear hm hnf; omega) | omega), by (first | (clear hm hnf; omega) | omega)⟩ | exact i_rng _ | (subst_vars; exact i_rng _) | exact (hA _ _).2 rfl) (congrArg Prod.fst hT) (congrArg Prod.snd hT)
  · refine fun A6 e7 => ?_
    replace hT := qlc e7 hT
    have i8 := iva_sf i0 e7 rfl
    have j9 := ivf_st j0 e7 (And.intro (by (first | (clear hm hnf; omega) | omega)) trivial)
    have f10 := frm_sf f0 e7 rfl
    exact Exists.intro (200 - f : Int).toNat (And.intro i8 (And.intro j9 (And.intro f10 (And.intro rfl (And.intro (by (first | (clear hm hnf; omega) | omega)) (And.intro (by (first | (clear hm hnf; omega) | omega)) (And.intro (by (first | (clear hm hnf; omega) | omega)) (Exists.intro 100000 (And.intro (by (first | (clear hm hnf; omega) | omega)) hT)))))))))
theorem pC_reckon71 {f t : Int} {A : qA} (hA : qokA LC A) (p0 : iva IC A) (p1 : ivf JC A) (p2 : 0 ≤ f) (p3 : f ≤ 200) (p4 : 0 ≤ t) (p5 : t ≤ 200) (p6 : KO A) : qokA LC (fC_reckon71 f t A).2 ∧ iva IC (fC_reckon71 f t A).2 ∧ ivf JC (fC_reckon71 f t A).2 ∧ frm [78] [(71, 9)] A (fC_reckon71 f t A).2 ∧ rng (fC_reckon71 f t A).1 := by
  obtain ⟨r, B, hB, _, hk⟩ := okM_ex okC_reckon71 (as := [rf 71, ni f, ni t, rf 35]) (K := fun _ B => B = (fC_reckon71 f t A).2 ∧ iva IC (fC_reckon71 f t A).2 ∧ ivf JC (fC_reckon71 f t A).2 ∧ frm [78] [(71, 9)] A (fC_reckon71 f t A).2 ∧ rng (fC_reckon71 f t A).1) hA (qoks_c (show qok (rf _) from trivial) (qoks_c (show rng f from ⟨by (first | (clear hm hnf; omega) | omega), by (first | (clear hm hnf; omega) | omega)⟩) (qoks_c (show rng t from ⟨by (first | (clear hm hnf; omega) | omega), by (first | (clear hm hnf; omega) | omega)⟩) (qoks_c (show qok (rf _) from trivial) qoks_n)))) ⟨f, t, rfl, ⟨p0, p1, p2, p3, p4, p5, p6⟩, fun A9 i9 j9 f9 r9 g9 x0 x1 => (by rw [← x1]; (try rw [← x0]); exact ⟨rfl, i9, j9, f9, g9⟩)⟩
  exact ⟨hk.1 ▸ hB, hk.2⟩
def fC_answer71_c2 (rec : Nat → List Int → qA → Int × qA) (l1 l2 i : Int) (B : qA) : Int × qA := qlet (B 71 (fd 7)) fun v4 => (if i < v4 then qlet (B 74 i) fun v9 => (if v9 = l1 then qlet (B 76 i) fun v14 => qlet (B 77 i) fun v17 => qlp (fC_reckon71 v14 v17 B) fun r24 A20 => (if r24 = 0 then qlet (i + 1) fun v30 => rec 2 [l1, l2, v30] A20 else qlet (A20 75 i) fun v32 => qlet (A20 76 i) fun v35 => qlp (fC_reckon71 v32 v14 A20) fun r43 A39 => qlet (min l2 r43) fun v48 => qlet (max 0 v48) fun v50 => (v50, A39)) else qlet (i + 1) fun v12 => rec 2 [l1, l2, v12] B) else (0, B))
def fC_answer71_L : Nat → Nat → List Int → qA → Int × qA
  | 0 => fun _ _ B => (0, B)
  | nF + 1 => fun k zs B => bif Nat.beq k 2 then (match zs with | [l1, l2, i] => fC_answer71_c2 (fC_answer71_L nF) l1 l2 i B | _ => (0, B)) else (0, B)
theorem fC_answer71_L2 (nF : Nat) (l1 l2 i : Int) (B : qA) : fC_answer71_L (nF + 1) 2 [l1, l2, i] B = fC_answer71_c2 (fC_answer71_L nF) l1 l2 i B := (congrFun (congrFun (congrFun (fC_answer71_L.eq_2 nF) 2) [l1, l2, i]) B).trans (qL1 rfl rfl)
def fC_answer71 (w m : Int) (A : qA) : Int × qA := (fC_answer71_L 100000) 2 [w, m, 0] A
def sC_answer71 : qS := fun as A K => ∃ w m : Int, as = [rf 71, ni w, ni m, rf 35] ∧ (iva IC A ∧ ivf JC A ∧ 0 ≤ m ∧ m ≤ 1000 ∧ (KO A)) ∧ (∀ A' : qA, iva IC A' → ivf JC A' → frm [78] [(71, 9)] A A' → ∀ r : Int, 0 ≤ r → r ≤ 1000 → (r ≤ m) → (r = (fC_answer71 w m A).1) → (A' = (fC_answer71 w m A).2) → K (some (ni r)) A')
theorem okC_answer71 : okM LC 3 76 sC_answer71 := by
  refine qmeth [] false [(77, sC_reckon71)] 53 rfl ⟨okC_reckon71.le (by decide), trivial⟩ ?_
  rintro _ A K hA has ⟨w, m, rfl, ⟨i0, j0, p1, p2, p3⟩, hK⟩
  have rg_w : rng w := has (ni w) (by simp)
  have rg_m : rng m := has (ni m) (by simp)
  have f0 := frm_0 [78] [(71, 9)] A
  have hT : _ = fC_answer71 w m A := (fC_answer71.eq_1 w m A).symm
  refine ⟨Nat.le_of_ble_eq_true rfl, [(2, [(0, 2, 71), (1, 0, 0), (2, 0, 0), (3, 2, 35), (4, 0, 0)], fun zs B nn => match zs with | [l1, l2, i] => iva IC B ∧ ivf JC B ∧ frm [78] [(71, 9)] A B ∧ nn = (14 - i : Int).toNat ∧ (l1 = w) ∧ (l2 = m) ∧ (0 ≤ i) ∧ (i ≤ 14) ∧ (∃ nf : Nat, nn < nf ∧ fC_answer71_L nf 2 [l1, l2, i] B = fC_answer71 w m A) | _ => False)], ?_, ?_⟩
  · refine ⟨⟨rfl, ?_⟩, trivial⟩
    · refine fun l1 l2 i B mm hB hz hI => ?_
      obtain ⟨i1, j1, f1, hm, c0, c1, c2, c3, ⟨nf, hnf, hT⟩⟩ := hI
      obtain ⟨hz_l1, hz_l2, hz_i, _⟩ := hz
      obtain ⟨ng, rfl⟩ : ∃ k, nf = k + 1 := ⟨nf - 1, by omega⟩
      replace hT := (fC_answer71_c2.eq_1 (fC_answer71_L ng) l1 l2 i B).symm.trans ((fC_answer71_L2 ng l1 l2 i B).symm.trans hT)
      refine fun v4 gv4 e5 => ?_
      replace hT := qlc e5 hT
      have b6 := ivf_at j1 11 rfl
      refine And.intro (fun h7 => ?_) (fun h7 => ?_)
      · replace hT := (if_neg (Int.not_lt.mpr h7)).symm.trans hT
        exact hK _ i1 j1 f1 _ (by (first | (clear hm hnf; omega) | omega)) (by (first | (clear hm hnf; omega) | omega)) (by first | assumption | omega | simp_all) (congrArg Prod.fst hT) (congrArg Prod.snd hT)
      · replace hT := (if_pos h7).symm.trans hT
        refine And.intro (fun h8 => by exfalso; omega) (fun h8 => ?_)
        refine And.intro (by (first | (clear hm hnf; omega) | omega)) (fun v9 gv9 e10 => ?_)
        replace hT := qlc e10 hT
        refine And.intro (fun h11 => ?_) (fun h11 => ?_)
        · replace hT := (if_neg h11).symm.trans hT
          refine fun v12 e13 => ?_
          replace hT := qlc e13 hT
          exact And.intro (by (first | (clear hm hnf; omega) | omega)) (Exists.intro (14 - v12 : Int).toNat (And.intro (by first | exact qtn hm (by (try clear hm hnf); omega) | omega) (And.intro i1 (And.intro j1 (And.intro f1 (And.intro rfl (And.intro (by (first | (clear hm hnf; omega) | omega)) (And.intro (by (first | (clear hm hnf; omega) | omega)) (And.intro (by (first | (clear hm hnf; omega) | omega)) (And.intro (by (first | (clear hm hnf; omega) | omega)) (Exists.intro ng (And.intro (by first | exact qtm hm hnf (by (try clear hm hnf); omega) | omega) hT))))))))))))
        · replace hT := (if_pos h11).symm.trans hT
          refine And.intro (by (first | (clear hm hnf; omega) | omega)) (fun v14 gv14 e15 => ?_)
          replace hT := qlc e15 hT
          have b16 := iva_at i1 40 rfl (i := i) (by (first | (clear hm hnf; omega) | omega)) (by (first | (clear hm hnf; omega) | omega))
          refine And.intro (by (first | (clear hm hnf; omega) | omega)) (fun v17 gv17 e18 => ?_)
          replace hT := qlc e18 hT
          have b19 := iva_at i1 41 rfl (i := i) (by (first | (clear hm hnf; omega) | omega)) (by (first | (clear hm hnf; omega) | omega))
          refine Exists.intro v14 (Exists.intro v17 (And.intro rfl (And.intro (And.intro i1 (And.intro j1 (And.intro (by (first | (clear hm hnf; omega) | omega)) (And.intro (by (first | (clear hm hnf; omega) | omega)) (And.intro (by (first | (clear hm hnf; omega) | omega)) (And.intro (by (first | (clear hm hnf; omega) | omega)) (KO_fr p3 f1 rfl))))))) (fun A20 i21 j22 f23 r24 g27 g25 g26 => ?_))))
          replace hT := qlpc g25 g26 hT
          clear g25 g26
          have f28 := frm_c f1 f23 rfl
          refine And.intro (fun h29 => ?_) (fun h29 => ?_)
          · replace hT := (if_pos h29).symm.trans hT
            refine fun v30 e31 => ?_
            replace hT := qlc e31 hT
            exact And.intro (by (first | (clear hm hnf; omega) | omega)) (Exists.intro (14 - v30 : Int).toNat (And.intro (by first | exact qtn hm (by (try clear hm hnf); omega) | omega) (And.intro i21 (And.intro j22 (And.intro f28 (And.intro rfl (And.intro (by (first | (clear hm hnf; omega) | omega)) (And.intro (by (first | (clear hm hnf; omega) | omega)) (And.intro (by (first | (clear hm hnf; omega) | omega)) (And.intro (by (first | (clear hm hnf; omega) | omega)) (Exists.intro ng (And.intro (by first | exact qtm hm hnf (by (try clear hm hnf); omega) | omega) hT))))))))))))
          · replace hT := (if_neg h29).symm.trans hT
            refine And.intro (by (first | (clear hm hnf; omega) | omega)) (fun v32 gv32 e33 => ?_)
            replace hT := qlc e33 hT
            have b34 := iva_at i21 39 rfl (i := i) (by (first | (clear hm hnf; omega) | omega)) (by (first | (clear hm hnf; omega) | omega))
            refine And.intro (by (first | (clear hm hnf; omega) | omega)) (fun v35 gv35 e36 => ?_)
            replace hT := qlc e36 hT
            have b37 := iva_at i21 40 rfl (i := i) (by (first | (clear hm hnf; omega) | omega)) (by (first | (clear hm hnf; omega) | omega))
            have q38 : v14 = v35 := (e36.trans ((congrFun (frm_a f23 rfl) _).trans e15.symm)).symm
            subst q38
            refine Exists.intro v32 (Exists.intro v14 (And.intro rfl (And.intro (And.intro i21 (And.intro j22 (And.intro (by (first | (clear hm hnf; omega) | omega)) (And.intro (by (first | (clear hm hnf; omega) | omega)) (And.intro (by (first | (clear hm hnf; omega) | omega)) (And.intro (by (first | (clear hm hnf; omega) | omega)) (KO_fr p3 f28 rfl))))))) (fun A39 i40 j41 f42 r43 g46 g44 g45 => ?_))))
            replace hT := qlpc g44 g45 hT
            clear g44 g45
            have f47 := frm_c f28 f42 rfl
            refine (fun v48 e49 => ?_)
            replace hT := qlc e49 hT
            refine (fun v50 e51 => ?_)
            replace hT := qlc e51 hT
            exact hK _ i40 j41 f47 _ (by (first | (clear hm hnf; omega) | omega)) (by (first | (clear hm hnf; omega) | omega)) (by first | assumption | omega | simp_all) (congrArg Prod.fst hT) (congrArg Prod.snd hT)
  · exact Exists.intro (14 - 0 : Int).toNat (And.intro i0 (And.intro j0 (And.intro f0 (And.intro rfl (And.intro (by (first | (clear hm hnf; omega) | omega)) (And.intro (by (first | (clear hm hnf; omega) | omega)) (And.intro (by (first | (clear hm hnf; omega) | omega)) (And.intro (by (first | (clear hm hnf; omega) | omega)) (Exists.intro 100000 (And.intro (by (first | (clear hm hnf; omega) | omega)) hT))))))))))
theorem pC_answer71 {w m : Int} {A : qA} (hA : qokA LC A) (rg_w : rng w) (p0 : iva IC A) (p1 : ivf JC A) (p2 : 0 ≤ m) (p3 : m ≤ 1000) (p4 : KO A) : qokA LC (fC_answer71 w m A).2 ∧ iva IC (fC_answer71 w m A).2 ∧ ivf JC (fC_answer71 w m A).2 ∧ frm [78] [(71, 9)] A (fC_answer71 w m A).2 ∧ (0 ≤ (fC_answer71 w m A).1 ∧ (fC_answer71 w m A).1 ≤ 1000) ∧ ((fC_answer71 w m A).1 ≤ m) := by
  obtain ⟨r, B, hB, _, hk⟩ := okM_ex okC_answer71 (as := [rf 71, ni w, ni m, rf 35]) (K := fun _ B => B = (fC_answer71 w m A).2 ∧ iva IC (fC_answer71 w m A).2 ∧ ivf JC (fC_answer71 w m A).2 ∧ frm [78] [(71, 9)] A (fC_answer71 w m A).2 ∧ (0 ≤ (fC_answer71 w m A).1 ∧ (fC_answer71 w m A).1 ≤ 1000) ∧ ((fC_answer71 w m A).1 ≤ m)) hA (qoks_c (show qok (rf _) from trivial) (qoks_c (rg_w) (qoks_c (show rng m from ⟨by (first | (clear hm hnf; omega) | omega), by (first | (clear hm hnf; omega) | omega)⟩) (qoks_c (show qok (rf _) from trivial) qoks_n)))) ⟨w, m, rfl, ⟨p0, p1, p2, p3, p4⟩, fun A9 i9 j9 f9 r9 g8 g9 x0 x1 x2 => (by rw [← x2]; (try rw [← x1]); exact ⟨rfl, i9, j9, f9, ⟨g8, g9⟩, x0⟩)⟩
  exact ⟨hk.1 ▸ hB, hk.2⟩
