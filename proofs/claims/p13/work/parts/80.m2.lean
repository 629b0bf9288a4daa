def fM_reckon (o x y : Int) (A : qA) : Int := (if o = 2 then qlet (x + y) fun v4 => (wI v4) else (if o = 3 then qlet (x - y) fun v7 => (wI v7) else (if o = 4 then qlet (x * y) fun v10 => (wI v10) else (if o = 5 then qlet (qd x y) fun v13 => (wI v13) else (if o = 6 then qlet (qm x y) fun v17 => v17 else (if o = 7 then (if x < y then 1 else 0) else (if o = 8 then (if y < x then 1 else 0) else (if x = y then 1 else 0))))))))
def sM_reckon : qS := fun as A K => ∃ o x y : Int, as = [ni o, ni x, ni y] ∧ (((o = 5 ∨ o = 6) → y ≠ 0)) ∧ (∀ r : Int, rng r → (r = fM_reckon o x y A) → K (some (ni r)) A)
theorem okM_reckon : okM LM 1 184 sM_reckon := by
  refine qmeth [] true [] 49 rfl trivial ?_
  rintro _ A K hA has ⟨o, x, y, rfl, p1, hK⟩
  have rg_o : rng o := has (ni o) (by simp)
  have rg_x : rng x := has (ni x) (by simp)
  have rg_y : rng y := has (ni y) (by simp)
  have hT : _ = fM_reckon o x y A := (fM_reckon.eq_1 o x y A).symm
  refine ⟨Nat.le_of_ble_eq_true rfl, [], trivial, ?_⟩
  refine (And.intro (fun h2 => ?_) (And.intro (fun h2 => ?_) (And.intro (fun h2 => ?_) (And.intro (fun h2 => ?_) (And.intro (fun h2 => ?_) (And.intro (fun h2 => ?_) (And.intro (fun h2 => ?_) (And.intro (fun h2 => ?_) trivial))))))))
  · replace hT := (if_neg (show ¬ (o = 2) by (first | (clear hm hnf; omega) | omega))).symm.trans hT
    replace hT := (if_neg (show ¬ (o = 3) by (first | (clear hm hnf; omega) | omega))).symm.trans hT
    replace hT := (if_neg (show ¬ (o = 4) by (first | (clear hm hnf; omega) | omega))).symm.trans hT
    replace hT := (if_neg (show ¬ (o = 5) by (first | (clear hm hnf; omega) | omega))).symm.trans hT
    replace hT := (if_neg (show ¬ (o = 6) by (first | (clear hm hnf; omega) | omega))).symm.trans hT
    replace hT := (if_neg (show ¬ (o = 7) by (first | (clear hm hnf; omega) | omega))).symm.trans hT
    replace hT := (if_neg (show ¬ (o = 8) by (first | (clear hm hnf; omega) | omega))).symm.trans hT
    refine And.intro (fun h3 => ?_) (fun h3 => ?_)
    · replace hT := (if_neg h3).symm.trans hT
      exact hK _ (by first | assumption | exact ⟨by (first | (clear hm hnf; omega) | omega), by (first | (clear hm hnf; omega) | omega)⟩ | exact wI_rng _ | exact i_rng _ | (subst_vars; exact i_rng _) | exact (hA _ _).2 rfl) hT
    · replace hT := (if_pos h3).symm.trans hT
      exact hK _ (by first | assumption | exact ⟨by (first | (clear hm hnf; omega) | omega), by (first | (clear hm hnf; omega) | omega)⟩ | exact wI_rng _ | exact i_rng _ | (subst_vars; exact i_rng _) | exact (hA _ _).2 rfl) hT
  · replace hT := (if_pos (show o = 2 by (first | (clear hm hnf; omega) | omega))).symm.trans hT
    refine fun v4 e5 => ?_
    replace hT := qlc e5 hT
    have w6 := wI_rng v4
    exact hK _ (by first | assumption | exact ⟨by (first | (clear hm hnf; omega) | omega), by (first | (clear hm hnf; omega) | omega)⟩ | exact wI_rng _ | exact i_rng _ | (subst_vars; exact i_rng _) | exact (hA _ _).2 rfl) hT
  · replace hT := (if_neg (show ¬ (o = 2) by (first | (clear hm hnf; omega) | omega))).symm.trans hT
    replace hT := (if_pos (show o = 3 by (first | (clear hm hnf; omega) | omega))).symm.trans hT
    refine fun v7 e8 => ?_
    replace hT := qlc e8 hT
    have w9 := wI_rng v7
    exact hK _ (by first | assumption | exact ⟨by (first | (clear hm hnf; omega) | omega), by (first | (clear hm hnf; omega) | omega)⟩ | exact wI_rng _ | exact i_rng _ | (subst_vars; exact i_rng _) | exact (hA _ _).2 rfl) hT
  · replace hT := (if_neg (show ¬ (o = 2) by (first | (clear hm hnf; omega) | omega))).symm.trans hT
    replace hT := (if_neg (show ¬ (o = 3) by (first | (clear hm hnf; omega) | omega))).symm.trans hT
    replace hT := (if_pos (show o = 4 by (first | (clear hm hnf; omega) | omega))).symm.trans hT
    refine fun v10 e11 => ?_
    replace hT := qlc e11 hT
    have w12 := wI_rng v10
    exact hK _ (by first | assumption | exact ⟨by (first | (clear hm hnf; omega) | omega), by (first | (clear hm hnf; omega) | omega)⟩ | exact wI_rng _ | exact i_rng _ | (subst_vars; exact i_rng _) | exact (hA _ _).2 rfl) hT
  · replace hT := (if_neg (show ¬ (o = 2) by (first | (clear hm hnf; omega) | omega))).symm.trans hT
    replace hT := (if_neg (show ¬ (o = 3) by (first | (clear hm hnf; omega) | omega))).symm.trans hT
    replace hT := (if_neg (show ¬ (o = 4) by (first | (clear hm hnf; omega) | omega))).symm.trans hT
    replace hT := (if_pos (show o = 5 by (first | (clear hm hnf; omega) | omega))).symm.trans hT
    refine And.intro (by (first | (clear hm hnf; omega) | omega)) (fun v13 e14 => ?_)
    replace hT := qlc e14 hT
    have w16 := wI_rng v13
    exact hK _ (by first | assumption | exact ⟨by (first | (clear hm hnf; omega) | omega), by (first | (clear hm hnf; omega) | omega)⟩ | exact wI_rng _ | exact i_rng _ | (subst_vars; exact i_rng _) | exact (hA _ _).2 rfl) hT
  · replace hT := (if_neg (show ¬ (o = 2) by (first | (clear hm hnf; omega) | omega))).symm.trans hT
    replace hT := (if_neg (show ¬ (o = 3) by (first | (clear hm hnf; omega) | omega))).symm.trans hT
    replace hT := (if_neg (show ¬ (o = 4) by (first | (clear hm hnf; omega) | omega))).symm.trans hT
    replace hT := (if_neg (show ¬ (o = 5) by (first | (clear hm hnf; omega) | omega))).symm.trans hT
    replace hT := (if_pos (show o = 6 by (first | (clear hm hnf; omega) | omega))).symm.trans hT
    refine And.intro (by (first | (clear hm hnf; omega) | omega)) (fun v17 e18 => ?_)
    replace hT := qlc e18 hT
    have h19 := qm_rng (a := x) (b := y) (by (first | (clear hm hnf; omega) | omega))
    exact hK _ (by first | assumption | exact ⟨by (first | (clear hm hnf; omega) | omega), by (first | (clear hm hnf; omega) | omega)⟩ | exact wI_rng _ | exact i_rng _ | (subst_vars; exact i_rng _) | exact (hA _ _).2 rfl) hT
  · replace hT := (if_neg (show ¬ (o = 2) by (first | (clear hm hnf; omega) | omega))).symm.trans hT
    replace hT := (if_neg (show ¬ (o = 3) by (first | (clear hm hnf; omega) | omega))).symm.trans hT
    replace hT := (if_neg (show ¬ (o = 4) by (first | (clear hm hnf; omega) | omega))).symm.trans hT
    replace hT := (if_neg (show ¬ (o = 5) by (first | (clear hm hnf; omega) | omega))).symm.trans hT
    replace hT := (if_neg (show ¬ (o = 6) by (first | (clear hm hnf; omega) | omega))).symm.trans hT
    replace hT := (if_pos (show o = 7 by (first | (clear hm hnf; omega) | omega))).symm.trans hT
    refine And.intro (fun h20 => ?_) (fun h20 => ?_)
    · replace hT := (if_neg (Int.not_lt.mpr h20)).symm.trans hT
      exact hK _ (by first | assumption | exact ⟨by (first | (clear hm hnf; omega) | omega), by (first | (clear hm hnf; omega) | omega)⟩ | exact wI_rng _ | exact i_rng _ | (subst_vars; exact i_rng _) | exact (hA _ _).2 rfl) hT
    · replace hT := (if_pos h20).symm.trans hT
      exact hK _ (by first | assumption | exact ⟨by (first | (clear hm hnf; omega) | omega), by (first | (clear hm hnf; omega) | omega)⟩ | exact wI_rng _ | exact i_rng _ | (subst_vars; exact i_rng _) | exact (hA _ _).2 rfl) hT
  · replace hT := (if_neg (show ¬ (o = 2) by (first | (clear hm hnf; omega) | omega))).symm.trans hT
    replace hT := (if_neg (show ¬ (o = 3) by (first | (clear hm hnf; omega) | omega))).symm.trans hT
    replace hT := (if_neg (show ¬ (o = 4) by (first | (clear hm hnf; omega) | omega))).symm.trans hT
    replace hT := (if_neg (show ¬ (o = 5) by (first | (clear hm hnf; omega) | omega))).symm.trans hT
    replace hT := (if_neg (show ¬ (o = 6) by (first | (clear hm hnf; omega) | omega))).symm.trans hT
    replace hT := (if_neg (show ¬ (o = 7) by (first | (clear hm hnf; omega) | omega))).symm.trans hT
    replace hT := (if_pos (show o = 8 by (first | (clear hm hnf; omega) | omega))).symm.trans hT
    refine And.intro (fun h21 => ?_) (fun h21 => ?_)
    · replace hT := (if_neg (Int.not_lt.mpr h21)).symm.trans hT
      exact hK _ (by first | assumption | exact ⟨by (first | (clear hm hnf; omega) | omega), by (first | (clear hm hnf; omega) | omega)⟩ | exact wI_rng _ | exact i_rng _ | (subst_vars; exact i_rng _) | exact (hA _ _).2 rfl) hT
    · replace hT := (if_pos h21).symm.trans hT
      exact hK _ (by first | assumption | exact ⟨by (first | (clear hm hnf; omega) | omega), by (first | (clear hm hnf; omega) | omega)⟩ | exact wI_rng _ | exact i_rng _ | (subst_vars; exact i_rng _) | exact (hA _ _).2 rfl) hT
theorem pM_reckon {o x y : Int} {A : qA} (hA : qokA LM A) (rg_o : rng o) (rg_x : rng x) (rg_y : rng y) (p0 : (o = 5 ∨ o = 6) → y ≠ 0) : rng (fM_reckon o x y A) := by
  obtain ⟨r, B, hB, _, hk⟩ := okM_ex okM_reckon (as := [ni o, ni x, ni y]) (K := fun _ B => B = A ∧ rng (fM_reckon o x y A)) hA (qoks_c (rg_o) (qoks_c (rg_x) (qoks_c (rg_y) qoks_n))) ⟨o, x, y, rfl, p0, fun r9 g9 x0 => (by rw [← x0]; exact ⟨rfl, g9⟩)⟩
  exact hk.2
def fM_comesTo_c10 (rec : Nat → List Int → qA → Int × qA) (l2 n b k : Int) (B : qA) : Int × qA := (if k < l2 then qlet (B 29 k) fun v16 => qlet (qd v16 (qn 1048576)) fun v20 => qlet (B 29 k) fun v23 => qlet (qm v16 (qn 1048576)) fun v28 => qlet (k + 1) fun v31 => (if (wI v20) = 0 then qlet (qu B 34 n v28) fun A39 => qlet (n + 1) fun v44 => rec 10 [l2, ((wI v44)), b, ((wI v31))] A39 else (if (wI v20) = 1 then qlet (B 35 v28) fun v199 => qlet (qu B 34 n v199) fun A201 => qlet (n + 1) fun v206 => rec 10 [l2, ((wI v206)), b, ((wI v31))] A201 else (if (wI v20) = 10 then qlet (n - 1) fun v180 => qlet (n - 1) fun v182 => qlet (B 34 v182) fun v184 => qlet (1 - v184) fun v186 => qlet (qu B 34 v180 (wI v186)) fun A188 => rec 10 [l2, n, b, ((wI v31))] A188 else (if (wI v20) = 11 then qlet (n - 1) fun v59 => qlet (B 34 v59) fun v61 => (if v61 = 0 then qlet (b + v28) fun v73 => rec 10 [l2, n, b, ((wI v73))] B else qlet (n - 1) fun v67 => rec 10 [l2, ((wI v67)), b, ((wI v31))] B) else (if (wI v20) = 12 then qlet (n - 1) fun v162 => qlet (B 34 v162) fun v164 => (if v164 = 1 then qlet (b + v28) fun v176 => rec 10 [l2, n, b, ((wI v176))] B else qlet (n - 1) fun v170 => rec 10 [l2, ((wI v170)), b, ((wI v31))] B) else qlet (n - 1) fun v80 => (if (wI v20) = 5 then qlet (B 34 v80) fun v85 => (if v85 = 0 then (0, B) else qlet (v80 - 1) fun v88 => qlet (v80 - 1) fun v90 => qlet (B 34 v90) fun v92 => qlet (B 34 v80) fun v94 => qlet (fM_reckon (wI v20) v92 v85 B) fun r99 => qlet (qu B 34 v88 r99) fun A102 => rec 10 [l2, ((wI v80)), b, ((wI v31))] A102) else (if (wI v20) = 6 then qlet (B 34 v80) fun v136 => (if v136 = 0 then (0, B) else qlet (v80 - 1) fun v139 => qlet (v80 - 1) fun v141 => qlet (B 34 v141) fun v143 => qlet (B 34 v80) fun v145 => qlet (fM_reckon (wI v20) v143 v136 B) fun r150 => qlet (qu B 34 v139 r150) fun A153 => rec 10 [l2, ((wI v80)), b, ((wI v31))] A153) else qlet (v80 - 1) fun v114 => qlet (v80 - 1) fun v116 => qlet (B 34 v116) fun v118 => qlet (B 34 v80) fun v120 => qlet (fM_reckon (wI v20) v118 v120 B) fun r124 => qlet (qu B 34 v114 r124) fun A127 => rec 10 [l2, ((wI v80)), b, ((wI v31))] A127))))))) else qlet (B 34 0) fun v14 => (v14, B))
def fM_comesTo_L : Nat → Nat → List Int → qA → Int × qA
  | 0 => fun _ _ B => (0, B)
  | nF + 1 => fun k zs B => bif Nat.beq k 10 then (match zs with | [l2, n, b, k] => fM_comesTo_c10 (fM_comesTo_L nF) l2 n b k B | _ => (0, B)) else (0, B)
theorem fM_comesTo_L10 (nF : Nat) (l2 n b k : Int) (B : qA) : fM_comesTo_L (nF + 1) 10 [l2, n, b, k] B = fM_comesTo_c10 (fM_comesTo_L nF) l2 n b k B := (congrFun (congrFun (congrFun (fM_comesTo_L.eq_2 nF) 10) [l2, n, b, k]) B).trans (qL1 rfl rfl)
def fM_comesTo (f t : Int) (A : qA) : Int × qA := qlet (qd f 220) fun v6 => qlet (220 * v6) fun v9 => (fM_comesTo_L 100000) 10 [t, 0, ((wI v9)), f] A
def sM_comesTo : qS := fun as A K => ∃ f t : Int, as = [rf 0, ni f, ni t] ∧ (iva IM A ∧ ivf JM A ∧ 0 ≤ f ∧ f ≤ 220 ∧ 0 ≤ t ∧ t ≤ 220 ∧ (SEG A f t)) ∧ (∀ A' : qA, iva IM A' → ivf JM A' → frm [34] [] A A' → ∀ r : Int, rng r → (r = (fM_comesTo f t A).1) → (A' = (fM_comesTo f t A).2) → K (some (ni r)) A')
theorem okM_comesTo : okM LM 2 185 sM_comesTo := by
  refine qmeth [] true [(184, sM_reckon)] 147 rfl ⟨okM_reckon.le (by decide), trivial⟩ ?_
  rintro _ A K hA has ⟨f, t, rfl, ⟨i0, j0, p1, p2, p3, p4, p5⟩, hK⟩
  have rg_f : rng f := has (ni f) (by simp)
  have rg_t : rng t := has (ni t) (by simp)
  have f0 := frm_0 [34] [] A
  obtain ⟨δ, hδ⟩ := (by assumption : SEG A f t)
  have hδ0 := hδ.1
  have hδ1 := hδ.2.1
  have hδ2 := hδ.2.2.1
  have hδ3 := hδ.2.2.2.1
  have hT : _ = fM_comesTo f t A := (fM_comesTo.eq_1 f t A).symm
  refine ⟨Nat.le_of_ble_eq_true rfl, [(10, [(0, 2, 0), (2, 0, 0), (3, 0, 0), (4, 0, 0), (5, 0, 0)], fun zs B nn => match zs with | [l2, n, b, k] => iva IM B ∧ ivf JM B ∧ frm [34] [] A B ∧ nn = (t - k : Int).toNat ∧ (l2 = t) ∧ (0 ≤ b) ∧ (b ≤ 0) ∧ (f ≤ k) ∧ (k ≤ t) ∧ (n = δ k) ∧ (0 ≤ n) ∧ (n ≤ 219) ∧ (∃ nf : Nat, nn < nf ∧ fM_comesTo_L nf 10 [l2, n, b, k] B = fM_comesTo f t A) | _ => False)], ?_, ?_⟩
  · refine ⟨⟨rfl, ?_⟩, trivial⟩
    · refine fun l2 n b k B mm hB hz hI => ?_
      obtain ⟨i1, j1, f1, hm, c0, c1, c2, c3, c4, c5, c6, c7, ⟨nf, hnf, hT⟩⟩ := hI
      obtain ⟨hz_l2, hz_n, hz_b, hz_k, _⟩ := hz
      obtain ⟨ng, rfl⟩ : ∃ k, nf = k + 1 := ⟨nf - 1, by omega⟩
      replace hT := (fM_comesTo_c10.eq_1 (fM_comesTo_L ng) l2 n b k B).symm.trans ((fM_comesTo_L10 ng l2 n b k B).symm.trans hT)
      have h29 : B 29 = A 29 := frm_a f1 rfl
      refine And.intro (fun h13 => ?_) (fun h13 => ?_)
      · replace hT := (if_neg (Int.not_lt.mpr h13)).symm.trans hT
        refine And.intro (by (first | (clear hm hnf; omega) | omega)) (fun v14 gv14 e15 => ?_)
        replace hT := qlc e15 hT
        exact hK _ i1 j1 f1 _ (by first | assumption | exact ⟨by (first | (clear hm hnf; omega) | omega), by (first | (clear hm hnf; omega) | omega)⟩ | exact wI_rng _ | exact i_rng _ | (subst_vars; exact i_rng _) | exact (hA _ _).2 rfl) (congrArg Prod.fst hT) (congrArg Prod.snd hT)
      · replace hT := (if_pos h13).symm.trans hT
        have hst : STEP A t δ k := hδ.2.2.2.2 k (by (first | (clear hm hnf; omega) | omega)) (by (first | (clear hm hnf; omega) | omega))
        unfold STEP at hst
        have e29 := congrFun h29 k
        refine And.intro (by (first | (clear hm hnf; omega) | omega)) (fun v16 gv16 e17 => ?_)
        replace hT := qlc e17 hT
        have b18 := iva_at i1 13 rfl (i := k) (by (first | (clear hm hnf; omega) | omega)) (by (first | (clear hm hnf; omega) | omega))
        have k19 : qn 1048576 = 1048576 := by decide
        refine And.intro (by (first | (clear hm hnf; omega) | omega)) (fun v20 e21 => ?_)
        replace hT := qlc e21 hT
        have h22 := qd_nn (a := v16) (b := (qn 1048576)) (by (first | (clear hm hnf; omega) | omega))
        rw [show qn 1048576 = 1048576 by decide] at h22 e21
        refine And.intro (by (first | (clear hm hnf; omega) | omega)) (fun v23 gv23 e24 => ?_)
        replace hT := qlc e24 hT
        have b25 := iva_at i1 13 rfl (i := k) (by (first | (clear hm hnf; omega) | omega)) (by (first | (clear hm hnf; omega) | omega))
        have q26 : v16 = v23 := (e24.trans e17.symm).symm
        subst q26
        have k27 : qn 1048576 = 1048576 := by decide
        refine And.intro (by (first | (clear hm hnf; omega) | omega)) (fun v28 e29 => ?_)
        replace hT := qlc e29 hT
        have h30 := qm_nn (a := v16) (b := (qn 1048576)) (by (first | (clear hm hnf; omega) | omega))
        rw [show qn 1048576 = 1048576 by decide] at h30 e29
        refine fun v31 e32 => ?_
        replace hT := qlc e32 hT
        have w34 := wI_rng v20
        have w35 : wI v20 = v20 := wI_id (by (first | (clear hm hnf; omega) | omega))
        refine And.intro (fun h33 => ?_) (fun h33 => ?_)
        · replace hT := (if_pos h33).symm.trans hT
          have w37 := wI_rng v20
          have w38 : wI v20 = v20 := wI_id (by (first | (clear hm hnf; omega) | omega))
          refine And.intro (fun h36 => by exfalso; omega) (fun h36 => ?_)
          refine And.intro (by (first | (clear hm hnf; omega) | omega)) (fun A39 e40 => ?_)
          replace hT := qlc e40 hT
          have i41 := iva_st i1 e40 trivial
          have j42 := ivf_sa j1 e40 rfl
          have f43 := frm_s f1 e40 rfl
          refine fun v44 e45 => ?_
          replace hT := qlc e45 hT
          have w46 := wI_rng v44
          have w47 : wI v44 = v44 := wI_id (by (first | (clear hm hnf; omega) | omega))
          have w48 := wI_rng v31
          have w49 : wI v31 = v31 := wI_id (by (first | (clear hm hnf; omega) | omega))
          exact Exists.intro (t - ((wI v31)) : Int).toNat (And.intro (by first | exact qtn hm (by (try clear hm hnf); omega) | omega) (And.intro i41 (And.intro j42 (And.intro f43 (And.intro rfl (And.intro (by (first | (clear hm hnf; omega) | omega)) (And.intro (by (first | (clear hm hnf; omega) | omega)) (And.intro (by (first | (clear hm hnf; omega) | omega)) (And.intro (by (first | (clear hm hnf; omega) | omega)) (And.intro (by (first | (clear hm hnf; omega) | omega)) (And.intro (by first | omega | (rw [show ((wI v31)) = k + 1 by (first | (clear hm hnf; omega) | omega)]; omega) | (rw [show ((wI v31)) = A 29 k % 1048576 by (first | (clear hm hnf; omega) | omega)]; omega)) (And.intro (by (first | (clear hm hnf; omega) | omega)) (And.intro (by (first | (clear hm hnf; omega) | omega)) (Exists.intro ng (And.intro (by first | exact qtm hm hnf (by (try clear hm hnf); omega) | omega) hT)))))))))))))))
        · replace hT := (if_neg h33).symm.trans hT
          have w51 := wI_rng v20
          have w52 : wI v20 = v20 := wI_id (by (first | (clear hm hnf; omega) | omega))
          refine And.intro (fun h50 => ?_) (fun h50 => ?_)
          · replace hT := (if_neg h50).symm.trans hT
            have w54 := wI_rng v20
            have w55 : wI v20 = v20 := wI_id (by (first | (clear hm hnf; omega) | omega))
            refine And.intro (fun h53 => ?_) (fun h53 => ?_)
            · replace hT := (if_neg h53).symm.trans hT
              have w57 := wI_rng v20
              have w58 : wI v20 = v20 := wI_id (by (first | (clear hm hnf; omega) | omega))
              refine And.intro (fun h56 => ?_) (fun h56 => ?_)
              · replace hT := (if_pos h56).symm.trans hT
                refine fun v59 e60 => ?_
                replace hT := qlc e60 hT
                refine And.intro (by (first | (clear hm hnf; omega) | omega)) (fun v61 gv61 e62 => ?_)
                replace hT := qlc e62 hT
                have w64 := wI_rng v20
                have w65 : wI v20 = v20 := wI_id (by (first | (clear hm hnf; omega) | omega))
                refine And.intro (fun h63 => ?_) (fun h63 => by exfalso; omega)
                refine And.intro (fun h66 => ?_) (fun h66 => ?_)
                · replace hT := (if_neg h66).symm.trans hT
                  refine fun v67 e68 => ?_
                  replace hT := qlc e68 hT
                  have w69 := wI_rng v67
                  have w70 : wI v67 = v67 := wI_id (by (first | (clear hm hnf; omega) | omega))
                  have w71 := wI_rng v31
                  have w72 : wI v31 = v31 := wI_id (by (first | (clear hm hnf; omega) | omega))
                  exact Exists.intro (t - ((wI v31)) : Int).toNat (And.intro (by first | exact qtn hm (by (try clear hm hnf); omega) | omega) (And.intro i1 (And.intro j1 (And.intro f1 (And.intro rfl (And.intro (by (first | (clear hm hnf; omega) | omega)) (And.intro (by (first | (clear hm hnf; omega) | omega)) (And.intro (by (first | (clear hm hnf; omega) | omega)) (And.intro (by (first | (clear hm hnf; omega) | omega)) (And.intro (by (first | (clear hm hnf; omega) | omega)) (And.intro (by first | omega | (rw [show ((wI v31)) = k + 1 by (first | (clear hm hnf; omega) | omega)]; omega) | (rw [show ((wI v31)) = A 29 k % 1048576 by (first | (clear hm hnf; omega) | omega)]; omega)) (And.intro (by (first | (clear hm hnf; omega) | omega)) (And.intro (by (first | (clear hm hnf; omega) | omega)) (Exists.intro ng (And.intro (by first | exact qtm hm hnf (by (try clear hm hnf); omega) | omega) hT)))))))))))))))
                · replace hT := (if_pos h66).symm.trans hT
                  refine fun v73 e74 => ?_
                  replace hT := qlc e74 hT
                  have w75 := wI_rng v73
                  have w76 : wI v73 = v73 := wI_id (by (first | (clear hm hnf; omega) | omega))
                  exact Exists.intro (t - ((wI v73)) : Int).toNat (And.intro (by first | exact qtn hm (by (try clear hm hnf); omega) | omega) (And.intro i1 (And.intro j1 (And.intro f1 (And.intro rfl (And.intro (by (first | (clear hm hnf; omega) | omega)) (And.intro (by (first | (clear hm hnf; omega) | omega)) (And.intro (by (first | (clear hm hnf; omega) | omega)) (And.intro (by (first | (clear hm hnf; omega) | omega)) (And.intro (by (first | (clear hm hnf; omega) | omega)) (And.intro (by first | omega | (rw [show ((wI v73)) = k + 1 by (first | (clear hm hnf; omega) | omega)]; omega) | (rw [show ((wI v73)) = A 29 k % 1048576 by (first | (clear hm hnf; omega) | omega)]; omega)) (And.intro (by (first | (clear hm hnf; omega) | omega)) (And.intro (by (first | (clear hm hnf; omega) | omega)) (Exists.intro ng (And.intro (by first | exact qtm hm hnf (by (try clear hm hnf); omega) | omega) hT)))))))))))))))
              · replace hT := (if_neg h56).symm.trans hT
                have w78 := wI_rng v20
                have w79 : wI v20 = v20 := wI_id (by (first | (clear hm hnf; omega) | omega))
                refine And.intro (fun h77 => ?_) (fun h77 => ?_)
                · replace hT := (if_neg h77).symm.trans hT
                  refine fun v80 e81 => ?_
                  replace hT := qlc e81 hT
                  have w83 := wI_rng v20
                  have w84 : wI v20 = v20 := wI_id (by (first | (clear hm hnf; omega) | omega))
                  refine And.intro (fun h82 => ?_) (fun h82 => ?_)
                  · replace hT := (if_pos h82).symm.trans hT
                    refine And.intro (by (first | (clear hm hnf; omega) | omega)) (fun v85 gv85 e86 => ?_)
                    replace hT := qlc e86 hT
                    refine And.intro (fun h87 => ?_) (fun h87 => ?_)
                    · replace hT := (if_neg h87).symm.trans hT
                      refine fun v88 e89 => ?_
                      replace hT := qlc e89 hT
                      refine fun v90 e91 => ?_
                      replace hT := qlc e91 hT
                      refine And.intro (by (first | (clear hm hnf; omega) | omega)) (fun v92 gv92 e93 => ?_)
                      replace hT := qlc e93 hT
                      refine And.intro (by (first | (clear hm hnf; omega) | omega)) (fun v94 gv94 e95 => ?_)
                      replace hT := qlc e95 hT
                      have q96 : v85 = v94 := (e95.trans e86.symm).symm
                      subst q96
                      have w97 := wI_rng v20
                      have w98 : wI v20 = v20 := wI_id (by (first | (clear hm hnf; omega) | omega))
                      refine Exists.intro (wI v20) (Exists.intro v92 (Exists.intro v85 (And.intro rfl (And.intro (by first | assumption | omega | simp_all) (fun r99 g101 g100 => ?_)))))
                      replace hT := qlc g100 hT
                      clear g100
                      refine And.intro (by (first | (clear hm hnf; omega) | omega)) (fun A102 e103 => ?_)
                      replace hT := qlc e103 hT
                      have i104 := iva_st i1 e103 trivial
                      have j105 := ivf_sa j1 e103 rfl
                      have f106 := frm_s f1 e103 rfl
                      have w107 := wI_rng v80
                      have w108 : wI v80 = v80 := wI_id (by (first | (clear hm hnf; omega) | omega))
                      have w109 := wI_rng v31
                      have w110 : wI v31 = v31 := wI_id (by (first | (clear hm hnf; omega) | omega))
                      exact Exists.intro (t - ((wI v31)) : Int).toNat (And.intro (by first | exact qtn hm (by (try clear hm hnf); omega) | omega) (And.intro i104 (And.intro j105 (And.intro f106 (And.intro rfl (And.intro (by (first | (clear hm hnf; omega) | omega)) (And.intro (by (first | (clear hm hnf; omega) | omega)) (And.intro (by (first | (clear hm hnf; omega) | omega)) (And.intro (by (first | (clear hm hnf; omega) | omega)) (And.intro (by (first | (clear hm hnf; omega) | omega)) (And.intro (by first | omega | (rw [show ((wI v31)) = k + 1 by (first | (clear hm hnf; omega) | omega)]; omega) | (rw [show ((wI v31)) = A 29 k % 1048576 by (first | (clear hm hnf; omega) | omega)]; omega)) (And.intro (by (first | (clear hm hnf; omega) | omega)) (And.intro (by (first | (clear hm hnf; omega) | omega)) (Exists.intro ng (And.intro (by first | exact qtm hm hnf (by (try clear hm hnf); omega) | omega) hT)))))))))))))))
                    · replace hT := (if_pos h87).symm.trans hT
                      exact hK _ i1 j1 f1 _ (by first | assumption | exact ⟨by (first | (clear hm hnf; omega) | omega), by (first | (clear hm hnf; omega) | omega)⟩ | exact wI_rng _ | exact i_rng _ | (subst_vars; exact i_rng _) | exact (hA _ _).2 rfl) (congrArg Prod.fst hT) (congrArg Prod.snd hT)
                  · replace hT := (if_neg h82).symm.trans hT
                    have w112 := wI_rng v20
                    have w113 : wI v20 = v20 := wI_id (by (first | (clear hm hnf; omega) | omega))
                    refine And.intro (fun h111 => ?_) (fun h111 => ?_)
                    · replace hT := (if_neg h111).symm.trans hT
                      refine fun v114 e115 => ?_
                      replace hT := qlc e115 hT
                      refine fun v116 e117 => ?_
                      replace hT := qlc e117 hT
                      refine And.intro (by (first | (clear hm hnf; omega) | omega)) (fun v118 gv118 e119 => ?_)
                      replace hT := qlc e119 hT
                      refine And.intro (by (first | (clear hm hnf; omega) | omega)) (fun v120 gv120 e121 => ?_)
                      replace hT := qlc e121 hT
                      have w122 := wI_rng v20
                      have w123 : wI v20 = v20 := wI_id (by (first | (clear hm hnf; omega) | omega))
                      refine Exists.intro (wI v20) (Exists.intro v118 (Exists.intro v120 (And.intro rfl (And.intro (by first | assumption | omega | simp_all) (fun r124 g126 g125 => ?_)))))
                      replace hT := qlc g125 hT
                      clear g125
                      refine And.intro (by (first | (clear hm hnf; omega) | omega)) (fun A127 e128 => ?_)
                      replace hT := qlc e128 hT
                      have i129 := iva_st i1 e128 trivial
                      have j130 := ivf_sa j1 e128 rfl
                      have f131 := frm_s f1 e128 rfl
                      have w132 := wI_rng v80
                      have w133 : wI v80 = v80 := wI_id (by (first | (clear hm hnf; omega) | omega))
                      have w134 := wI_rng v31
                      have w135 : wI v31 = v31 := wI_id (by (first | (clear hm hnf; omega) | omega))
                      exact Exists.intro (t - ((wI v31)) : Int).toNat (And.intro (by first | exact qtn hm (by (try clear hm hnf); omega) | omega) (And.intro i129 (And.intro j130 (And.intro f131 (And.intro rfl (And.intro (by (first | (clear hm hnf; omega) | omega)) (And.intro (by (first | (clear hm hnf; omega) | omega)) (And.intro (by (first | (clear hm hnf; omega) | omega)) (And.intro (by (first | (clear hm hnf; omega) | omega)) (And.intro (by (first | (clear hm hnf; omega) | omega)) (And.intro (by first | omega | (rw [show ((wI v31)) = k + 1 by (first | (clear hm hnf; omega) | omega)]; omega) | (rw [show ((wI v31)) = A 29 k % 1048576 by (first | (clear hm hnf; omega) | omega)]; omega)) (And.intro (by (first | (clear hm hnf; omega) | omega)) (And.intro (by (first | (clear hm hnf; omega) | omega)) (Exists.intro ng (And.intro (by first | exact qtm hm hnf (by (try clear hm hnf); omega) | omega) hT)))))))))))))))
                    · replace hT := (if_pos h111).symm.trans hT
                      refine And.intro (by (first | (clear hm hnf; omega) | omega)) (fun v136 gv136 e137 => ?_)
                      replace hT := qlc e137 hT
                      refine And.intro (fun h138 => ?_) (fun h138 => ?_)
                      · replace hT := (if_neg h138).symm.trans hT
                        refine fun v139 e140 => ?_
                        replace hT := qlc e140 hT
                        refine fun v141 e142 => ?_
                        replace hT := qlc e142 hT
                        refine And.intro (by (first | (clear hm hnf; omega) | omega)) (fun v143 gv143 e144 => ?_)
                        replace hT := qlc e144 hT
                        refine And.intro (by (first | (clear hm hnf; omega) | omega)) (fun v145 gv145 e146 => ?_)
                        replace hT := qlc e146 hT
                        have q147 : v136 = v145 := (e146.trans e137.symm).symm
                        subst q147
                        have w148 := wI_rng v20
                        have w149 : wI v20 = v20 := wI_id (by (first | (clear hm hnf; omega) | omega))
                        refine Exists.intro (wI v20) (Exists.intro v143 (Exists.intro v136 (And.intro rfl (And.intro (by first | assumption | omega | simp_all) (fun r150 g152 g151 => ?_)))))
                        replace hT := qlc g151 hT
                        clear g151
                        refine And.intro (by (first | (clear hm hnf; omega) | omega)) (fun A153 e154 => ?_)
                        replace hT := qlc e154 hT
                        have i155 := iva_st i1 e154 trivial
                        have j156 := ivf_sa j1 e154 rfl
                        have f157 := frm_s f1 e154 rfl
                        have w158 := wI_rng v80
                        have w159 : wI v80 = v80 := wI_id (by (first | (clear hm hnf; omega) | omega))
                        have w160 := wI_rng v31
                        have w161 : wI v31 = v31 := wI_id (by (first | (clear hm hnf; omega) | omega))
                        exact Exists.intro (t - ((wI v31)) : Int).toNat (And.intro (by first | exact qtn hm (by (try clear hm hnf); omega) | omega) (And.intro i155 (And.intro j156 (And.intro f157 (And.intro rfl (And.intro (by (first | (clear hm hnf; omega) | omega)) (And.intro (by (first | (clear hm hnf; omega) | omega)) (And.intro (by (first | (clear hm hnf; omega) | omega)) (And.intro (by (first | (clear hm hnf; omega) | omega)) (And.intro (by (first | (clear hm hnf; omega) | omega)) (And.intro (by first | omega | (rw [show ((wI v31)) = k + 1 by (first | (clear hm hnf; omega) | omega)]; omega) | (rw [show ((wI v31)) = A 29 k % 1048576 by (first | (clear hm hnf; omega) | omega)]; omega)) (And.intro (by (first | (clear hm hnf; omega) | omega)) (And.intro (by (first | (clear hm hnf; omega) | omega)) (Exists.intro ng (And.intro (by first | exact qtm hm hnf (by (try clear hm hnf); omega) | omega) hT)))))))))))))))
                      · replace hT := (if_pos h138).symm.trans hT
                        exact hK _ i1 j1 f1 _ (by first | assumption | exact ⟨by (first | (clear hm hnf; omega) | omega), by (first | (clear hm hnf; omega) | omega)⟩ | exact wI_rng _ | exact i_rng _ | (subst_vars; exact i_rng _) | exact (hA _ _).2 rfl) (congrArg Prod.fst hT) (congrArg Prod.snd hT)
                · replace hT := (if_pos h77).symm.trans hT
                  refine fun v162 e163 => ?_
                  replace hT := qlc e163 hT
                  refine And.intro (by (first | (clear hm hnf; omega) | omega)) (fun v164 gv164 e165 => ?_)
                  replace hT := qlc e165 hT
                  have w167 := wI_rng v20
                  have w168 : wI v20 = v20 := wI_id (by (first | (clear hm hnf; omega) | omega))
                  refine And.intro (fun h166 => by exfalso; omega) (fun h166 => ?_)
                  refine And.intro (fun h169 => ?_) (fun h169 => ?_)
                  · replace hT := (if_neg h169).symm.trans hT
                    refine fun v170 e171 => ?_
                    replace hT := qlc e171 hT
                    have w172 := wI_rng v170
                    have w173 : wI v170 = v170 := wI_id (by (first | (clear hm hnf; omega) | omega))
                    have w174 := wI_rng v31
                    have w175 : wI v31 = v31 := wI_id (by (first | (clear hm hnf; omega) | omega))
                    exact Exists.intro (t - ((wI v31)) : Int).toNat (And.intro (by first | exact qtn hm (by (try clear hm hnf); omega) | omega) (And.intro i1 (And.intro j1 (And.intro f1 (And.intro rfl (And.intro (by (first | (clear hm hnf; omega) | omega)) (And.intro (by (first | (clear hm hnf; omega) | omega)) (And.intro (by (first | (clear hm hnf; omega) | omega)) (And.intro (by (first | (clear hm hnf; omega) | omega)) (And.intro (by (first | (clear hm hnf; omega) | omega)) (And.intro (by first | omega | (rw [show ((wI v31)) = k + 1 by (first | (clear hm hnf; omega) | omega)]; omega) | (rw [show ((wI v31)) = A 29 k % 1048576 by (first | (clear hm hnf; omega) | omega)]; omega)) (And.intro (by (first | (clear hm hnf; omega) | omega)) (And.intro (by (first | (clear hm hnf; omega) | omega)) (Exists.intro ng (And.intro (by first | exact qtm hm hnf (by (try clear hm hnf); omega) | omega) hT)))))))))))))))
                  · replace hT := (if_pos h169).symm.trans hT
                    refine fun v176 e177 => ?_
                    replace hT := qlc e177 hT
                    have w178 := wI_rng v176
                    have w179 : wI v176 = v176 := wI_id (by (first | (clear hm hnf; omega) | omega))
                    exact Exists.intro (t - ((wI v176)) : Int).toNat (And.intro (by first | exact qtn hm (by (try clear hm hnf); omega) | omega) (And.intro i1 (And.intro j1 (And.intro f1 (And.intro rfl (And.intro (by (first | (clear hm hnf; omega) | omega)) (And.intro (by (first | (clear hm hnf; omega) | omega)) (And.intro (by (first | (clear hm hnf; omega) | omega)) (And.intro (by (first | (clear hm hnf; omega) | omega)) (And.intro (by (first | (clear hm hnf; omega) | omega)) (And.intro (by first | omega | (rw [show ((wI v176)) = k + 1 by (first | (clear hm hnf; omega) | omega)]; omega) | (rw [show ((wI v176)) = A 29 k % 1048576 by (first | (clear hm hnf; omega) | omega)]; omega)) (And.intro (by (first | (clear hm hnf; omega) | omega)) (And.intro (by (first | (clear hm hnf; omega) | omega)) (Exists.intro ng (And.intro (by first | exact qtm hm hnf (by (try clear hm hnf); omega) | omega) hT)))))))))))))))
            · replace hT := (if_pos h53).symm.trans hT
              refine fun v180 e181 => ?_
              replace hT := qlc e181 hT
              refine fun v182 e183 => ?_
              replace hT := qlc e183 hT
              refine And.intro (by (first | (clear hm hnf; omega) | omega)) (fun v184 gv184 e185 => ?_)
              replace hT := qlc e185 hT
              refine fun v186 e187 => ?_
              replace hT := qlc e187 hT
              have w190 := wI_rng v186
              refine And.intro (by (first | (clear hm hnf; omega) | omega)) (fun A188 e189 => ?_)
              replace hT := qlc e189 hT
              have i191 := iva_st i1 e189 trivial
              have j192 := ivf_sa j1 e189 rfl
              have f193 := frm_s f1 e189 rfl
              have w194 := wI_rng v31
              have w195 : wI v31 = v31 := wI_id (by (first | (clear hm hnf; omega) | omega))
              exact Exists.intro (t - ((wI v31)) : Int).toNat (And.intro (by first | exact qtn hm (by (try clear hm hnf); omega) | omega) (And.intro i191 (And.intro j192 (And.intro f193 (And.intro rfl (And.intro (by (first | (clear hm hnf; omega) | omega)) (And.intro (by (first | (clear hm hnf; omega) | omega)) (And.intro (by (first | (clear hm hnf; omega) | omega)) (And.intro (by (first | (clear hm hnf; omega) | omega)) (And.intro (by (first | (clear hm hnf; omega) | omega)) (And.intro (by first | omega | (rw [show ((wI v31)) = k + 1 by (first | (clear hm hnf; omega) | omega)]; omega) | (rw [show ((wI v31)) = A 29 k % 1048576 by (first | (clear hm hnf; omega) | omega)]; omega)) (And.intro (by (first | (clear hm hnf; omega) | omega)) (And.intro (by (first | (clear hm hnf; omega) | omega)) (Exists.intro ng (And.intro (by first | exact qtm hm hnf (by (try clear hm hnf); omega) | omega) hT)))))))))))))))
          · replace hT := (if_pos h50).symm.trans hT
            have w197 := wI_rng v20
            have w198 : wI v20 = v20 := wI_id (by (first | (clear hm hnf; omega) | omega))
            refine And.intro (fun h196 => ?_) (fun h196 => by exfalso; omega)
            refine And.intro (by (first | (clear hm hnf; omega) | omega)) (fun v199 gv199 e200 => ?_)
            replace hT := qlc e200 hT
            refine And.intro (by (first | (clear hm hnf; omega) | omega)) (fun A201 e202 => ?_)
            replace hT := qlc e202 hT
            have i203 := iva_st i1 e202 trivial
            have j204 := ivf_sa j1 e202 rfl
            have f205 := frm_s f1 e202 rfl
            refine fun v206 e207 => ?_
            replace hT := qlc e207 hT
            have w208 := wI_rng v206
            have w209 : wI v206 = v206 := wI_id (by (first | (clear hm hnf; omega) | omega))
            have w210 := wI_rng v31
            have w211 : wI v31 = v31 := wI_id (by (first | (clear hm hnf; omega) | omega))
            exact Exists.intro (t - ((wI v31)) : Int).toNat (And.intro (by first | exact qtn hm (by (try clear hm hnf); omega) | omega) (And.intro i203 (And.intro j204 (And.intro f205 (And.intro rfl (And.intro (by (first | (clear hm hnf; omega) | omega)) (And.intro (by (first | (clear hm hnf; omega) | omega)) (And.intro (by (first | (clear hm hnf; omega) | omega)) (And.intro (by (first | (clear hm hnf; omega) | omega)) (And.intro (by (first | (clear hm hnf; omega) | omega)) (And.intro (by first | omega | (rw [show ((wI v31)) = k + 1 by (first | (clear hm hnf; omega) | omega)]; omega) | (rw [show ((wI v31)) = A 29 k % 1048576 by (first | (clear hm hnf; omega) | omega)]; omega)) (And.intro (by (first | (clear hm hnf; omega) | omega)) (And.intro (by (first | (clear hm hnf; omega) | omega)) (Exists.intro ng (And.intro (by first | exact qtm hm hnf (by (try clear hm hnf); omega) | omega) hT)))))))))))))))
  · refine And.intro (by (first | (clear hm hnf; omega) | omega)) (fun v6 e7 => ?_)
    replace hT := qlc e7 hT
    have h8 := qd_nn (a := f) (b := 220) (by (first | (clear hm hnf; omega) | omega))
    refine fun v9 e10 => ?_
    replace hT := qlc e10 hT
    have w11 := wI_rng v9
    have w12 : wI v9 = v9 := wI_id (by (first | (clear hm hnf; omega) | omega))
    exact Exists.intro (t - f : Int).toNat (And.intro i0 (And.intro j0 (And.intro f0 (And.intro rfl (And.intro (by (first | (clear hm hnf; omega) | omega)) (And.intro (by (first | (clear hm hnf; omega) | omega)) (And.intro (by (first | (clear hm hnf; omega) | omega)) (And.intro (by (first | (clear hm hnf; omega) | omega)) (And.intro (by (first | (clear hm hnf; omega) | omega)) (And.intro (by first | omega | (rw [show f = k + 1 by (first | (clear hm hnf; omega) | omega)]; omega) | (rw [show f = A 29 k % 1048576 by (first | (clear hm hnf; omega) | omega)]; omega)) (And.intro (by (first | (clear hm hnf; omega) | omega)) (And.intro (by (first | (clear hm hnf; omega) | omega)) (Exists.intro 100000 (And.intro (by (first | (clear hm hnf; omega) | omega)) hT))))))))))))))
theorem pM_comesTo {f t : Int} {A : qA} (hA : qokA LM A) (p0 : iva IM A) (p1 : ivf JM A) (p2 : 0 ≤ f) (p3 : f ≤ 220) (p4 : 0 ≤ t) (p5 : t ≤ 220) (p6 : SEG A f t) : qokA LM (fM_comesTo f t A).2 ∧ iva IM (fM_comesTo f t A).2 ∧ ivf JM (fM_comesTo f t A).2 ∧ frm [34] [] A (fM_comesTo f t A).2 ∧ rng (fM_comesTo f t A).1 := by
  obtain ⟨r, B, hB, _, hk⟩ := okM_ex okM_comesTo (as := [rf 0, ni f, ni t]) (K := fun _ B => B = (fM_comesTo f t A).2 ∧ iva IM (fM_comesTo f t A).2 ∧ ivf JM (fM_comesTo f t A).2 ∧ frm [34] [] A (fM_comesTo f t A).2 ∧ rng (fM_comesTo f t A).1) hA (qoks_c (show qok (rf _) from trivial) (qoks_c (show rng f from ⟨by (first | (clear hm hnf; omega) | omega), by (first | (clear hm hnf; omega) | omega)⟩) (qoks_c (show rng t from ⟨by (first | (clear hm hnf; omega) | omega), by (first | (clear hm hnf; omega) | omega)⟩) qoks_n))) ⟨f, t, rfl, ⟨p0, p1, p2, p3, p4, p5, p6⟩, fun A9 i9 j9 f9 r9 g9 x0 x1 => (by rw [← x1]; (try rw [← x0]); exact ⟨rfl, i9, j9, f9, g9⟩)⟩
  exact ⟨hk.1 ▸ hB, hk.2⟩
def fM_told_c2 (rec : Nat → List Int → qA → Int × qA) (l1 l2 q : Int) (B : qA) : Int × qA := qlet (B 0 (fd 35)) fun v4 => (if q < v4 then qlet (B 30 q) fun v8 => (if v8 = l1 then qlet (B 32 q) fun v13 => qlet (B 33 q) fun v16 => qlp (fM_comesTo v13 v16 B) fun r23 A19 => (if r23 = 1 then qlet (A19 31 q) fun v29 => qlet (A19 32 q) fun v32 => qlp (fM_comesTo v29 v13 A19) fun r40 A36 => (if r40 < 0 then (0, A36) else (if l2 < r40 then (l2, A36) else (r40, A36))) else qlet (q + 1) fun v47 => rec 2 [l1, l2, v47] A19) else qlet (q + 1) fun v11 => rec 2 [l1, l2, v11] B) else (0, B))
def fM_told_L : Nat → Nat → List Int → qA → Int × qA
  | 0 => fun _ _ B => (0, B)
  | nF + 1 => fun k zs B => bif Nat.beq k 2 then (match zs with | [l1, l2, q] => fM_told_c2 (fM_told_L nF) l1 l2 q B | _ => (0, B)) else (0, B)
theorem fM_told_L2 (nF : Nat) (l1 l2 q : Int) (B : qA) : fM_told_L (nF + 1) 2 [l1, l2, q] B = fM_told_c2 (fM_told_L nF) l1 l2 q B := (congrFun (congrFun (congrFun (fM_told_L.eq_2 nF) 2) [l1, l2, q]) B).trans (qL1 rfl rfl)
def fM_told (l h : Int) (A : qA) : Int × qA := (fM_told_L 100000) 2 [l, h, 0] A
def sM_told : qS := fun as A K => ∃ l h : Int, as = [rf 0, ni l, ni h] ∧ (iva IM A ∧ ivf JM A ∧ 0 ≤ h ∧ h ≤ 1000 ∧ (WF A)) ∧ (∀ A' : qA, iva IM A' → ivf JM A' → frm [34] [] A A' → ∀ r : Int, 0 ≤ r → r ≤ 1000 → (r ≤ h) → (r = (fM_told l h A).1) → (A' = (fM_told l h A).2) → K (some (ni r)) A')
theorem okM_told : okM LM 3 186 sM_told := by
  refine qmeth [] false [(185, sM_comesTo)] 57 rfl ⟨okM_comesTo.le (by decide), trivial⟩ ?_
  rintro _ A K hA has ⟨l, h, rfl, ⟨i0, j0, p1, p2, p3⟩, hK⟩
  have rg_l : rng l := has (ni l) (by simp)
  have rg_h : rng h := has (ni h) (by simp)
  have f0 := frm_0 [34] [] A
  have hT : _ = fM_told l h A := (fM_told.eq_1 l h A).symm
  refine ⟨Nat.le_of_ble_eq_true rfl, [(2, [(0, 2, 0), (1, 0, 0), (2, 0, 0), (3, 0, 0)], fun zs B nn => match zs with | [l1, l2, q] => iva IM B ∧ ivf JM B ∧ frm [34] [] A B ∧ nn = (14 - q : Int).toNat ∧ (l1 = l) ∧ (l2 = h) ∧ (0 ≤ q) ∧ (q ≤ 14) ∧ (∃ nf : Nat, nn < nf ∧ fM_told_L nf 2 [l1, l2, q] B = fM_told l h A) | _ => False)], ?_, ?_⟩
  · refine ⟨⟨rfl, ?_⟩, trivial⟩
    · refine fun l1 l2 q B mm hB hz hI => ?_
      obtain ⟨i1, j1, f1, hm, c0, c1, c2, c3, ⟨nf, hnf, hT⟩⟩ := hI
      obtain ⟨hz_l1, hz_l2, hz_q, _⟩ := hz
      obtain ⟨ng, rfl⟩ : ∃ k, nf = k + 1 := ⟨nf - 1, by omega⟩
      replace hT := (fM_told_c2.eq_1 (fM_told_L ng) l1 l2 q B).symm.trans ((fM_told_L2 ng l1 l2 q B).symm.trans hT)
      refine fun v4 gv4 e5 => ?_
      replace hT := qlc e5 hT
      have b6 := ivf_at j1 3 rfl
      refine And.intro (fun h7 => ?_) (fun h7 => ?_)
      · replace hT := (if_neg (Int.not_lt.mpr h7)).symm.trans hT
        exact hK _ i1 j1 f1 _ (by (first | (clear hm hnf; omega) | omega)) (by (first | (clear hm hnf; omega) | omega)) (by first | assumption | omega | simp_all) (congrArg Prod.fst hT) (congrArg Prod.snd hT)
      · replace hT := (if_pos h7).symm.trans hT
        refine And.intro (by (first | (clear hm hnf; omega) | omega)) (fun v8 gv8 e9 => ?_)
        replace hT := qlc e9 hT
        refine And.intro (fun h10 => ?_) (fun h10 => ?_)
        · replace hT := (if_neg h10).symm.trans hT
          refine fun v11 e12 => ?_
          replace hT := qlc e12 hT
          exact And.intro (by (first | (clear hm hnf; omega) | omega)) (Exists.intro (14 - v11 : Int).toNat (And.intro (by first | exact qtn hm (by (try clear hm hnf); omega) | omega) (And.intro i1 (And.intro j1 (And.intro f1 (And.intro rfl (And.intro (by (first | (clear hm hnf; omega) | omega)) (And.intro (by (first | (clear hm hnf; omega) | omega)) (And.intro (by (first | (clear hm hnf; omega) | omega)) (And.intro (by (first | (clear hm hnf; omega) | omega)) (Exists.intro ng (And.intro (by first | exact qtm hm hnf (by (try clear hm hnf); omega) | omega) hT))))))))))))
        · replace hT := (if_pos h10).symm.trans hT
          refine And.intro (by (first | (clear hm hnf; omega) | omega)) (fun v13 gv13 e14 => ?_)
          replace hT := qlc e14 hT
          have b15 := iva_at i1 31 rfl (i := q) (by (first | (clear hm hnf; omega) | omega)) (by (first | (clear hm hnf; omega) | omega))
          refine And.intro (by (first | (clear hm hnf; omega) | omega)) (fun v16 gv16 e17 => ?_)
          replace hT := qlc e17 hT
          have b18 := iva_at i1 32 rfl (i := q) (by (first | (clear hm hnf; omega) | omega)) (by (first | (clear hm hnf; omega) | omega))
          have hwf := (WF_fr p3 f1 rfl) q (by (first | (clear hm hnf; omega) | omega)) (by (first | (clear hm hnf; omega) | omega))
          refine Exists.intro v13 (Exists.intro v16 (And.intro rfl (And.intro (And.intro i1 (And.intro j1 (And.intro (by (first | (clear hm hnf; omega) | omega)) (And.intro (by (first | (clear hm hnf; omega) | omega)) (And.intro (by (first | (clear hm hnf; omega) | omega)) (And.intro (by (first | (clear hm hnf; omega) | omega)) (by first | (subst_vars; exact hwf.2) | (subst_vars; exact hwf.1)))))))) (fun A19 i20 j21 f22 r23 g26 g24 g25 => ?_))))
          replace hT := qlpc g24 g25 hT
          clear g24 g25
          have f27 := frm_c f1 f22 rfl
          refine And.intro (fun h28 => ?_) (fun h28 => ?_)
          · replace hT := (if_pos h28).symm.trans hT
            refine And.intro (by (first | (clear hm hnf; omega) | omega)) (fun v29 gv29 e30 => ?_)
            replace hT := qlc e30 hT
            have b31 := iva_at i20 30 rfl (i := q) (by (first | (clear hm hnf; omega) | omega)) (by (first | (clear hm hnf; omega) | omega))
            refine And.intro (by (first | (clear hm hnf; omega) | omega)) (fun v32 gv32 e33 => ?_)
            replace hT := qlc e33 hT
            have b34 := iva_at i20 31 rfl (i := q) (by (first | (clear hm hnf; omega) | omega)) (by (first | (clear hm hnf; omega) | omega))
            have q35 : v13 = v32 := (e33.trans ((congrFun (frm_a f22 rfl) _).trans e14.symm)).symm
            subst q35
            have hwf := (WF_fr p3 f27 rfl) q (by (first | (clear hm hnf; omega) | omega)) (by have q9 := frm_f f22 (r := 0) (j := 35) rfl; omega)
            rw [frm_a f22 (r := 32) rfl] at hwf
            refine Exists.intro v29 (Exists.intro v13 (And.intro rfl (And.intro (And.intro i20 (And.intro j21 (And.intro (by (first | (clear hm hnf; omega) | omega)) (And.intro (by (first | (clear hm hnf; omega) | omega)) (And.intro (by (first | (clear hm hnf; omega) | omega)) (And.intro (by (first | (clear hm hnf; omega) | omega)) (by first | (subst_vars; exact hwf.2) | (subst_vars; exact hwf.1)))))))) (fun A36 i37 j38 f39 r40 g43 g41 g42 => ?_))))
            replace hT := qlpc g41 g42 hT
            clear g41 g42
            have f44 := frm_c f27 f39 rfl
            refine And.intro (fun h45 => ?_) (fun h45 => ?_)
            · replace hT := (if_neg (Int.not_lt.mpr h45)).symm.trans hT
              refine And.intro (fun h46 => ?_) (fun h46 => ?_)
              · replace hT := (if_neg (Int.not_lt.mpr h46)).symm.trans hT
                exact hK _ i37 j38 f44 _ (by (first | (clear hm hnf; omega) | omega)) (by (first | (clear hm hnf; omega) | omega)) (by first | assumption | omega | simp_all) (congrArg Prod.fst hT) (congrArg Prod.snd hT)
              · replace hT := (if_pos h46).symm.trans hT
                exact hK _ i37 j38 f44 _ (by (first | (clear hm hnf; omega) | omega)) (by (first | (clear hm hnf; omega) | omega)) (by first | assumption | omega | simp_all) (congrArg Prod.fst hT) (congrArg Prod.snd hT)
            · replace hT := (if_pos h45).symm.trans hT
              exact hK _ i37 j38 f44 _ (by (first | (clear hm hnf; omega) | omega)) (by (first | (clear hm hnf; omega) | omega)) (by first | assumption | omega | simp_all) (congrArg Prod.fst hT) (congrArg Prod.snd hT)
          · replace hT := (if_neg h28).symm.trans hT
            refine fun v47 e48 => ?_
            replace hT := qlc e48 hT
            exact And.intro (by (first | (clear hm hnf; omega) | omega)) (Exists.intro (14 - v47 : Int).toNat (And.intro (by first | exact qtn hm (by (try clear hm hnf); omega) | omega) (And.intro i20 (And.intro j21 (And.intro f27 (And.intro rfl (And.intro (by (first | (clear hm hnf; omega) | omega)) (And.intro (by (first | (clear hm hnf; omega) | omega)) (And.intro (by (first | (clear hm hnf; omega) | omega)) (And.intro (by (first | (clear hm hnf; omega) | omega)) (Exists.intro ng (And.intro (by first | exact qtm hm hnf (by (try clear hm hnf); omega) | omega) hT))))))))))))
  · exact Exists.intro (14 - 0 : Int).toNat (And.intro i0 (And.intro j0 (And.intro f0 (And.intro rfl (And.intro (by (first | (clear hm hnf; omega) | omega)) (And.intro (by (first | (clear hm hnf; omega) | omega)) (And.intro (by (first | (clear hm hnf; omega) | omega)) (And.intro (by (first | (clear hm hnf; omega) | omega)) (Exists.intro 100000 (And.intro (by (first | (clear hm hnf; omega) | omega)) hT))))))))))
theorem pM_told {l h : Int} {A : qA} (hA : qokA LM A) (rg_l : rng l) (p0 : iva IM A) (p1 : ivf JM A) (p2 : 0 ≤ h) (p3 : h ≤ 1000) (p4 : WF A) : qokA LM (fM_told l h A).2 ∧ iva IM (fM_told l h A).2 ∧ ivf JM (fM_told l h A).2 ∧ frm [34] [] A (fM_told l h A).2 ∧ (0 ≤ (fM_told l h A).1 ∧ (fM_told l h A).1 ≤ 1000) ∧ ((fM_told l h A).1 ≤ h) := by
  obtain ⟨r, B, hB, _, hk⟩ := okM_ex okM_told (as := [rf 0, ni l, ni h]) (K := fun _ B => B = (fM_told l h A).2 ∧ iva IM (fM_told l h A).2 ∧ ivf JM (fM_told l h A).2 ∧ frm [34] [] A (fM_told l h A).2 ∧ (0 ≤ (fM_told l h A).1 ∧ (fM_told l h A).1 ≤ 1000) ∧ ((fM_told l h A).1 ≤ h)) hA (qoks_c (show qok (rf _) from trivial) (qoks_c (rg_l) (qoks_c (show rng h from ⟨by (first | (clear hm hnf; omega) | omega), by (first | (clear hm hnf; omega) | omega)⟩) qoks_n))) ⟨l, h, rfl, ⟨p0, p1, p2, p3, p4⟩, fun A9 i9 j9 f9 r9 g8 g9 x0 x1 x2 => (by rw [← x2]; (try rw [← x1]); exact ⟨rfl, i9, j9, f9, ⟨g8, g9⟩, x0⟩)⟩
  exact ⟨hk.1 ▸ hB, hk.2⟩
def fM_feelsCell (c f w : Int) (A : qA) : qA := qlet (qd c 6) fun v3 => qlet (qu A 35 2 v3) fun A6 => qlet (qm c 6) fun v11 => qlet (qu A6 35 3 v11) fun A14 => qlet (A14 1 c) fun v19 => (if v19 = 0 then qlet (qu A14 35 4 0) fun A23 => qlet (A23 1 c) fun v28 => qlet (qu A23 35 5 0) fun A33 => qlet (A33 1 c) fun v38 => qlet (qu A33 35 6 0) fun A43 => qlet (A43 1 c) fun v48 => qlet (qu A43 35 7 0) fun A53 => qlet (A53 0 (fd 0)) fun v58 => qlet (qu A53 35 10 v58) fun A60 => qlet (qd c 6) fun v65 => qlet (A60 15 v65) fun v68 => qlet (qu A60 35 11 v68) fun A71 => qlet (qu A71 35 12 f) fun A76 => qlet (qu A76 35 13 w) fun A81 => A81 else qlet (A14 4 c) fun v86 => qlet (qu A14 35 4 v86) fun A88 => qlet (A88 1 c) fun v93 => qlet (A88 3 c) fun v98 => qlet (qu A88 35 5 v98) fun A100 => qlet (A100 1 c) fun v105 => qlet (A100 5 c) fun v110 => qlet (qu A100 35 6 v110) fun A112 => qlet (A112 1 c) fun v117 => qlet (A112 10 c) fun v122 => qlet (qu A112 35 7 v122) fun A124 => qlet (A124 0 (fd 0)) fun v129 => qlet (qu A124 35 10 v129) fun A131 => qlet (qd c 6) fun v136 => qlet (A131 15 v136) fun v139 => qlet (qu A131 35 11 v139) fun A142 => qlet (qu A142 35 12 f) fun A147 => qlet (qu A147 35 13 w) fun A152 => A152)
def sM_feelsCell : qS := fun as A K => ∃ c f w : Int, as = [rf 0, ni c, ni f, ni w] ∧ (iva IM A ∧ ivf JM A ∧ 0 ≤ c ∧ c ≤ 47) ∧ (∀ A' : qA, iva IM A' → ivf JM A' → frm [35] [] A A' → (A' = fM_feelsCell c f w A) → K none A')
theorem okM_feelsCell : okM LM 1 187 sM_feelsCell := by
  refine qmeth [] false [] 107 rfl trivial ?_
  rintro _ A K hA has ⟨c, f, w, rfl, ⟨i0, j0, p1, p2⟩, hK⟩
  have rg_c : rng c := has (ni c) (by simp)
  have rg_f : rng f := has (ni f) (by simp)
  have rg_w : rng w := has (ni w) (by simp)
  have f0 := frm_0 [35] [] A
  have hT : _ = fM_feelsCell c f w A := (fM_feelsCell.eq_1 c f w A).symm
  refine ⟨Nat.le_of_ble_eq_true rfl, [], trivial, ?_⟩
  refine And.intro (by (first | (clear hm hnf; omega) | omega)) (fun v3 e4 => ?_)
  replace hT := qlc e4 hT
  have h5 := qd_nn (a := c) (b := 6) (by (first | (clear hm hnf; omega) | omega))
  refine And.intro (by (first | (clear hm hnf; omega) | omega)) (And.intro (by (first | (clear hm hnf; omega) | omega)) (fun A6 e7 => ?_))
  replace hT := qlc e7 hT
  have i8 := iva_st i0 e7 trivial
  have j9 := ivf_sa j0 e7 rfl
  have f10 := frm_s f0 e7 rfl
  refine And.intro (by (first | (clear hm hnf; omega) | omega)) (fun v11 e12 => ?_)
  replace hT := qlc e12 hT
  have h13 := qm_nn (a := c) (b := 6) (by (first | (clear hm hnf; omega) | omega))
  refine And.intro (by (first | (clear hm hnf; omega) | omega)) (fun A14 e15 => ?_)
  replace hT := qlc e15 hT
  have i16 := iva_st i8 e15 trivial
  have j17 := ivf_sa j9 e15 rfl
  have f18 := frm_s f10 e15 rfl
  refine And.intro (by (first | (clear hm hnf; omega) | omega)) (fun v19 gv19 e20 => ?_)
  replace hT := qlc e20 hT
  have b21 := iva_at i16 0 rfl (i := c) (by (first | (clear hm hnf; omega) | omega)) (by (first | (clear hm hnf; omega) | omega))
  refine And.intro (fun h22 => ?_) (fun h22 => ?_)
  · replace hT := (if_pos h22).symm.trans hT
    refine And.intro (by (first | (clear hm hnf; omega) | omega)) (fun A23 e24 => ?_)
    replace hT := qlc e24 hT
    have i25 := iva_st i16 e24 trivial
    have j26 := ivf_sa j17 e24 rfl
    have f27 := frm_s f18 e24 rfl
    refine And.intro (by (first | (clear hm hnf; omega) | omega)) (fun v28 gv28 e29 => ?_)
    replace hT := qlc e29 hT
    have b30 := iva_at i25 0 rfl (i := c) (by (first | (clear hm hnf; omega) | omega)) (by (first | (clear hm hnf; omega) | omega))
    have q31 : v19 = v28 := (e29.trans ((congrFun (st_a e24 rfl) _).trans e20.symm)).symm
    subst q31
    refine And.intro (fun h32 => ?_) (fun h32 => by exfalso; omega)
    refine And.intro (by (first | (clear hm hnf; omega) | omega)) (fun A33 e34 => ?_)
    replace hT := qlc e34 hT
    have i35 := iva_st i25 e34 trivial
    have j36 := ivf_sa j26 e34 rfl
    have f37 := frm_s f27 e34 rfl
    refine And.intro (by (first | (clear hm hnf; omega) | omega)) (fun v38 gv38 e39 => ?_)
    replace hT := qlc e39 hT
    have b40 := iva_at i35 0 rfl (i := c) (by (first | (clear hm hnf; omega) | omega)) (by (first | (clear hm hnf; omega) | omega))
    have q41 : v19 = v38 := (e39.trans ((congrFun (st_a e34 rfl) _).trans e29.symm)).symm
    subst q41
    refine And.intro (fun h42 => ?_) (fun h42 => by exfalso; omega)
    refine And.intro (by (first | (clear hm hnf; omega) | omega)) (fun A43 e44 => ?_)
    replace hT := qlc e44 hT
    have i45 := iva_st i35 e44 trivial
    have j46 := ivf_sa j36 e44 rfl
    have f47 := frm_s f37 e44 rfl
    refine And.intro (by (first | (clear hm hnf; omega) | omega)) (fun v48 gv48 e49 => ?_)
    replace hT := qlc e49 hT
    have b50 := iva_at i45 0 rfl (i := c) (by (first | (clear hm hnf; omega) | omega)) (by (first | (clear hm hnf; omega) | omega))
    have q51 : v19 = v48 := (e49.trans ((congrFun (st_a e44 rfl) _).trans e39.symm)).symm
    subst q51
    refine And.intro (fun h52 => ?_) (fun h52 => by exfalso; omega)
    refine And.intro (by (first | (clear hm hnf; omega) | omega)) (fun A53 e54 => ?_)
    replace hT := qlc e54 hT
    have i55 := iva_st i45 e54 trivial
    have j56 := ivf_sa j46 e54 rfl
    have f57 := frm_s f47 e54 rfl
    refine fun v58 gv58 e59 => ?_
    replace hT := qlc e59 hT
    refine And.intro (by (first | (clear hm hnf; omega) | omega)) (fun A60 e61 => ?_)
    replace hT := qlc e61 hT
    have i62 := iva_st i55 e61 trivial
    have j63 := ivf_sa j56 e61 rfl
    have f64 := frm_s f57 e61 rfl
    refine And.intro (by (first | (clear hm hnf; omega) | omega)) (fun v65 e66 => ?_)
    replace hT := qlc e66 hT
    have h67 := qd_nn (a := c) (b := 6) (by (first | (clear hm hnf; omega) | omega))
    refine And.intro (by (first | (clear hm hnf; omega) | omega)) (fun v68 gv68 e69 => ?_)
    replace hT := qlc e69 hT
    have b70 := iva_at i62 6 rfl (i := v65) (by (first | (clear hm hnf; omega) | omega)) (by (first | (clear hm hnf; omega) | omega))
    refine And.intro (by (first | (clear hm hnf; omega) | omega)) (fun A71 e72 => ?_)
    replace hT := qlc e72 hT
    have i73 := iva_st i62 e72 trivial
    have j74 := ivf_sa j63 e72 rfl
    have f75 := frm_s f64 e72 rfl
    refine And.intro (by (first | (clear hm hnf; omega) | omega)) (fun A76 e77 => ?_)
    replace hT := qlc e77 hT
    have i78 := iva_st i73 e77 trivial
    have j79 := ivf_sa j74 e77 rfl
    have f80 := frm_s f75 e77 rfl
    refine And.intro (by (first | (clear hm hnf; omega) | omega)) (fun A81 e82 => ?_)
    replace hT := qlc e82 hT
    have i83 := iva_st i78 e82 trivial
    have j84 := ivf_sa j79 e82 rfl
    have f85 := frm_s f80 e82 rfl
    exact hK _ i83 j84 f85 hT
  · replace hT := (if_neg h22).symm.trans hT
    refine And.intro (by (first | (clear hm hnf; omega) | omega)) (fun v86 gv86 e87 => ?_)
    replace hT := qlc e87 hT
    refine And.intro (by (first | (clear hm hnf; omega) | omega)) (fun A88 e89 => ?_)
    replace hT := qlc e89 hT
    have i90 := iva_st i16 e89 trivial
    have j91 := ivf_sa j17 e89 rfl
    have f92 := frm_s f18 e89 rfl
    refine And.intro (by (first | (clear hm hnf; omega) | omega)) (fun v93 gv93 e94 => ?_)
    replace hT := qlc e94 hT
    have b95 := iva_at i90 0 rfl (i := c) (by (first | (clear hm hnf; omega) | omega)) (by (first | (clear hm hnf; omega) | omega))
    have q96 : v19 = v93 := (e94.trans ((congrFun (st_a e89 rfl) _).trans e20.symm)).symm
    subst q96
    refine And.intro (fun h97 => by exfalso; omega) (fun h97 => ?_)
    refine And.intro (by (first | (clear hm hnf; omega) | omega)) (fun v98 gv98 e99 => ?_)
    replace hT := qlc e99 hT
    refine And.intro (by (first | (clear hm hnf; omega) | omega)) (fun A100 e101 => ?_)
    replace hT := qlc e101 hT
    have i102 := iva_st i90 e101 trivial
    have j103 := ivf_sa j91 e101 rfl
    have f104 := frm_s f92 e101 rfl
    refine And.intro (by (first | (clear hm hnf; omega) | omega)) (fun v105 gv105 e106 => ?_)
    replace hT := qlc e106 hT
    have b107 := iva_at i102 0 rfl (i := c) (by (first | (clear hm hnf; omega) | omega)) (by (first | (clear hm hnf; omega) | omega))
    have q108 : v19 = v105 := (e106.trans ((congrFun (st_a e101 rfl) _).trans e94.symm)).symm
    subst q108
    refine And.intro (fun h109 => by exfalso; omega) (fun h109 => ?_)
    refine And.intro (by (first | (clear hm hnf; omega) | omega)) (fun v110 gv110 e111 => ?_)
    replace hT := qlc e111 hT
    refine And.intro (by (first | (clear hm hnf; omega) | omega)) (fun A112 e113 => ?_)
    replace hT := qlc e113 hT
    have i114 := iva_st i102 e113 trivial
    have j115 := ivf_sa j103 e113 rfl
    have f116 := frm_s f104 e113 rfl
    refine And.intro (by (first | (clear hm hnf; omega) | omega)) (fun v117 gv117 e118 => ?_)
    replace hT := qlc e118 hT
    have b119 := iva_at i114 0 rfl (i := c) (by (first | (clear hm hnf; omega) | omega)) (by (first | (clear hm hnf; omega) | omega))
    have q120 : v19 = v117 := (e118.trans ((congrFun (st_a e113 rfl) _).trans e106.symm)).symm
    subst q120
    refine And.intro (fun h121 => by exfalso; omega) (fun h121 => ?_)
    refine And.intro (by (first | (clear hm hnf; omega) | omega)) (fun v122 gv122 e123 => ?_)
    replace hT := qlc e123 hT
    refine And.intro (by (first | (clear hm hnf; omega) | omega)) (fun A124 e125 => ?_)
    replace hT := qlc e125 hT
    have i126 := iva_st i114 e125 trivial
    have j127 := ivf_sa j115 e125 rfl
    have f128 := frm_s f116 e125 rfl
    refine fun v129 gv129 e130 => ?_
    replace hT := qlc e130 hT
    refine And.intro (by (first | (clear hm hnf; omega) | omega)) (fun A131 e132 => ?_)
    replace hT := qlc e132 hT
    have i133 := iva_st i126 e132 trivial
    have j134 := ivf_sa j127 e132 rfl
    have f135 := frm_s f128 e132 rfl
    refine And.intro (by (first | (clear hm hnf; omega) | omega)) (fun v136 e137 => ?_)
    replace hT := qlc e137 hT
    have h138 := qd_nn (a := c) (b := 6) (by (first | (clear hm hnf; omega) | omega))
    refine And.intro (by (first | (clear hm hnf; omega) | omega)) (fun v139 gv139 e140 => ?_)
    replace hT := qlc e140 hT
    have b141 := iva_at i133 6 rfl (i := v136) (by (first | (clear hm hnf; omega) | omega)) (by (first | (clear hm hnf; omega) | omega))
    refine And.intro (by (first | (clear hm hnf; omega) | omega)) (fun A142 e143 => ?_)
    replace hT := qlc e143 hT
    have i144 := iva_st i133 e143 trivial
    have j145 := ivf_sa j134 e143 rfl
    have f146 := frm_s f135 e143 rfl
    refine And.intro (by (first | (clear hm hnf; omega) | omega)) (fun A147 e148 => ?_)
    replace hT := qlc e148 hT
    have i149 := iva_st i144 e148 trivial
    have j150 := ivf_sa j145 e148 rfl
    have f151 := frm_s f146 e148 rfl
    refine And.intro (by (first | (clear hm hnf; omega) | omega)) (fun A152 e153 => ?_)
    replace hT := qlc e153 hT
    have i154 := iva_st i149 e153 trivial
    have j155 := ivf_sa j150 e153 rfl
    have f156 := frm_s f151 e153 rfl
    exact hK _ i154 j155 f156 hT
theorem pM_feelsCell {c f w : Int} {A : qA} (hA : qokA LM A) (rg_f : rng f) (rg_w : rng w) (p0 : iva IM A) (p1 : ivf JM A) (p2 : 0 ≤ c) (p3 : c ≤ 47) : qokA LM (fM_feelsCell c f w A) ∧ iva IM (fM_feelsCell c f w A) ∧ ivf JM (fM_feelsCell c f w A) ∧ frm [35] [] A (fM_feelsCell c f w A) := by
  obtain ⟨r, B, hB, _, hk⟩ := okM_ex okM_feelsCell (as := [rf 0, ni c, ni f, ni w]) (K := fun _ B => B = (fM_feelsCell c f w A) ∧ iva IM (fM_feelsCell c f w A) ∧ ivf JM (fM_feelsCell c f w A) ∧ frm [35] [] A (fM_feelsCell c f w A)) hA (qoks_c (show qok (rf _) from trivial) (qoks_c (show rng c from ⟨by (first | (clear hm hnf; omega) | omega), by (first | (clear hm hnf; omega) | omega)⟩) (qoks_c (rg_f) (qoks_c (rg_w) qoks_n)))) ⟨c, f, w, rfl, ⟨p0, p1, p2, p3⟩, fun A9 i9 j9 f9 x0 => (by rw [← x0]; exact ⟨rfl, i9, j9, f9⟩)⟩
  exact ⟨hk.1 ▸ hB, hk.2⟩
def fM_feelsCrop (k w r p : Int) (A : qA) : qA := qlet (qu A 35 0 k) fun A5 => qlet (qu A5 35 1 w) fun A10 => (if r = 0 then qlet (qu A10 35 8 0) fun A16 => (if p = 0 then qlet (qu A16 35 9 0) fun A22 => A22 else qlet (qu A16 35 9 1) fun A27 => A27) else qlet (qu A10 35 8 1) fun A32 => (if p = 0 then qlet (qu A32 35 9 0) fun A38 => A38 else qlet (qu A32 35 9 1) fun A43 => A43))
def sM_feelsCrop : qS := fun as A K => ∃ k w r p : Int, as = [rf 0, ni k, ni w, ni r, ni p] ∧ (iva IM A ∧ ivf JM A ∧ 0 ≤ r ∧ r ≤ 1 ∧ 0 ≤ p ∧ p ≤ 1) ∧ (∀ A' : qA, iva IM A' → ivf JM A' → frm [35] [] A A' → (A' = fM_feelsCrop k w r p A) → K none A')
theorem okM_feelsCrop : okM LM 1 188 sM_feelsCrop := by
  refine qmeth [] false [] 35 rfl trivial ?_
  rintro _ A K hA has ⟨k, w, r, p, rfl, ⟨i0, j0, p1, p2, p3, p4⟩, hK⟩
  have rg_k : rng k := has (ni k) (by simp)
  have rg_w : rng w := has (ni w) (by simp)
  have rg_r : rng r := has (ni r) (by simp)
  have rg_p : rng p := has (ni p) (by simp)
  have f0 := frm_0 [35] [] A
  have hT : _ = fM_feelsCrop k w r p A := (fM_feelsCrop.eq_1 k w r p A).symm
  refine ⟨Nat.le_of_ble_eq_true rfl, [], trivial, ?_⟩
  refine And.intro (by (first | (clear hm hnf; omega) | omega)) (fun A5 e6 => ?_)
  replace hT := qlc e6 hT
  have i7 := iva_st i0 e6 trivial
  have j8 := ivf_sa j0 e6 rfl
  have f9 := frm_s f0 e6 rfl
  refine And.intro (by (first | (clear hm hnf; omega) | omega)) (fun A10 e11 => ?_)
  replace hT := qlc e11 hT
  have i12 := iva_st i7 e11 trivial
  have j13 := ivf_sa j8 e11 rfl
  have f14 := frm_s f9 e11 rfl
  refine And.intro (fun h15 => ?_) (fun h15 => ?_)
  · replace hT := (if_pos h15).symm.trans hT
    refine And.intro (by (first | (clear hm hnf; omega) | omega)) (fun A16 e17 => ?_)
    replace hT := qlc e17 hT
    have i18 := iva_st i12 e17 trivial
    have j19 := ivf_sa j13 e17 rfl
    have f20 := frm_s f14 e17 rfl
    refine And.intro (fun h21 => ?_) (fun h21 => ?_)
    · replace hT := (if_pos h21).symm.trans hT
      refine And.intro (by (first | (clear hm hnf; omega) | omega)) (fun A22 e23 => ?_)
      replace hT := qlc e23 hT
      have i24 := iva_st i18 e23 trivial
      have j25 := ivf_sa j19 e23 rfl
      have f26 := frm_s f20 e23 rfl
      exact hK _ i24 j25 f26 hT
    · replace hT := (if_neg h21).symm.trans hT
      refine And.intro (by (first | (clear hm hnf; omega) | omega)) (fun A27 e28 => ?_)
      replace hT := qlc e28 hT
      have i29 := iva_st i18 e28 trivial
      have j30 := ivf_sa j19 e28 rfl
      have f31 := frm_s f20 e28 rfl
      exact hK _ i29 j30 f31 hT
  · replace hT := (if_neg h15).symm.trans hT
    refine And.intro (by (first | (clear hm hnf; omega) | omega)) (fun A32 e33 => ?_)
    replace hT := qlc e33 hT
    have i34 := iva_st i12 e33 trivial
    have j35 := ivf_sa j13 e33 rfl
    have f36 := frm_s f14 e33 rfl
    refine And.intro (fun h37 => ?_) (fun h37 => ?_)
    · replace hT := (if_pos h37).symm.trans hT
      refine And.intro (by (first | (clear hm hnf; omega) | omega)) (fun A38 e39 => ?_)
      replace hT := qlc e39 hT
      have i40 := iva_st i34 e39 trivial
      have j41 := ivf_sa j35 e39 rfl
      have f42 := frm_s f36 e39 rfl
      exact hK _ i40 j41 f42 hT
    · replace hT := (if_neg h37).symm.trans hT
      refine And.intro (by (first | (clear hm hnf; omega) | omega)) (fun A43 e44 => ?_)
      replace hT := qlc e44 hT
      have i45 := iva_st i34 e44 trivial
      have j46 := ivf_sa j35 e44 rfl
      have f47 := frm_s f36 e44 rfl
      exact hK _ i45 j46 f47 hT
theorem pM_feelsCrop {k w r p : Int} {A : qA} (hA : qokA LM A) (rg_k : rng k) (rg_w : rng w) (p0 : iva IM A) (p1 : ivf JM A) (p2 : 0 ≤ r) (p3 : r ≤ 1) (p4 : 0 ≤ p) (p5 : p ≤ 1) : qokA LM (fM_feelsCrop k w r p A) ∧ iva IM (fM_feelsCrop k w r p A) ∧ ivf JM (fM_feelsCrop k w r p A) ∧ frm [35] [] A (fM_feelsCrop k w r p A) := by
  obtain ⟨r, B, hB, _, hk⟩ := okM_ex okM_feelsCrop (as := [rf 0, ni k, ni w, ni r, ni p]) (K := fun _ B => B = (fM_feelsCrop k w r p A) ∧ iva IM (fM_feelsCrop k w r p A) ∧ ivf JM (fM_feelsCrop k w r p A) ∧ frm [35] [] A (fM_feelsCrop k w r p A)) hA (qoks_c (show qok (rf _) from trivial) (qoks_c (rg_k) (qoks_c (rg_w) (qoks_c (show rng r from ⟨by (first | (clear hm hnf; omega) | omega), by (first | (clear hm hnf; omega) | omega)⟩) (qoks_c (show rng p from ⟨by (first | (clear hm hnf; omega) | omega), by (first | (clear hm hnf; omega) | omega)⟩) qoks_n))))) ⟨k, w, r, p, rfl, ⟨p0, p1, p2, p3, p4, p5⟩, fun A9 i9 j9 f9 x0 => (by rw [← x0]; exact ⟨rfl, i9, j9, f9⟩)⟩
  exact ⟨hk.1 ▸ hB, hk.2⟩
def fM_isRipe (c : Int) (A : qA) : Int := qlet (A 7 c) fun v3 => (if v3 = (-1) then 0 else qlet (A 8 c) fun v7 => qlet (A 7 c) fun v9 => qlet (A 12 v3) fun v13 => (if v7 < v13 then 0 else 1))
def sM_isRipe : qS := fun as A K => ∃ c : Int, as = [rf 0, ni c] ∧ (iva IM A ∧ ivf JM A ∧ 0 ≤ c ∧ c ≤ 47) ∧ (∀ r : Int, 0 ≤ r → r ≤ 1 → (r = fM_isRipe c A) → K (some (ni r)) A)
theorem okM_isRipe : okM LM 1 189 sM_isRipe := by
  refine qmeth [] false [] 28 rfl trivial ?_
  rintro _ A K hA has ⟨c, rfl, ⟨i0, j0, p1, p2⟩, hK⟩
  have rg_c : rng c := has (ni c) (by simp)
  have f0 := frm_0 [] [] A
  have hT : _ = fM_isRipe c A := (fM_isRipe.eq_1 c A).symm
  refine ⟨Nat.le_of_ble_eq_true rfl, [], trivial, ?_⟩
  refine And.intro (by (first | (clear hm hnf; omega) | omega)) (fun v3 gv3 e4 => ?_)
  replace hT := qlc e4 hT
  have b5 := iva_at i0 2 rfl (i := c) (by (first | (clear hm hnf; omega) | omega)) (by (first | (clear hm hnf; omega) | omega))
  refine And.intro (fun h6 => ?_) (fun h6 => ?_)
  · replace hT := (if_pos h6).symm.trans hT
    exact And.intro (by (first | (clear hm hnf; omega) | omega)) (hK _ (by (first | (clear hm hnf; omega) | omega)) (by (first | (clear hm hnf; omega) | omega)) hT)
  · replace hT := (if_neg h6).symm.trans hT
    refine And.intro (by (first | (clear hm hnf; omega) | omega)) (fun v7 gv7 e8 => ?_)
    replace hT := qlc e8 hT
    refine And.intro (by (first | (clear hm hnf; omega) | omega)) (fun v9 gv9 e10 => ?_)
    replace hT := qlc e10 hT
    have b11 := iva_at i0 2 rfl (i := c) (by (first | (clear hm hnf; omega) | omega)) (by (first | (clear hm hnf; omega) | omega))
    have q12 : v3 = v9 := (e10.trans e4.symm).symm
    subst q12
    refine And.intro (by (first | (clear hm hnf; omega) | omega)) (fun v13 gv13 e14 => ?_)
    replace hT := qlc e14 hT
    have b15 := iva_at i0 4 rfl (i := v3) (by (first | (clear hm hnf; omega) | omega)) (by (first | (clear hm hnf; omega) | omega))
    refine And.intro (fun h16 => ?_) (fun h16 => ?_)
    · replace hT := (if_pos h16).symm.trans hT
      exact And.intro (by (first | (clear hm hnf; omega) | omega)) (hK _ (by (first | (clear hm hnf; omega) | omega)) (by (first | (clear hm hnf; omega) | omega)) hT)
    · replace hT := (if_neg (Int.not_lt.mpr h16)).symm.trans hT
      exact And.intro (by (first | (clear hm hnf; omega) | omega)) (hK _ (by (first | (clear hm hnf; omega) | omega)) (by (first | (clear hm hnf; omega) | omega)) hT)
theorem pM_isRipe {c : Int} {A : qA} (hA : qokA LM A) (p0 : iva IM A) (p1 : ivf JM A) (p2 : 0 ≤ c) (p3 : c ≤ 47) : (0 ≤ (fM_isRipe c A) ∧ (fM_isRipe c A) ≤ 1) := by
  obtain ⟨r, B, hB, _, hk⟩ := okM_ex okM_isRipe (as := [rf 0, ni c]) (K := fun _ B => B = A ∧ (0 ≤ (fM_isRipe c A) ∧ (fM_isRipe c A) ≤ 1)) hA (qoks_c (show qok (rf _) from trivial) (qoks_c (show rng c from ⟨by (first | (clear hm hnf; omega) | omega), by (first | (clear hm hnf; omega) | omega)⟩) qoks_n)) ⟨c, rfl, ⟨p0, p1, p2, p3⟩, fun r9 g8 g9 x0 => (by rw [← x0]; exact ⟨rfl, ⟨g8, g9⟩⟩)⟩
  exact hk.2
def fM_feels (c : Int) (A : qA) : qA := qlet (fM_feelsCell c 0 0 A) fun A3 => qlet (A3 7 c) fun v9 => (if v9 = (-1) then qlet (A3 8 c) fun v32 => qlet (fM_isRipe c A3) fun r34 => qlet (A3 2 c) fun v38 => qlet (fM_feelsCrop 0 v32 r34 v38 A3) fun A41 => A41 else qlet (A3 7 c) fun v13 => qlet (A3 8 c) fun v17 => qlet (fM_isRipe c A3) fun r19 => qlet (A3 2 c) fun v23 => qlet (fM_feelsCrop v9 v17 r19 v23 A3) fun A26 => A26)
def sM_feels : qS := fun as A K => ∃ c : Int, as = [rf 0, ni c] ∧ (iva IM A ∧ ivf JM A ∧ 0 ≤ c ∧ c ≤ 47) ∧ (∀ A' : qA, iva IM A' → ivf JM A' → frm [35] [] A A' → (A' = fM_feels c A) → K none A')
theorem okM_feels : okM LM 2 190 sM_feels := by
  refine qmeth [] false [(187, sM_feelsCell), (189, sM_isRipe), (188, sM_feelsCrop)] 37 rfl ⟨okM_feelsCell.le (by decide), ⟨okM_isRipe.le (by decide), ⟨okM_feelsCrop.le (by decide), trivial⟩⟩⟩ ?_
  rintro _ A K hA has ⟨c, rfl, ⟨i0, j0, p1, p2⟩, hK⟩
  have rg_c : rng c := has (ni c) (by simp)
  have f0 := frm_0 [35] [] A
  have hT : _ = fM_feels c A := (fM_feels.eq_1 c A).symm
  refine ⟨Nat.le_of_ble_eq_true rfl, [], trivial, ?_⟩
  refine Exists.intro c (Exists.intro 0 (Exists.intro 0 (And.intro rfl (And.intro (And.intro i0 (And.intro j0 (And.intro (by (first | (clear hm hnf; omega) | omega)) (by (first | (clear hm hnf; omega) | omega))))) (fun A3 i4 j5 f6 g7 => ?_)))))
  replace hT := qlc g7 hT
  have f8 := frm_c f0 f6 rfl
  refine And.intro (by (first | (clear hm hnf; omega) | omega)) (fun v9 gv9 e10 => ?_)
  replace hT := qlc e10 hT
  have b11 := iva_at i4 2 rfl (i := c) (by (first | (clear hm hnf; omega) | omega)) (by (first | (clear hm hnf; omega) | omega))
  refine And.intro (fun h12 => ?_) (fun h12 => ?_)
  · replace hT := (if_neg h12).symm.trans hT
    refine And.intro (by (first | (clear hm hnf; omega) | omega)) (fun v13 gv13 e14 => ?_)
    replace hT := qlc e14 hT
    have b15 := iva_at i4 2 rfl (i := c) (by (first | (clear hm hnf; omega) | omega)) (by (first | (clear hm hnf; omega) | omega))
    have q16 : v9 = v13 := (e14.trans e10.symm).symm
    subst q16
    refine And.intro (by (first | (clear hm hnf; omega) | omega)) (fun v17 gv17 e18 => ?_)
    replace hT := qlc e18 hT
    refine Exists.intro c (And.intro rfl (And.intro (And.intro i4 (And.intro j5 (And.intro (by (first | (clear hm hnf; omega) | omega)) (by (first | (clear hm hnf; omega) | omega))))) (fun r19 g21 g22 g20 => ?_)))
    replace hT := qlc g20 hT
    clear g20
    refine And.intro (by (first | (clear hm hnf; omega) | omega)) (fun v23 gv23 e24 => ?_)
    replace hT := qlc e24 hT
    have b25 := iva_at i4 1 rfl (i := c) (by (first | (clear hm hnf; omega) | omega)) (by (first | (clear hm hnf; omega) | omega))
    refine Exists.intro v9 (Exists.intro v17 (Exists.intro r19 (Exists.intro v23 (And.intro rfl (And.intro (And.intro i4 (And.intro j5 (And.intro (by (first | (clear hm hnf; omega) | omega)) (And.intro (by (first | (clear hm hnf; omega) | omega)) (And.intro (by (first | (clear hm hnf; omega) | omega)) (by (first | (clear hm hnf; omega) | omega))))))) (fun A26 i27 j28 f29 g30 => ?_))))))
    replace hT := qlc g30 hT
    have f31 := frm_c f8 f29 rfl
    exact hK _ i27 j28 f31 hT
  · replace hT := (if_pos h12).symm.trans hT
    refine And.intro (by (first | (clear hm hnf; omega) | omega)) (fun v32 gv32 e33 => ?_)
    replace hT := qlc e33 hT
    refine Exists.intro c (And.intro rfl (And.intro (And.intro i4 (And.intro j5 (And.intro (by (first | (clear hm hnf; omega) | omega)) (by (first | (clear hm hnf; omega) | omega))))) (fun r34 g36 g37 g35 => ?_)))
    replace hT := qlc g35 hT
    clear g35
    refine And.intro (by (first | (clear hm hnf; omega) | omega)) (fun v38 gv38 e39 => ?_)
    replace hT := qlc e39 hT
    have b40 := iva_at i4 1 rfl (i := c) (by (first | (clear hm hnf; omega) | omega)) (by (first | (clear hm hnf; omega) | omega))
    refine Exists.intro 0 (Exists.intro v32 (Exists.intro r34 (Exists.intro v38 (And.intro rfl (And.intro (And.intro i4 (And.intro j5 (And.intro (by (first | (clear hm hnf; omega) | omega)) (And.intro (by (first | (clear hm hnf; omega) | omega)) (And.intro (by (first | (clear hm hnf; omega) | omega)) (by (first | (clear hm hnf; omega) | omega))))))) (fun A41 i42 j43 f44 g45 => ?_))))))
    replace hT := qlc g45 hT
    have f46 := frm_c f8 f44 rfl
    exact hK _ i42 j43 f46 hT
theorem pM_feels {c : Int} {A : qA} (hA : qokA LM A) (p0 : iva IM A) (p1 : ivf JM A) (p2 : 0 ≤ c) (p3 : c ≤ 47) : qokA LM (fM_feels c A) ∧ iva IM (fM_feels c A) ∧ ivf JM (fM_feels c A) ∧ frm [35] [] A (fM_feels c A) := by
  obtain ⟨r, B, hB, _, hk⟩ := okM_ex okM_feels (as := [rf 0, ni c]) (K := fun _ B => B = (fM_feels c A) ∧ iva IM (fM_feels c A) ∧ ivf JM (fM_feels c A) ∧ frm [35] [] A (fM_feels c A)) hA (qoks_c (show qok (rf _) from trivial) (qoks_c (show rng c from ⟨by (first | (clear hm hnf; omega) | omega), by (first | (clear hm hnf; omega) | omega)⟩) qoks_n)) ⟨c, rfl, ⟨p0, p1, p2, p3⟩, fun A9 i9 j9 f9 x0 => (by rw [← x0]; exact ⟨rfl, i9, j9, f9⟩)⟩
  exact ⟨hk.1 ▸ hB, hk.2⟩
def fM_asked (c l h : Int) (A : qA) : Int × qA := qlet (fM_feels c A) fun A6 => qlp (fM_told l h A6) fun r16 A12 => (r16, A12)
def sM_asked : qS := fun as A K => ∃ c l h : Int, as = [rf 0, ni c, ni l, ni h] ∧ (iva IM A ∧ ivf JM A ∧ 0 ≤ c ∧ c ≤ 47 ∧ 0 ≤ h ∧ h ≤ 1000 ∧ (WF A)) ∧ (∀ A' : qA, iva IM A' → ivf JM A' → frm [34, 35] [] A A' → ∀ r : Int, 0 ≤ r → r ≤ 1000 → (r ≤ h) → (r = (fM_asked c l h A).1) → (A' = (fM_asked c l h A).2) → K (some (ni r)) A')
theorem okM_asked : okM LM 4 191 sM_asked := by
  refine qmeth [] false [(190, sM_feels), (186, sM_told)] 14 rfl ⟨okM_feels.le (by decide), ⟨okM_told.le (by decide), trivial⟩⟩ ?_
  rintro _ A K hA has ⟨c, l, h, rfl, ⟨i0, j0, p1, p2, p3, p4, p5⟩, hK⟩
  have rg_c : rng c := has (ni c) (by simp)
  have rg_l : rng l := has (ni l) (by simp)
  have rg_h : rng h := has (ni h) (by simp)
  have f0 := frm_0 [34, 35] [] A
  have hT : _ = fM_asked c l h A := (fM_asked.eq_1 c l h A).symm
  refine ⟨Nat.le_of_ble_eq_true rfl, [], trivial, ?_⟩
  refine Exists.intro c (And.intro rfl (And.intro (And.intro i0 (And.intro j0 (And.intro (by (first | (clear hm hnf; omega) | omega)) (by (first | (clear hm hnf; omega) | omega))))) (fun A6 i7 j8 f9 g10 => ?_)))
  replace hT := qlc g10 hT
  have f11 := frm_c f0 f9 rfl
  refine Exists.intro l (Exists.intro h (And.intro rfl (And.intro (And.intro i7 (And.intro j8 (And.intro (by (first | (clear hm hnf; omega) | omega)) (And.intro (by (first | (clear hm hnf; omega) | omega)) (WF_fr p5 f11 rfl))))) (fun A12 i13 j14 f15 r16 g20 g21 g17 g18 g19 => ?_))))
  replace hT := qlpc g18 g19 hT
  clear g18 g19
  have f22 := frm_c f11 f15 rfl
  exact hK _ i13 j14 f22 _ (by (first | (clear hm hnf; omega) | omega)) (by (first | (clear hm hnf; omega) | omega)) (by first | assumption | omega | simp_all) (congrArg Prod.fst hT) (congrArg Prod.snd hT)
theorem pM_asked {c l h : Int} {A : qA} (hA : qokA LM A) (rg_l : rng l) (p0 : iva IM A) (p1 : ivf JM A) (p2 : 0 ≤ c) (p3 : c ≤ 47) (p4 : 0 ≤ h) (p5 : h ≤ 1000) (p6 : WF A) : qokA LM (fM_asked c l h A).2 ∧ iva IM (fM_asked c l h A).2 ∧ ivf JM (fM_asked c l h A).2 ∧ frm [34, 35] [] A (fM_asked c l h A).2 ∧ (0 ≤ (fM_asked c l h A).1 ∧ (fM_asked c l h A).1 ≤ 1000) ∧ ((fM_asked c l h A).1 ≤ h) := by
  obtain ⟨r, B, hB, _, hk⟩ := okM_ex okM_asked (as := [rf 0, ni c, ni l, ni h]) (K := fun _ B => B = (fM_asked c l h A).2 ∧ iva IM (fM_asked c l h A).2 ∧ ivf JM (fM_asked c l h A).2 ∧ frm [34, 35] [] A (fM_asked c l h A).2 ∧ (0 ≤ (fM_asked c l h A).1 ∧ (fM_asked c l h A).1 ≤ 1000) ∧ ((fM_asked c l h A).1 ≤ h)) hA (qoks_c (show qok (rf _) from trivial) (qoks_c (show rng c from ⟨by (first | (clear hm hnf; omega) | omega), by (first | (clear hm hnf; omega) | omega)⟩) (qoks_c (rg_l) (qoks_c (show rng h from ⟨by (first | (clear hm hnf; omega) | omega), by (first | (clear hm hnf; omega) | omega)⟩) qoks_n)))) ⟨c, l, h, rfl, ⟨p0, p1, p2, p3, p4, p5, p6⟩, fun A9 i9 j9 f9 r9 g8 g9 x0 x1 x2 => (by rw [← x2]; (try rw [← x1]); exact ⟨rfl, i9, j9, f9, ⟨g8, g9⟩, x0⟩)⟩
  exact ⟨hk.1 ▸ hB, hk.2⟩
def fM_byLaw (c l w : Int) (A : qA) : Int × qA := (if (0 ≤ c ∧ c ≤ 7) ∧ (0 ≤ l ∧ l ≤ 5) then (if 0 ≤ w ∧ w ≤ 2 then qlet (A 1 (6 * c + l)) fun v6 => (if v6 = 0 then ((-2), A) else (if w < 2 then qlet (A 7 (6 * c + l)) fun v24 => (if v24 = (-1) then ((-1), A) else (if w = 0 then qlp (fM_asked (6 * c + l) 103 50 A) fun r45 A41 => (r45, A41) else qlp (fM_asked (6 * c + l) 102 1000 A) fun r34 A30 => (r34, A30))) else qlp (fM_asked (6 * c + l) 97 999 A) fun r17 A13 => (r17, A13))) else ((-1), A)) else ((-1), A))
def sM_byLaw : qS := fun as A K => ∃ c l w : Int, as = [rf 0, ni c, ni l, ni w] ∧ (iva IM A ∧ ivf JM A ∧ (WF A)) ∧ (∀ A' : qA, iva IM A' → ivf JM A' → frm [34, 35] [] A A' → ∀ r : Int, (-2) ≤ r → r ≤ 1000 → (r = (fM_byLaw c l w A).1) → (A' = (fM_byLaw c l w A).2) → K (some (ni r)) A')
theorem okM_byLaw : okM LM 5 192 sM_byLaw := by
  refine qmeth [] false [(148, sM_isCell), (145, sM_in), (149, sM_at), (191, sM_asked)] 62 rfl ⟨okM_isCell.le (by decide), ⟨okM_in.le (by decide), ⟨okM_at.le (by decide), ⟨okM_asked.le (by decide), trivial⟩⟩⟩⟩ ?_
  rintro _ A K hA has ⟨c, l, w, rfl, ⟨i0, j0, p1⟩, hK⟩
  have rg_c : rng c := has (ni c) (by simp)
  have rg_l : rng l := has (ni l) (by simp)
  have rg_w : rng w := has (ni w) (by simp)
  have f0 := frm_0 [34, 35] [] A
  have hT : _ = fM_byLaw c l w A := (fM_byLaw.eq_1 c l w A).symm
  refine ⟨Nat.le_of_ble_eq_true rfl, [], trivial, ?_⟩
  refine Exists.intro c (Exists.intro l (And.intro rfl (And.intro (fun h2 => ?_) (fun h2 => ?_))))
  · replace hT := (if_pos h2).symm.trans hT
    refine And.intro (fun h3 => by exfalso; omega) (fun h3 => ?_)
    refine Exists.intro w (Exists.intro 0 (Exists.intro 2 (And.intro rfl (And.intro (fun h4 => ?_) (fun h4 => ?_)))))
    · replace hT := (if_pos h4).symm.trans hT
      refine And.intro (fun h5 => ?_) (fun h5 => by exfalso; omega)
      refine Exists.intro c (Exists.intro l (And.intro rfl (And.intro (And.intro (by (first | (clear hm hnf; omega) | omega)) (And.intro (by (first | (clear hm hnf; omega) | omega)) (And.intro (by (first | (clear hm hnf; omega) | omega)) (by (first | (clear hm hnf; omega) | omega))))) ?_)))
      refine And.intro (by (first | (clear hm hnf; omega) | omega)) (fun v6 gv6 e7 => ?_)
      replace hT := qlc e7 hT
      have b8 := iva_at i0 0 rfl (i := (6 * c + l)) (by (first | (clear hm hnf; omega) | omega)) (by (first | (clear hm hnf; omega) | omega))
      refine And.intro (fun h9 => ?_) (fun h9 => ?_)
      · replace hT := (if_neg h9).symm.trans hT
        refine And.intro (fun h10 => ?_) (fun h10 => ?_)
        · replace hT := (if_neg (Int.not_lt.mpr h10)).symm.trans hT
          refine And.intro (fun h11 => ?_) (fun h11 => by exfalso; omega)
          refine And.intro (fun h12 => ?_) (fun h12 => by exfalso; omega)
          refine Exists.intro (6 * c + l) (Exists.intro 97 (Exists.intro 999 (And.intro rfl (And.intro (And.intro i0 (And.intro j0 (And.intro (by (first | (clear hm hnf; omega) | omega)) (And.intro (by (first | (clear hm hnf; omega) | omega)) (And.intro (by (first | (clear hm hnf; omega) | omega)) (And.intro (by (first | (clear hm hnf; omega) | omega)) (WF_fr p1 f0 rfl))))))) (fun A13 i14 j15 f16 r17 g21 g22 g18 g19 g20 => ?_)))))
          replace hT := qlpc g19 g20 hT
          clear g19 g20
          have f23 := frm_c f0 f16 rfl
          exact hK _ i14 j15 f23 _ (by (first | (clear hm hnf; omega) | omega)) (by (first | (clear hm hnf; omega) | omega)) (congrArg Prod.fst hT) (congrArg Prod.snd hT)
        · replace hT := (if_pos h10).symm.trans hT
          refine And.intro (by (first | (clear hm hnf; omega) | omega)) (fun v24 gv24 e25 => ?_)
          replace hT := qlc e25 hT
          have b26 := iva_at i0 2 rfl (i := (6 * c + l)) (by (first | (clear hm hnf; omega) | omega)) (by (first | (clear hm hnf; omega) | omega))
          refine And.intro (fun h27 => ?_) (fun h27 => ?_)
          · replace hT := (if_neg h27).symm.trans hT
            refine And.intro (fun h28 => ?_) (fun h28 => ?_)
            · replace hT := (if_neg h28).symm.trans hT
              refine And.intro (fun h29 => by exfalso; omega) (fun h29 => ?_)
              refine Exists.intro (6 * c + l) (Exists.intro 102 (Exists.intro 1000 (And.intro rfl (And.intro (And.intro i0 (And.intro j0 (And.intro (by (first | (clear hm hnf; omega) | omega)) (And.intro (by (first | (clear hm hnf; omega) | omega)) (And.intro (by (first | (clear hm hnf; omega) | omega)) (And.intro (by (first | (clear hm hnf; omega) | omega)) (WF_fr p1 f0 rfl))))))) (fun A30 i31 j32 f33 r34 g38 g39 g35 g36 g37 => ?_)))))
              replace hT := qlpc g36 g37 hT
              clear g36 g37
              have f40 := frm_c f0 f33 rfl
              exact hK _ i31 j32 f40 _ (by (first | (clear hm hnf; omega) | omega)) (by (first | (clear hm hnf; omega) | omega)) (congrArg Prod.fst hT) (congrArg Prod.snd hT)
            · replace hT := (if_pos h28).symm.trans hT
              refine Exists.intro (6 * c + l) (Exists.intro 103 (Exists.intro 50 (And.intro rfl (And.intro (And.intro i0 (And.intro j0 (And.intro (by (first | (clear hm hnf; omega) | omega)) (And.intro (by (first | (clear hm hnf; omega) | omega)) (And.intro (by (first | (clear hm hnf; omega) | omega)) (And.intro (by (first | (clear hm hnf; omega) | omega)) (WF_fr p1 f0 rfl))))))) (fun A41 i42 j43 f44 r45 g49 g50 g46 g47 g48 => ?_)))))
              replace hT := qlpc g47 g48 hT
              clear g47 g48
              have f51 := frm_c f0 f44 rfl
              exact hK _ i42 j43 f51 _ (by (first | (clear hm hnf; omega) | omega)) (by (first | (clear hm hnf; omega) | omega)) (congrArg Prod.fst hT) (congrArg Prod.snd hT)
          · replace hT := (if_pos h27).symm.trans hT
            exact hK _ i0 j0 f0 _ (by (first | (clear hm hnf; omega) | omega)) (by (first | (clear hm hnf; omega) | omega)) (congrArg Prod.fst hT) (congrArg Prod.snd hT)
      · replace hT := (if_pos h9).symm.trans hT
        exact hK _ i0 j0 f0 _ (by (first | (clear hm hnf; omega) | omega)) (by (first | (clear hm hnf; omega) | omega)) (congrArg Prod.fst hT) (congrArg Prod.snd hT)
    · replace hT := (if_neg h4).symm.trans hT
      refine And.intro (fun h52 => by exfalso; omega) (fun h52 => ?_)
      exact hK _ i0 j0 f0 _ (by (first | (clear hm hnf; omega) | omega)) (by (first | (clear hm hnf; omega) | omega)) (congrArg Prod.fst hT) (congrArg Prod.snd hT)
  · replace hT := (if_neg h2).symm.trans hT
    refine And.intro (fun h53 => ?_) (fun h53 => by exfalso; omega)
    exact hK _ i0 j0 f0 _ (by (first | (clear hm hnf; omega) | omega)) (by (first | (clear hm hnf; omega) | omega)) (congrArg Prod.fst hT) (congrArg Prod.snd hT)
theorem pM_byLaw {c l w : Int} {A : qA} (hA : qokA LM A) (rg_c : rng c) (rg_l : rng l) (rg_w : rng w) (p0 : iva IM A) (p1 : ivf JM A) (p2 : WF A) : qokA LM (fM_byLaw c l w A).2 ∧ iva IM (fM_byLaw c l w A).2 ∧ ivf JM (fM_byLaw c l w A).2 ∧ frm [34, 35] [] A (fM_byLaw c l w A).2 ∧ ((-2) ≤ (fM_byLaw c l w A).1 ∧ (fM_byLaw c l w A).1 ≤ 1000) := by
  obtain ⟨r, B, hB, _, hk⟩ := okM_ex okM_byLaw (as := [rf 0, ni c, ni l, ni w]) (K := fun _ B => B = (fM_byLaw c l w A).2 ∧ iva IM (fM_byLaw c l w A).2 ∧ ivf JM (fM_byLaw c l w A).2 ∧ frm [34, 35] [] A (fM_byLaw c l w A).2 ∧ ((-2) ≤ (fM_byLaw c l w A).1 ∧ (fM_byLaw c l w A).1 ≤ 1000)) hA (qoks_c (show qok (rf _) from trivial) (qoks_c (rg_c) (qoks_c (rg_l) (qoks_c (rg_w) qoks_n)))) ⟨c, l, w, rfl, ⟨p0, p1, p2⟩, fun A9 i9 j9 f9 r9 g8 g9 x0 x1 => (by rw [← x1]; (try rw [← x0]); exact ⟨rfl, i9, j9, f9, ⟨g8, g9⟩⟩)⟩
  exact ⟨hk.1 ▸ hB, hk.2⟩
def fM_sends (x t d : Int) (A : qA) : qA := (if t < 0 then qlet (A 37 x) fun v4 => qlet (v4 + d) fun v6 => qlet (qu A 37 x (wI v6)) fun A8 => A8 else (if 7 < t then qlet (A 37 x) fun v25 => qlet (v25 + d) fun v27 => qlet (qu A 37 x (wI v27)) fun A29 => A29 else qlet (A 37 t) fun v15 => qlet (v15 + d) fun v17 => qlet (qu A 37 t (wI v17)) fun A19 => A19))
def sM_sends : qS := fun as A K => ∃ x t d : Int, as = [rf 0, ni x, ni t, ni d] ∧ (iva IM A ∧ ivf JM A ∧ 0 ≤ x ∧ x ≤ 7) ∧ (∀ A' : qA, iva IM A' → ivf JM A' → frm [37] [] A A' → (A' = fM_sends x t d A) → K none A')
theorem okM_sends : okM LM 1 193 sM_sends := by
  refine qmeth [] true [] 26 rfl trivial ?_
  rintro _ A K hA has ⟨x, t, d, rfl, ⟨i0, j0, p1, p2⟩, hK⟩
  have rg_x : rng x := has (ni x) (by simp)
  have rg_t : rng t := has (ni t) (by simp)
  have rg_d : rng d := has (ni d) (by simp)
  have f0 := frm_0 [37] [] A
  have hT : _ = fM_sends x t d A := (fM_sends.eq_1 x t d A).symm
  refine ⟨Nat.le_of_ble_eq_true rfl, [], trivial, ?_⟩
  refine And.intro (fun h3 => ?_) (fun h3 => ?_)
  · replace hT := (if_pos h3).symm.trans hT
    refine And.intro (by (first | (clear hm hnf; omega) | omega)) (fun v4 gv4 e5 => ?_)
    replace hT := qlc e5 hT
    refine fun v6 e7 => ?_
    replace hT := qlc e7 hT
    have w10 := wI_rng v6
    refine And.intro (by (first | (clear hm hnf; omega) | omega)) (fun A8 e9 => ?_)
    replace hT := qlc e9 hT
    have i11 := iva_st i0 e9 trivial
    have j12 := ivf_sa j0 e9 rfl
    have f13 := frm_s f0 e9 rfl
    exact hK _ i11 j12 f13 hT
  · replace hT := (if_neg (Int.not_lt.mpr h3)).symm.trans hT
    refine And.intro (fun h14 => ?_) (fun h14 => ?_)
    · replace hT := (if_neg (Int.not_lt.mpr h14)).symm.trans hT
      refine And.intro (by (first | (clear hm hnf; omega) | omega)) (fun v15 gv15 e16 => ?_)
      replace hT := qlc e16 hT
      refine fun v17 e18 => ?_
      replace hT := qlc e18 hT
      have w21 := wI_rng v17
      refine And.intro (by (first | (clear hm hnf; omega) | omega)) (fun A19 e20 => ?_)
      replace hT := qlc e20 hT
      have i22 := iva_st i0 e20 trivial
      have j23 := ivf_sa j0 e20 rfl
      have f24 := frm_s f0 e20 rfl
      exact hK _ i22 j23 f24 hT
    · replace hT := (if_pos h14).symm.trans hT
      refine And.intro (by (first | (clear hm hnf; omega) | omega)) (fun v25 gv25 e26 => ?_)
      replace hT := qlc e26 hT
      refine fun v27 e28 => ?_
      replace hT := qlc e28 hT
      have w31 := wI_rng v27
      refine And.intro (by (first | (clear hm hnf; omega) | omega)) (fun A29 e30 => ?_)
      replace hT := qlc e30 hT
      have i32 := iva_st i0 e30 trivial
      have j33 := ivf_sa j0 e30 rfl
      have f34 := frm_s f0 e30 rfl
      exact hK _ i32 j33 f34 hT
theorem pM_sends {x t d : Int} {A : qA} (hA : qokA LM A) (rg_t : rng t) (rg_d : rng d) (p0 : iva IM A) (p1 : ivf JM A) (p2 : 0 ≤ x) (p3 : x ≤ 7) : qokA LM (fM_sends x t d A) ∧ iva IM (fM_sends x t d A) ∧ ivf JM (fM_sends x t d A) ∧ frm [37] [] A (fM_sends x t d A) := by
  obtain ⟨r, B, hB, _, hk⟩ := okM_ex okM_sends (as := [rf 0, ni x, ni t, ni d]) (K := fun _ B => B = (fM_sends x t d A) ∧ iva IM (fM_sends x t d A) ∧ ivf JM (fM_sends x t d A) ∧ frm [37] [] A (fM_sends x t d A)) hA (qoks_c (show qok (rf _) from trivial) (qoks_c (show rng x from ⟨by (first | (clear hm hnf; omega) | omega), by (first | (clear hm hnf; omega) | omega)⟩) (qoks_c (rg_t) (qoks_c (rg_d) qoks_n)))) ⟨x, t, d, rfl, ⟨p0, p1, p2, p3⟩, fun A9 i9 j9 f9 x0 => (by rw [← x0]; exact ⟨rfl, i9, j9, f9⟩)⟩
  exact ⟨hk.1 ▸ hB, hk.2⟩
def fM_drips (c d : Int) (A : qA) : qA := qlet (qd c 6) fun v3 => qlet (A 1 c) fun v6 => (if v6 = 0 then qlet (fM_sends (wI v3) (wI v3) d A) fun A208 => A208 else qlet (A 7 c) fun v10 => (if v10 = (-1) then qlet (qu A 10 c 0) fun A112 => qlet (A112 10 c) fun v117 => qlet (d - 0) fun v120 => qlet (A112 6 c) fun v122 => (if v122 = 0 then qlet (fM_sends (wI v3) (wI v3) (wI v120) A112) fun A170 => A170 else (if v122 = 1 then qlet (v3 - 1) fun v176 => qlet (fM_sends (wI v3) (wI v176) (wI v120) A112) fun A184 => A184 else (if v122 = 2 then qlet (v3 + 1) fun v190 => qlet (fM_sends (wI v3) (wI v190) (wI v120) A112) fun A198 => A198 else qlet (v3 - 1) fun v125 => qlet (qd (wI v120) 2) fun v127 => qlet (v120 - v127) fun v132 => qlet (fM_sends (wI v3) (wI v125) (wI v132) A112) fun A139 => qlet (v3 + 1) fun v145 => qlet (qd (wI v120) 2) fun v147 => qlet (fM_sends (wI v3) (wI v145) (wI v147) A139) fun A158 => A158))) else qlet (A 7 c) fun v14 => qlet (A 11 v10) fun v18 => qlet (fM_less d v18 A) fun r21 => qlet (qu A 10 c r21) fun A25 => qlet (A25 10 c) fun v30 => qlet (d - r21) fun v33 => qlet (A25 6 c) fun v35 => (if v35 = 0 then qlet (fM_sends (wI v3) (wI v3) (wI v33) A25) fun A80 => A80 else (if v35 = 1 then qlet (v3 - 1) fun v86 => qlet (fM_sends (wI v3) (wI v86) (wI v33) A25) fun A93 => A93 else (if v35 = 2 then qlet (v3 + 1) fun v99 => qlet (fM_sends (wI v3) (wI v99) (wI v33) A25) fun A106 => A106 else qlet (v3 - 1) fun v38 => qlet (qd (wI v33) 2) fun v40 => qlet (v33 - v40) fun v44 => qlet (fM_sends (wI v3) (wI v38) (wI v44) A25) fun A51 => qlet (v3 + 1) fun v57 => qlet (qd (wI v33) 2) fun v59 => qlet (fM_sends (wI v3) (wI v57) (wI v59) A51) fun A69 => A69)))))
def sM_drips : qS := fun as A K => ∃ c d : Int, as = [rf 0, ni c, ni d] ∧ (iva IM A ∧ ivf JM A ∧ 0 ≤ c ∧ c ≤ 47) ∧ (∀ A' : qA, iva IM A' → ivf JM A' → frm [37, 10] [] A A' → (A' = fM_drips c d A) → K none A')
theorem okM_drips : okM LM 2 194 sM_drips := by
  refine qmeth [] true [(146, sM_less), (193, sM_sends)] 97 rfl ⟨okM_less.le (by decide), ⟨okM_sends.le (by decide), trivial⟩⟩ ?_
  rintro _ A K hA has ⟨c, d, rfl, ⟨i0, j0, p1, p2⟩, hK⟩
  have rg_c : rng c := has (ni c) (by simp)
  have rg_d : rng d := has (ni d) (by simp)
  have f0 := frm_0 [37, 10] [] A
  have hT : _ = fM_drips c d A := (fM_drips.eq_1 c d A).symm
  refine ⟨Nat.le_of_ble_eq_true rfl, [], trivial, ?_⟩
  refine And.intro (by (first | (clear hm hnf; omega) | omega)) (fun v3 e4 => ?_)
  replace hT := qlc e4 hT
  have h5 := qd_nn (a := c) (b := 6) (by (first | (clear hm hnf; omega) | omega))
  refine And.intro (by (first | (clear hm hnf; omega) | omega)) (fun v6 gv6 e7 => ?_)
  replace hT := qlc e7 hT
  have b8 := iva_at i0 0 rfl (i := c) (by (first | (clear hm hnf; omega) | omega)) (by (first | (clear hm hnf; omega) | omega))
  refine And.intro (fun h9 => ?_) (fun h9 => ?_)
  · replace hT := (if_neg h9).symm.trans hT
    refine And.intro (by (first | (clear hm hnf; omega) | omega)) (fun v10 gv10 e11 => ?_)
    replace hT := qlc e11 hT
    have b12 := iva_at i0 2 rfl (i := c) (by (first | (clear hm hnf; omega) | omega)) (by (first | (clear hm hnf; omega) | omega))
    refine And.intro (fun h13 => ?_) (fun h13 => ?_)
    · replace hT := (if_neg h13).symm.trans hT
      refine And.intro (by (first | (clear hm hnf; omega) | omega)) (fun v14 gv14 e15 => ?_)
      replace hT := qlc e15 hT
      have b16 := iva_at i0 2 rfl (i := c) (by (first | (clear hm hnf; omega) | omega)) (by (first | (clear hm hnf; omega) | omega))
      have q17 : v10 = v14 := (e15.trans e11.symm).symm
      subst q17
      refine And.intro (by (first | (clear hm hnf; omega) | omega)) (fun v18 gv18 e19 => ?_)
      replace hT := qlc e19 hT
      have b20 := iva_at i0 3 rfl (i := v10) (by (first | (clear hm hnf; omega) | omega)) (by (first | (clear hm hnf; omega) | omega))
      refine Exists.intro d (Exists.intro v18 (And.intro rfl (fun r21 g24 g22 g23 => ?_)))
      replace hT := qlc g23 hT
      clear g23
      refine And.intro (by (first | (clear hm hnf; omega) | omega)) (fun A25 e26 => ?_)
      replace hT := qlc e26 hT
      have i27 := iva_st i0 e26 trivial
      have j28 := ivf_sa j0 e26 rfl
      have f29 := frm_s f0 e26 rfl
      refine And.intro (by (first | (clear hm hnf; omega) | omega)) (fun v30 gv30 e31 => ?_)
      replace hT := qlc e31 hT
      have q32 : r21 = v30 := (e31.trans (st_v e26)).symm
      subst q32
      refine fun v33 e34 => ?_
      replace hT := qlc e34 hT
      refine And.intro (by (first | (clear hm hnf; omega) | omega)) (fun v35 gv35 e36 => ?_)
      replace hT := qlc e36 hT
      refine (And.intro (fun h37 => ?_) (And.intro (fun h37 => ?_) (And.intro (fun h37 => ?_) (And.intro (fun h37 => ?_) trivial))))
      · replace hT := (if_neg (show ¬ (v35 = 0) by (first | (clear hm hnf; omega) | omega))).symm.trans hT
        replace hT := (if_neg (show ¬ (v35 = 1) by (first | (clear hm hnf; omega) | omega))).symm.trans hT
        replace hT := (if_neg (show ¬ (v35 = 2) by (first | (clear hm hnf; omega) | omega))).symm.trans hT
        refine fun v38 e39 => ?_
        replace hT := qlc e39 hT
        have w42 := wI_rng v33
        refine And.intro (by (first | (clear hm hnf; omega) | omega)) (fun v40 e41 => ?_)
        replace hT := qlc e41 hT
        have h43 := qd_bd (a := (wI v33)) (b := 2) (lo := (-2147483648)) (hi := 2147483647) (by (first | (clear hm hnf; omega) | omega)) (by (first | (clear hm hnf; omega) | omega)) (by (first | (clear hm hnf; omega) | omega)) (by (first | (clear hm hnf; omega) | omega)) (by (first | (clear hm hnf; omega) | omega))
        refine fun v44 e45 => ?_
        replace hT := qlc e45 hT
        have w46 := wI_rng v3
        have w47 : wI v3 = v3 := wI_id (by (first | (clear hm hnf; omega) | omega))
        have w48 := wI_rng v38
        have w49 : wI v38 = v38 := wI_id (by (first | (clear hm hnf; omega) | omega))
        have w50 := wI_rng v44
        refine Exists.intro (wI v3) (Exists.intro (wI v38) (Exists.intro (wI v44) (And.intro rfl (And.intro (And.intro i27 (And.intro j28 (And.intro (by (first | (clear hm hnf; omega) | omega)) (by (first | (clear hm hnf; omega) | omega))))) (fun A51 i52 j53 f54 g55 => ?_)))))
        replace hT := qlc g55 hT
        have f56 := frm_c f29 f54 rfl
        refine fun v57 e58 => ?_
        replace hT := qlc e58 hT
        have w61 := wI_rng v33
        refine And.intro (by (first | (clear hm hnf; omega) | omega)) (fun v59 e60 => ?_)
        replace hT := qlc e60 hT
        have h62 := qd_bd (a := (wI v33)) (b := 2) (lo := (-2147483648)) (hi := 2147483647) (by (first | (clear hm hnf; omega) | omega)) (by (first | (clear hm hnf; omega) | omega)) (by (first | (clear hm hnf; omega) | omega)) (by (first | (clear hm hnf; omega) | omega)) (by (first | (clear hm hnf; omega) | omega))
        have w63 := wI_rng v3
        have w64 : wI v3 = v3 := wI_id (by (first | (clear hm hnf; omega) | omega))
        have w65 := wI_rng v57
        have w66 : wI v57 = v57 := wI_id (by (first | (clear hm hnf; omega) | omega))
        have w67 := wI_rng v59
        have w68 : wI v59 = v59 := wI_id (by (first | (clear hm hnf; omega) | omega))
        refine Exists.intro (wI v3) (Exists.intro (wI v57) (Exists.intro (wI v59) (And.intro rfl (And.intro (And.intro i52 (And.intro j53 (And.intro (by (first | (clear hm hnf; omega) | omega)) (by (first | (clear hm hnf; omega) | omega))))) (fun A69 i70 j71 f72 g73 => ?_)))))
        replace hT := qlc g73 hT
        have f74 := frm_c f56 f72 rfl
        exact hK _ i70 j71 f74 hT
      · replace hT := (if_pos (show v35 = 0 by (first | (clear hm hnf; omega) | omega))).symm.trans hT
        have w75 := wI_rng v3
        have w76 : wI v3 = v3 := wI_id (by (first | (clear hm hnf; omega) | omega))
        have w77 := wI_rng v3
        have w78 : wI v3 = v3 := wI_id (by (first | (clear hm hnf; omega) | omega))
        have w79 := wI_rng v33
        refine Exists.intro (wI v3) (Exists.intro (wI v3) (Exists.intro (wI v33) (And.intro rfl (And.intro (And.intro i27 (And.intro j28 (And.intro (by (first | (clear hm hnf; omega) | omega)) (by (first | (clear hm hnf; omega) | omega))))) (fun A80 i81 j82 f83 g84 => ?_)))))
        replace hT := qlc g84 hT
        have f85 := frm_c f29 f83 rfl
        exact hK _ i81 j82 f85 hT
      · replace hT := (if_neg (show ¬ (v35 = 0) by (first | (clear hm hnf; omega) | omega))).symm.trans hT
        replace hT := (if_pos (show v35 = 1 by (first | (clear hm hnf; omega) | omega))).symm.trans hT
        refine fun v86 e87 => ?_
        replace hT := qlc e87 hT
        have w88 := wI_rng v3
        have w89 : wI v3 = v3 := wI_id (by (first | (clear hm hnf; omega) | omega))
        have w90 := wI_rng v86
        have w91 : wI v86 = v86 := wI_id (by (first | (clear hm hnf; omega) | omega))
        have w92 := wI_rng v33
        refine Exists.intro (wI v3) (Exists.intro (wI v86) (Exists.intro (wI v33) (And.intro rfl (And.intro (And.intro i27 (And.intro j28 (And.intro (by (first | (clear hm hnf; omega) | omega)) (by (first | (clear hm hnf; omega) | omega))))) (fun A93 i94 j95 f96 g97 => ?_)))))
        replace hT := qlc g97 hT
        have f98 := frm_c f29 f96 rfl
        exact hK _ i94 j95 f98 hT
      · replace hT := (if_neg (show ¬ (v35 = 0) by (first | (clear hm hnf; omega) | omega))).symm.trans hT
        replace hT := (if_neg (show ¬ (v35 = 1) by (first | (clear hm hnf; omega) | omega))).symm.trans hT
        replace hT := (if_pos (show v35 = 2 by (first | (clear hm hnf; omega) | omega))).symm.trans hT
        refine fun v99 e100 => ?_
        replace hT := qlc e100 hT
        have w101 := wI_rng v3
        have w102 : wI v3 = v3 := wI_id (by (first | (clear hm hnf; omega) | omega))
        have w103 := wI_rng v99
        have w104 : wI v99 = v99 := wI_id (by (first | (clear hm hnf; omega) | omega))
        have w105 := wI_rng v33
        refine Exists.intro (wI v3) (Exists.intro (wI v99) (Exists.intro (wI v33) (And.intro rfl (And.intro (And.intro i27 (And.intro j28 (And.intro (by (first | (clear hm hnf; omega) | omega)) (by (first | (clear hm hnf; omega) | omega))))) (fun A106 i107 j108 f109 g110 => ?_)))))
        replace hT := qlc g110 hT
        have f111 := frm_c f29 f109 rfl
        exact hK _ i107 j108 f111 hT
    · replace hT := (if_pos h13).symm.trans hT
      refine And.intro (by (first | (clear hm hnf; omega) | omega)) (fun A112 e113 => ?_)
      replace hT := qlc e113 hT
      have i114 := iva_st i0 e113 trivial
      have j115 := ivf_sa j0 e113 rfl
      have f116 := frm_s f0 e113 rfl
      refine And.intro (by (first | (clear hm hnf; omega) | omega)) (fun v117 gv117 e118 => ?_)
      replace hT := qlc e118 hT
      have q119 : 0 = v117 := (e118.trans (st_v e113)).symm
      subst q119
      refine fun v120 e121 => ?_
      replace hT := qlc e121 hT
      refine And.intro (by (first | (clear hm hnf; omega) | omega)) (fun v122 gv122 e123 => ?_)
      replace hT := qlc e123 hT
      refine (And.intro (fun h124 => ?_) (And.intro (fun h124 => ?_) (And.intro (fun h124 => ?_) (And.intro (fun h124 => ?_) trivial))))
      · replace hT := (if_neg (show ¬ (v122 = 0) by (first | (clear hm hnf; omega) | omega))).symm.trans hT
        replace hT := (if_neg (show ¬ (v122 = 1) by (first | (clear hm hnf; omega) | omega))).symm.trans hT
        replace hT := (if_neg (show ¬ (v122 = 2) by (first | (clear hm hnf; omega) | omega))).symm.trans hT
        refine fun v125 e126 => ?_
        replace hT := qlc e126 hT
        have w129 := wI_rng v120
        have w130 : wI v120 = v120 := wI_id (by (first | (clear hm hnf; omega) | omega))
        refine And.intro (by (first | (clear hm hnf; omega) | omega)) (fun v127 e128 => ?_)
        replace hT := qlc e128 hT
        have h131 := qd_bd (a := (wI v120)) (b := 2) (lo := (-2147483648)) (hi := 2147483647) (by (first | (clear hm hnf; omega) | omega)) (by (first | (clear hm hnf; omega) | omega)) (by (first | (clear hm hnf; omega) | omega)) (by (first | (clear hm hnf; omega) | omega)) (by (first | (clear hm hnf; omega) | omega))
        refine fun v132 e133 => ?_
        replace hT := qlc e133 hT
        have w134 := wI_rng v3
        have w135 : wI v3 = v3 := wI_id (by (first | (clear hm hnf; omega) | omega))
        have w136 := wI_rng v125
        have w137 : wI v125 = v125 := wI_id (by (first | (clear hm hnf; omega) | omega))
        have w138 := wI_rng v132
        refine Exists.intro (wI v3) (Exists.intro (wI v125) (Exists.intro (wI v132) (And.intro rfl (And.intro (And.intro i114 (And.intro j115 (And.intro (by (first | (clear hm hnf; omega) | omega)) (by (first | (clear hm hnf; omega) | omega))))) (fun A139 i140 j141 f142 g143 => ?_)))))
        replace hT := qlc g143 hT
        have f144 := frm_c f116 f142 rfl
        refine fun v145 e146 => ?_
        replace hT := qlc e146 hT
        have w149 := wI_rng v120
        have w150 : wI v120 = v120 := wI_id (by (first | (clear hm hnf; omega) | omega))
        refine And.intro (by (first | (clear hm hnf; omega) | omega)) (fun v147 e148 => ?_)
        replace hT := qlc e148 hT
        have h151 := qd_bd (a := (wI v120)) (b := 2) (lo := (-2147483648)) (hi := 2147483647) (by (first | (clear hm hnf; omega) | omega)) (by (first | (clear hm hnf; omega) | omega)) (by (first | (clear hm hnf; omega) | omega)) (by (first | (clear hm hnf; omega) | omega)) (by (first | (clear hm hnf; omega) | omega))
        have w152 := wI_rng v3
        have w153 : wI v3 = v3 := wI_id (by (first | (clear hm hnf; omega) | omega))
        have w154 := wI_rng v145
        have w155 : wI v145 = v145 := wI_id (by (first | (clear hm hnf; omega) | omega))
        have w156 := wI_rng v147
        have w157 : wI v147 = v147 := wI_id (by (first | (clear hm hnf; omega) | omega))
        refine Exists.intro (wI v3) (Exists.intro (wI v145) (Exists.intro (wI v147) (And.intro rfl (And.intro (And.intro i140 (And.intro j141 (And.intro (by (first | (clear hm hnf; omega) | omega)) (by (first | (clear hm hnf; omega) | omega))))) (fun A158 i159 j160 f161 g162 => ?_)))))
        replace hT := qlc g162 hT
        have f163 := frm_c f144 f161 rfl
        exact hK _ i159 j160 f163 hT
      · replace hT := (if_pos (show v122 = 0 by (first | (clear hm hnf; omega) | omega))).symm.trans hT
        have w164 := wI_rng v3
        have w165 : wI v3 = v3 := wI_id (by (first | (clear hm hnf; omega) | omega))
        have w166 := wI_rng v3
        have w167 : wI v3 = v3 := wI_id (by (first | (clear hm hnf; omega) | omega))
        have w168 := wI_rng v120
        have w169 : wI v120 = v120 := wI_id (by (first | (clear hm hnf; omega) | omega))
        refine Exists.intro (wI v3) (Exists.intro (wI v3) (Exists.intro (wI v120) (And.intro rfl (And.intro (And.intro i114 (And.intro j115 (And.intro (by (first | (clear hm hnf; omega) | omega)) (by (first | (clear hm hnf; omega) | omega))))) (fun A170 i171 j172 f173 g174 => ?_)))))
        replace hT := qlc g174 hT
        have f175 := frm_c f116 f173 rfl
        exact hK _ i171 j172 f175 hT
      · replace hT := (if_neg (show ¬ (v122 = 0) by (first | (clear hm hnf; omega) | omega))).symm.trans hT
        replace hT := (if_pos (show v122 = 1 by (first | (clear hm hnf; omega) | omega))).symm.trans hT
        refine fun v176 e177 => ?_
        replace hT := qlc e177 hT
        have w178 := wI_rng v3
        have w179 : wI v3 = v3 := wI_id (by (first | (clear hm hnf; omega) | omega))
        have w180 := wI_rng v176
        have w181 : wI v176 = v176 := wI_id (by (first | (clear hm hnf; omega) | omega))
        have w182 := wI_rng v120
        have w183 : wI v120 = v120 := wI_id (by (first | (clear hm hnf; omega) | omega))
        refine Exists.intro (wI v3) (Exists.intro (wI v176) (Exists.intro (wI v120) (And.intro rfl (And.intro (And.intro i114 (And.intro j115 (And.intro (by (first | (clear hm hnf; omega) | omega)) (by (first | (clear hm hnf; omega) | omega))))) (fun A184 i185 j186 f187 g188 => ?_)))))
        replace hT := qlc g188 hT
        have f189 := frm_c f116 f187 rfl
        exact hK _ i185 j186 f189 hT
      · replace hT := (if_neg (show ¬ (v122 = 0) by (first | (clear hm hnf; omega) | omega))).symm.trans hT
        replace hT := (if_neg (show ¬ (v122 = 1) by (first | (clear hm hnf; omega) | omega))).symm.trans hT
        replace hT := (if_pos (show v122 = 2 by (first | (clear hm hnf; omega) | omega))).symm.trans hT
        refine fun v190 e191 => ?_
        replace hT := qlc e191 hT
        have w192 := wI_rng v3
        have w193 : wI v3 = v3 := wI_id (by (first | (clear hm hnf; omega) | omega))
        have w194 := wI_rng v190
        have w195 : wI v190 = v190 := wI_id (by (first | (clear hm hnf; omega) | omega))
        have w196 := wI_rng v120
        have w197 : wI v120 = v120 := wI_id (by (first | (clear hm hnf; omega) | omega))
        refine Exists.intro (wI v3) (Exists.intro (wI v190) (Exists.intro (wI v120) (And.intro rfl (And.intro (And.intro i114 (And.intro j115 (And.intro (by (first | (clear hm hnf; omega) | omega)) (by (first | (clear hm hnf; omega) | omega))))) (fun A198 i199 j200 f201 g202 => ?_)))))
        replace hT := qlc g202 hT
        have f203 := frm_c f116 f201 rfl
        exact hK _ i199 j200 f203 hT
  · replace hT := (if_pos h9).symm.trans hT
    have w204 := wI_rng v3
    have w205 : wI v3 = v3 := wI_id (by (first | (clear hm hnf; omega) | omega))
    have w206 := wI_rng v3
    have w207 : wI v3 = v3 := wI_id (by (first | (clear hm hnf; omega) | omega))
    refine Exists.intro (wI v3) (Exists.intro (wI v3) (Exists.intro d (And.intro rfl (And.intro (And.intro i0 (And.intro j0 (And.intro (by (first | (clear hm hnf; omega) | omega)) (by (first | (clear hm hnf; omega) | omega))))) (fun A208 i209 j210 f211 g212 => ?_)))))
    replace hT := qlc g212 hT
    have f213 := frm_c f0 f211 rfl
    exact hK _ i209 j210 f213 hT
theorem pM_drips {c d : Int} {A : qA} (hA : qokA LM A) (rg_d : rng d) (p0 : iva IM A) (p1 : ivf JM A) (p2 : 0 ≤ c) (p3 : c ≤ 47) : qokA LM (fM_drips c d A) ∧ iva IM (fM_drips c d A) ∧ ivf JM (fM_drips c d A) ∧ frm [37, 10] [] A (fM_drips c d A) := by
  obtain ⟨r, B, hB, _, hk⟩ := okM_ex okM_drips (as := [rf 0, ni c, ni d]) (K := fun _ B => B = (fM_drips c d A) ∧ iva IM (fM_drips c d A) ∧ ivf JM (fM_drips c d A) ∧ frm [37, 10] [] A (fM_drips c d A)) hA (qoks_c (show qok (rf _) from trivial) (qoks_c (show rng c from ⟨by (first | (clear hm hnf; omega) | omega), by (first | (clear hm hnf; omega) | omega)⟩) (qoks_c (rg_d) qoks_n))) ⟨c, d, rfl, ⟨p0, p1, p2, p3⟩, fun A9 i9 j9 f9 x0 => (by rw [← x0]; exact ⟨rfl, i9, j9, f9⟩)⟩
  exact ⟨hk.1 ▸ hB, hk.2⟩
def fM_flows_c2 (rec : Nat → List Int → qA → qA) (l : Int) (B : qA) : qA := (if l < 6 then rec 7 [l, 0] B else B)
def fM_flows_c7 (rec : Nat → List Int → qA → qA) (l x : Int) (B : qA) : qA := (if x < 8 then qlet (qu B 37 x 0) fun A3 => qlet (x + 1) fun v8 => rec 7 [l, ((wI v8))] A3 else rec 19 [l, 0] B)
def fM_flows_c19 (rec : Nat → List Int → qA → qA) (l x : Int) (B : qA) : qA := (if x < 8 then qlet (B 36 x) fun v13 => qlet (fM_drips (6 * x + l) v13 B) fun A15 => qlet (x + 1) fun v21 => rec 19 [l, ((wI v21))] A15 else rec 35 [l, 0] B)
def fM_flows_c35 (rec : Nat → List Int → qA → qA) (l x : Int) (B : qA) : qA := (if x < 8 then qlet (B 37 x) fun v30 => qlet (qu B 36 x v30) fun A32 => qlet (x + 1) fun v37 => rec 35 [l, ((wI v37))] A32 else qlet (l + 1) fun v26 => rec 2 [((wI v26))] B)
def fM_flows_L : Nat → Nat → List Int → qA → qA
  | 0 => fun _ _ B => B
  | nF + 1 => fun k zs B => bif Nat.beq k 2 then (match zs with | [l] => fM_flows_c2 (fM_flows_L nF) l B | _ => B) else bif Nat.beq k 7 then (match zs with | [l, x] => fM_flows_c7 (fM_flows_L nF) l x B | _ => B) else bif Nat.beq k 19 then (match zs with | [l, x] => fM_flows_c19 (fM_flows_L nF) l x B | _ => B) else bif Nat.beq k 35 then (match zs with | [l, x] => fM_flows_c35 (fM_flows_L nF) l x B | _ => B) else B
theorem fM_flows_L2 (nF : Nat) (l : Int) (B : qA) : fM_flows_L (nF + 1) 2 [l] B = fM_flows_c2 (fM_flows_L nF) l B := (congrFun (congrFun (congrFun (fM_flows_L.eq_2 nF) 2) [l]) B).trans (qL1 rfl rfl)
theorem fM_flows_L7 (nF : Nat) (l x : Int) (B : qA) : fM_flows_L (nF + 1) 7 [l, x] B = fM_flows_c7 (fM_flows_L nF) l x B := (congrFun (congrFun (congrFun (fM_flows_L.eq_2 nF) 7) [l, x]) B).trans (qL0 rfl (qL1 rfl rfl))
theorem fM_flows_L19 (nF : Nat) (l x : Int) (B : qA) : fM_flows_L (nF + 1) 19 [l, x] B = fM_flows_c19 (fM_flows_L nF) l x B := (congrFun (congrFun (congrFun (fM_flows_L.eq_2 nF) 19) [l, x]) B).trans (qL0 rfl (qL0 rfl (qL1 rfl rfl)))
theorem fM_flows_L35 (nF : Nat) (l x : Int) (B : qA) : fM_flows_L (nF + 1) 35 [l, x] B = fM_flows_c35 (fM_flows_L nF) l x B := (congrFun (congrFun (congrFun (fM_flows_L.eq_2 nF) 35) [l, x]) B).trans (qL0 rfl (qL0 rfl (qL0 rfl (qL1 rfl rfl))))
def fM_flows (A : qA) : qA := (fM_flows_L 100000) 2 [0] A
def sM_flows : qS := fun as A K => as = [rf 0] ∧ (iva IM A ∧ ivf JM A) ∧ (∀ A' : qA, iva IM A' → ivf JM A' → frm [36, 37, 10] [] A A' → (A' = fM_flows A) → K none A')
theorem okM_flows : okM LM 3 195 sM_flows := by
  refine qmeth [] true [(149, sM_at), (194, sM_drips)] 57 rfl ⟨okM_at.le (by decide), ⟨okM_drips.le (by decide), trivial⟩⟩ ?_
  rintro _ A K hA has ⟨rfl, ⟨i0, j0⟩, hK⟩
  have f0 := frm_0 [36, 37, 10] [] A
  have hT : _ = fM_flows A := (fM_flows.eq_1 A).symm
  refine ⟨Nat.le_of_ble_eq_true rfl, [(2, [(0, 2, 0), (1, 0, 0)], fun zs B nn => match zs with | [l] => iva IM B ∧ ivf JM B ∧ frm [36, 37, 10] [] A B ∧ nn = ((6 - l) * 100 + 90 : Int).toNat ∧ (0 ≤ l) ∧ (l ≤ 6) ∧ (∃ nf : Nat, nn < nf ∧ fM_flows_L nf 2 [l] B = fM_flows A) | _ => False), (7, [(0, 2, 0), (1, 0, 0), (2, 0, 0)], fun zs B nn => match zs with | [l, x] => iva IM B ∧ ivf JM B ∧ frm [36, 37, 10] [] A B ∧ nn = ((6 - l) * 100 + 80 - x : Int).toNat ∧ (0 ≤ x) ∧ (x ≤ 8) ∧ (0 ≤ l) ∧ (l ≤ 5) ∧ (∃ nf : Nat, nn < nf ∧ fM_flows_L nf 7 [l, x] B = fM_flows A) | _ => False), (19, [(0, 2, 0), (1, 0, 0), (2, 0, 0)], fun zs B nn => match zs with | [l, x] => iva IM B ∧ ivf JM B ∧ frm [36, 37, 10] [] A B ∧ nn = ((6 - l) * 100 + 60 - x : Int).toNat ∧ (0 ≤ x) ∧ (x ≤ 8) ∧ (0 ≤ l) ∧ (l ≤ 5) ∧ (∃ nf : Nat, nn < nf ∧ fM_flows_L nf 19 [l, x] B = fM_flows A) | _ => False), (35, [(0, 2, 0), (1, 0, 0), (2, 0, 0)], fun zs B nn => match zs with | [l, x] => iva IM B ∧ ivf JM B ∧ frm [36, 37, 10] [] A B ∧ nn = ((6 - l) * 100 + 40 - x : Int).toNat ∧ (0 ≤ x) ∧ (x ≤ 8) ∧ (0 ≤ l) ∧ (l ≤ 5) ∧ (∃ nf : Nat, nn < nf ∧ fM_flows_L nf 35 [l, x] B = fM_flows A) | _ => False)], ?_, ?_⟩
  · refine ⟨⟨rfl, ?_⟩, ⟨rfl, ?_⟩, ⟨rfl, ?_⟩, ⟨rfl, ?_⟩, trivial⟩
    · refine fun l B mm hB hz hI => ?_
      obtain ⟨i1, j1, f1, hm, c0, c1, ⟨nf, hnf, hT⟩⟩ := hI
      obtain ⟨hz_l, _⟩ := hz
      obtain ⟨ng, rfl⟩ : ∃ k, nf = k + 1 := ⟨nf - 1, by omega⟩
      replace hT := (fM_flows_c2.eq_1 (fM_flows_L ng) l B).symm.trans ((fM_flows_L2 ng l B).symm.trans hT)
      refine And.intro (fun h1 => ?_) (fun h1 => ?_)
      · replace hT := (if_neg (Int.not_lt.mpr h1)).symm.trans hT
        exact hK _ i1 j1 f1 hT
      · replace hT := (if_pos h1).symm.trans hT
        exact Exists.intro ((6 - l) * 100 + 80 - 0 : Int).toNat (And.intro (by first | exact qtn hm (by (try clear hm hnf); omega) | omega) (And.intro i1 (And.intro j1 (And.intro f1 (And.intro rfl (And.intro (by (first | (clear hm hnf; omega) | omega)) (And.intro (by (first | (clear hm hnf; omega) | omega)) (And.intro (by (first | (clear hm hnf; omega) | omega)) (And.intro (by (first | (clear hm hnf; omega) | omega)) (Exists.intro ng (And.intro (by first | exact qtm hm hnf (by (try clear hm hnf); omega) | omega) hT)))))))))))
    · refine fun l x B mm hB hz hI => ?_
      obtain ⟨i1, j1, f1, hm, c0, c1, c2, c3, ⟨nf, hnf, hT⟩⟩ := hI
      obtain ⟨hz_l, hz_x, _⟩ := hz
      obtain ⟨ng, rfl⟩ : ∃ k, nf = k + 1 := ⟨nf - 1, by omega⟩
      replace hT := (fM_flows_c7.eq_1 (fM_flows_L ng) l x B).symm.trans ((fM_flows_L7 ng l x B).symm.trans hT)
      refine And.intro (fun h2 => ?_) (fun h2 => ?_)
      · replace hT := (if_neg (Int.not_lt.mpr h2)).symm.trans hT
        exact Exists.intro ((6 - l) * 100 + 60 - 0 : Int).toNat (And.intro (by first | exact qtn hm (by (try clear hm hnf); omega) | omega) (And.intro i1 (And.intro j1 (And.intro f1 (And.intro rfl (And.intro (by (first | (clear hm hnf; omega) | omega)) (And.intro (by (first | (clear hm hnf; omega) | omega)) (And.intro (by (first | (clear hm hnf; omega) | omega)) (And.intro (by (first | (clear hm hnf; omega) | omega)) (Exists.intro ng (And.intro (by first | exact qtm hm hnf (by (try clear hm hnf); omega) | omega) hT)))))))))))
      · replace hT := (if_pos h2).symm.trans hT
        refine And.intro (by (first | (clear hm hnf; omega) | omega)) (fun A3 e4 => ?_)
        replace hT := qlc e4 hT
        have i5 := iva_st i1 e4 trivial
        have j6 := ivf_sa j1 e4 rfl
        have f7 := frm_s f1 e4 rfl
        refine fun v8 e9 => ?_
        replace hT := qlc e9 hT
        have w10 := wI_rng v8
        have w11 : wI v8 = v8 := wI_id (by (first | (clear hm hnf; omega) | omega))
        exact Exists.intro ((6 - l) * 100 + 80 - ((wI v8)) : Int).toNat (And.intro (by first | exact qtn hm (by (try clear hm hnf); omega) | omega) (And.intro i5 (And.intro j6 (And.intro f7 (And.intro rfl (And.intro (by (first | (clear hm hnf; omega) | omega)) (And.intro (by (first | (clear hm hnf; omega) | omega)) (And.intro (by (first | (clear hm hnf; omega) | omega)) (And.intro (by (first | (clear hm hnf; omega) | omega)) (Exists.intro ng (And.intro (by first | exact qtm hm hnf (by (try clear hm hnf); omega) | omega) hT)))))))))))
    · refine fun l x B mm hB hz hI => ?_
      obtain ⟨i1, j1, f1, hm, c0, c1, c2, c3, ⟨nf, hnf, hT⟩⟩ := hI
      obtain ⟨hz_l, hz_x, _⟩ := hz
      obtain ⟨ng, rfl⟩ : ∃ k, nf = k + 1 := ⟨nf - 1, by omega⟩
      replace hT := (fM_flows_c19.eq_1 (fM_flows_L ng) l x B).symm.trans ((fM_flows_L19 ng l x B).symm.trans hT)
      refine And.intro (fun h12 => ?_) (fun h12 => ?_)
      · replace hT := (if_neg (Int.not_lt.mpr h12)).symm.trans hT
        exact Exists.intro ((6 - l) * 100 + 40 - 0 : Int).toNat (And.intro (by first | exact qtn hm (by (try clear hm hnf); omega) | omega) (And.intro i1 (And.intro j1 (And.intro f1 (And.intro rfl (And.intro (by (first | (clear hm hnf; omega) | omega)) (And.intro (by (first | (clear hm hnf; omega) | omega)) (And.intro (by (first | (clear hm hnf; omega) | omega)) (And.intro (by (first | (clear hm hnf; omega) | omega)) (Exists.intro ng (And.intro (by first | exact qtm hm hnf (by (try clear hm hnf); omega) | omega) hT)))))))))))
      · replace hT := (if_pos h12).symm.trans hT
        refine Exists.intro x (Exists.intro l (And.intro rfl (And.intro (And.intro (by (first | (clear hm hnf; omega) | omega)) (And.intro (by (first | (clear hm hnf; omega) | omega)) (And.intro (by (first | (clear hm hnf; omega) | omega)) (by (first | (clear hm hnf; omega) | omega))))) ?_)))
        refine And.intro (by (first | (clear hm hnf; omega) | omega)) (fun v13 gv13 e14 => ?_)
        replace hT := qlc e14 hT
        refine Exists.intro (6 * x + l) (Exists.intro v13 (And.intro rfl (And.intro (And.intro i1 (And.intro j1 (And.intro (by (first | (clear hm hnf; omega) | omega)) (by (first | (clear hm hnf; omega) | omega))))) (fun A15 i16 j17 f18 g19 => ?_))))
        replace hT := qlc g19 hT
        have f20 := frm_c f1 f18 rfl
        refine fun v21 e22 => ?_
        replace hT := qlc e22 hT
        have w23 := wI_rng v21
        have w24 : wI v21 = v21 := wI_id (by (first | (clear hm hnf; omega) | omega))
        exact Exists.intro ((6 - l) * 100 + 60 - ((wI v21)) : Int).toNat (And.intro (by first | exact qtn hm (by (try clear hm hnf); omega) | omega) (And.intro i16 (And.intro j17 (And.intro f20 (And.intro rfl (And.intro (by (first | (clear hm hnf; omega) | omega)) (And.intro (by (first | (clear hm hnf; omega) | omega)) (And.intro (by (first | (clear hm hnf; omega) | omega)) (And.intro (by (first | (clear hm hnf; omega) | omega)) (Exists.intro ng (And.intro (by first | exact qtm hm hnf (by (try clear hm hnf); omega) | omega) hT)))))))))))
    · refine fun l x B mm hB hz hI => ?_
      obtain ⟨i1, j1, f1, hm, c0, c1, c2, c3, ⟨nf, hnf, hT⟩⟩ := hI
      obtain ⟨hz_l, hz_x, _⟩ := hz
      obtain ⟨ng, rfl⟩ : ∃ k, nf = k + 1 := ⟨nf - 1, by omega⟩
      replace hT := (fM_flows_c35.eq_1 (fM_flows_L ng) l x B).symm.trans ((fM_flows_L35 ng l x B).symm.trans hT)
      refine And.intro (fun h25 => ?_) (fun h25 => ?_)
      · replace hT := (if_neg (Int.not_lt.mpr h25)).symm.trans hT
        refine fun v26 e27 => ?_
        replace hT := qlc e27 hT
        have w28 := wI_rng v26
        have w29 : wI v26 = v26 := wI_id (by (first | (clear hm hnf; omega) | omega))
        exact Exists.intro ((6 - ((wI v26))) * 100 + 90 : Int).toNat (And.intro (by first | exact qtn hm (by (try clear hm hnf); omega) | omega) (And.intro i1 (And.intro j1 (And.intro f1 (And.intro rfl (And.intro (by (first | (clear hm hnf; omega) | omega)) (And.intro (by (first | (clear hm hnf; omega) | omega)) (Exists.intro ng (And.intro (by first | exact qtm hm hnf (by (try clear hm hnf); omega) | omega) hT)))))))))
      · replace hT := (if_pos h25).symm.trans hT
        refine And.intro (by (first | (clear hm hnf; omega) | omega)) (fun v30 gv30 e31 => ?_)
        replace hT := qlc e31 hT
        refine And.intro (by (first | (clear hm hnf; omega) | omega)) (fun A32 e33 => ?_)
        replace hT := qlc e33 hT
        have i34 := iva_st i1 e33 trivial
        have j35 := ivf_sa j1 e33 rfl
        have f36 := frm_s f1 e33 rfl
        refine fun v37 e38 => ?_
        replace hT := qlc e38 hT
        have w39 := wI_rng v37
        have w40 : wI v37 = v37 := wI_id (by (first | (clear hm hnf; omega) | omega))
        exact Exists.intro ((6 - l) * 100 + 40 - ((wI v37)) : Int).toNat (And.intro (by first | exact qtn hm (by (try clear hm hnf); omega) | omega) (And.intro i34 (And.intro j35 (And.intro f36 (And.intro rfl (And.intro (by (first | (clear hm hnf; omega) | omega)) (And.intro (by (first | (clear hm hnf; omega) | omega)) (And.intro (by (first | (clear hm hnf; omega) | omega)) (And.intro (by (first | (clear hm hnf; omega) | omega)) (Exists.intro ng (And.intro (by first | exact qtm hm hnf (by (try clear hm hnf); omega) | omega) hT)))))))))))
  · exact Exists.intro ((6 - 0) * 100 + 90 : Int).toNat (And.intro i0 (And.intro j0 (And.intro f0 (And.intro rfl (And.intro (by (first | (clear hm hnf; omega) | omega)) (And.intro (by (first | (clear hm hnf; omega) | omega)) (Exists.intro 100000 (And.intro (by (first | (clear hm hnf; omega) | omega)) hT))))))))
theorem pM_flows {A : qA} (hA : qokA LM A) (p0 : iva IM A) (p1 : ivf JM A) : qokA LM (fM_flows A) ∧ iva IM (fM_flows A) ∧ ivf JM (fM_flows A) ∧ frm [36, 37, 10] [] A (fM_flows A) := by
  obtain ⟨r, B, hB, _, hk⟩ := okM_ex okM_flows (as := [rf 0]) (K := fun _ B => B = (fM_flows A) ∧ iva IM (fM_flows A) ∧ ivf JM (fM_flows A) ∧ frm [36, 37, 10] [] A (fM_flows A)) hA (qoks_c (show qok (rf _) from trivial) qoks_n) ⟨rfl, ⟨p0, p1⟩, fun A9 i9 j9 f9 x0 => (by rw [← x0]; exact ⟨rfl, i9, j9, f9⟩)⟩
  exact ⟨hk.1 ▸ hB, hk.2⟩
def fM_water_c2 (rec : Nat → List Int → qA → Int × qA) (x : Int) (B : qA) : Int × qA := (if x < 8 then qlet (B 14 x) fun v8 => qlet (qu B 36 x v8) fun A10 => qlet (x + 1) fun v15 => rec 2 [((wI v15))] A10 else qlet (fM_flows B) fun A2 => rec 21 [0, 0] A2)
def fM_water_c21 (rec : Nat → List Int → qA → Int × qA) (s x : Int) (B : qA) : Int × qA := (if x < 8 then qlet (B 17 x) fun v20 => qlet (B 36 x) fun v22 => qlet (v20 + v22) fun v24 => qlet (qu B 17 x (wI v24)) fun A26 => qlet (A26 36 x) fun v32 => qlet (s + v22) fun v35 => qlet (x + 1) fun v37 => rec 21 [((wI v35)), ((wI v37))] A26 else (s, B))
def fM_water_L : Nat → Nat → List Int → qA → Int × qA
  | 0 => fun _ _ B => (0, B)
  | nF + 1 => fun k zs B => bif Nat.beq k 2 then (match zs with | [x] => fM_water_c2 (fM_water_L nF) x B | _ => (0, B)) else bif Nat.beq k 21 then (match zs with | [s, x] => fM_water_c21 (fM_water_L nF) s x B | _ => (0, B)) else (0, B)
theorem fM_water_L2 (nF : Nat) (x : Int) (B : qA) : fM_water_L (nF + 1) 2 [x] B = fM_water_c2 (fM_water_L nF) x B := (congrFun (congrFun (congrFun (fM_water_L.eq_2 nF) 2) [x]) B).trans (qL1 rfl rfl)
theorem fM_water_L21 (nF : Nat) (s x : Int) (B : qA) : fM_water_L (nF + 1) 21 [s, x] B = fM_water_c21 (fM_water_L nF) s x B := (congrFun (congrFun (congrFun (fM_water_L.eq_2 nF) 21) [s, x]) B).trans (qL0 rfl (qL1 rfl rfl))
def fM_water (A : qA) : Int × qA := (fM_water_L 100000) 2 [0] A
def sM_water : qS := fun as A K => as = [rf 0] ∧ (iva IM A ∧ ivf JM A) ∧ (∀ A' : qA, iva IM A' → ivf JM A' → frm [36, 37, 10, 17] [] A A' → ∀ r : Int, rng r → (r = (fM_water A).1) → (A' = (fM_water A).2) → K (some (ni r)) A')
theorem okM_water : okM LM 4 196 sM_water := by
  refine qmeth [] true [(195, sM_flows)] 54 rfl ⟨okM_flows.le (by decide), trivial⟩ ?_
  rintro _ A K hA has ⟨rfl, ⟨i0, j0⟩, hK⟩
  have f0 := frm_0 [36, 37, 10, 17] [] A
  have hT : _ = fM_water A := (fM_water.eq_1 A).symm
  refine ⟨Nat.le_of_ble_eq_true rfl, [(2, [(0, 2, 0), (1, 0, 0)], fun zs B nn => match zs with | [x] => iva IM B ∧ ivf JM B ∧ frm [36, 37, 10, 17] [] A B ∧ nn = (100 - x : Int).toNat ∧ (0 ≤ x) ∧ (x ≤ 8) ∧ (∃ nf : Nat, nn < nf ∧ fM_water_L nf 2 [x] B = fM_water A) | _ => False), (21, [(0, 2, 0), (1, 0, 0), (2, 0, 0)], fun zs B nn => match zs with | [s, x] => iva IM B ∧ ivf JM B ∧ frm [36, 37, 10, 17] [] A B ∧ nn = (8 - x : Int).toNat ∧ (0 ≤ x) ∧ (x ≤ 8) ∧ (∃ nf : Nat, nn < nf ∧ fM_water_L nf 21 [s, x] B = fM_water A) | _ => False)], ?_, ?_⟩
  · refine ⟨⟨rfl, ?_⟩, ⟨rfl, ?_⟩, trivial⟩
    · refine fun x B mm hB hz hI => ?_
      obtain ⟨i1, j1, f1, hm, c0, c1, ⟨nf, hnf, hT⟩⟩ := hI
      obtain ⟨hz_x, _⟩ := hz
      obtain ⟨ng, rfl⟩ : ∃ k, nf = k + 1 := ⟨nf - 1, by omega⟩
      replace hT := (fM_water_c2.eq_1 (fM_water_L ng) x B).symm.trans ((fM_water_L2 ng x B).symm.trans hT)
      refine And.intro (fun h1 => ?_) (fun h1 => ?_)
      · replace hT := (if_neg (Int.not_lt.mpr h1)).symm.trans hT
        refine And.intro rfl (And.intro (And.intro i1 j1) (fun A2 i3 j4 f5 g6 => ?_))
        replace hT := qlc g6 hT
        have f7 := frm_c f1 f5 rfl
        exact Exists.intro (8 - 0 : Int).toNat (And.intro (by first | exact qtn hm (by (try clear hm hnf); omega) | omega) (And.intro i3 (And.intro j4 (And.intro f7 (And.intro rfl (And.intro (by (first | (clear hm hnf; omega) | omega)) (And.intro (by (first | (clear hm hnf; omega) | omega)) (Exists.intro ng (And.intro (by first | exact qtm hm hnf (by (try clear hm hnf); omega) | omega) hT)))))))))
      · replace hT := (if_pos h1).symm.trans hT
        refine And.intro (by (first | (clear hm hnf; omega) | omega)) (fun v8 gv8 e9 => ?_)
        replace hT := qlc e9 hT
        refine And.intro (by (first | (clear hm hnf; omega) | omega)) (fun A10 e11 => ?_)
        replace hT := qlc e11 hT
        have i12 := iva_st i1 e11 trivial
        have j13 := ivf_sa j1 e11 rfl
        have f14 := frm_s f1 e11 rfl
        refine fun v15 e16 => ?_
        replace hT := qlc e16 hT
        have w17 := wI_rng v15
        have w18 : wI v15 = v15 := wI_id (by (first | (clear hm hnf; omega) | omega))
        exact Exists.intro (100 - ((wI v15)) : Int).toNat (And.intro (by first | exact qtn hm (by (try clear hm hnf); omega) | omega) (And.intro i12 (And.intro j13 (And.intro f14 (And.intro rfl (And.intro (by (first | (clear hm hnf; omega) | omega)) (And.intro (by (first | (clear hm hnf; omega) | omega)) (Exists.intro ng (And.intro (by first | exact qtm hm hnf (by (try clear hm hnf); omega) | omega) hT)))))))))
    · refine fun s x B mm hB hz hI => ?_
      obtain ⟨i1, j1, f1, hm, c0, c1, ⟨nf, hnf, hT⟩⟩ := hI
      obtain ⟨hz_s, hz_x, _⟩ := hz
      obtain ⟨ng, rfl⟩ : ∃ k, nf = k + 1 := ⟨nf - 1, by omega⟩
      replace hT := (fM_water_c21.eq_1 (fM_water_L ng) s x B).symm.trans ((fM_water_L21 ng s x B).symm.trans hT)
      refine And.intro (fun h19 => ?_) (fun h19 => ?_)
      · replace hT := (if_neg (Int.not_lt.mpr h19)).symm.trans hT
        exact hK _ i1 j1 f1 _ (by first | assumption | exact ⟨by (first | (clear hm hnf; omega) | omega), by (first | (clear hm hnf; omega) | omega)⟩ | exact wI_rng _ | exact i_rng _ | (subst_vars; exact i_rng _) | exact (hA _ _).2 rfl) (congrArg Prod.fst hT) (congrArg Prod.snd hT)
      · replace hT := (if_pos h19).symm.trans hT
        refine And.intro (by (first | (clear hm hnf; omega) | omega)) (fun v20 gv20 e21 => ?_)
        replace hT := qlc e21 hT
        refine And.intro (by (first | (clear hm hnf; omega) | omega)) (fun v22 gv22 e23 => ?_)
        replace hT := qlc e23 hT
        refine fun v24 e25 => ?_
        replace hT := qlc e25 hT
        have w28 := wI_rng v24
        refine And.intro (by (first | (clear hm hnf; omega) | omega)) (fun A26 e27 => ?_)
        replace hT := qlc e27 hT
        have i29 := iva_st i1 e27 trivial
        have j30 := ivf_sa j1 e27 rfl
        have f31 := frm_s f1 e27 rfl
        refine And.intro (by (first | (clear hm hnf; omega) | omega)) (fun v32 gv32 e33 => ?_)
        replace hT := qlc e33 hT
        have q34 : v22 = v32 := (e33.trans ((congrFun (st_a e27 rfl) _).trans e23.symm)).symm
        subst q34
        refine fun v35 e36 => ?_
        replace hT := qlc e36 hT
        refine fun v37 e38 => ?_
        replace hT := qlc e38 hT
        have w39 := wI_rng v35
        have w40 := wI_rng v37
        have w41 : wI v37 = v37 := wI_id (by (first | (clear hm hnf; omega) | omega))
        exact Exists.intro (8 - ((wI v37)) : Int).toNat (And.intro (by first | exact qtn hm (by (try clear hm hnf); omega) | omega) (And.intro i29 (And.intro j30 (And.intro f31 (And.intro rfl (And.intro (by (first | (clear hm hnf; omega) | omega)) (And.intro (by (first | (clear hm hnf; omega) | omega)) (Exists.intro ng (And.intro (by first | exact qtm hm hnf (by (try clear hm hnf); omega) | omega) hT)))))))))
  · exact Exists.intro (100 - 0 : Int).toNat (And.intro i0 (And.intro j0 (And.intro f0 (And.intro rfl (And.intro (by (first | (clear hm hnf; omega) | omega)) (And.intro (by (first | (clear hm hnf; omega) | omega)) (Exists.intro 100000 (And.intro (by (first | (clear hm hnf; omega) | omega)) hT))))))))
theorem pM_water {A : qA} (hA : qokA LM A) (p0 : iva IM A) (p1 : ivf JM A) : qokA LM (fM_water A).2 ∧ iva IM (fM_water A).2 ∧ ivf JM (fM_water A).2 ∧ frm [36, 37, 10, 17] [] A (fM_water A).2 ∧ rng (fM_water A).1 := by
  obtain ⟨r, B, hB, _, hk⟩ := okM_ex okM_water (as := [rf 0]) (K := fun _ B => B = (fM_water A).2 ∧ iva IM (fM_water A).2 ∧ ivf JM (fM_water A).2 ∧ frm [36, 37, 10, 17] [] A (fM_water A).2 ∧ rng (fM_water A).1) hA (qoks_c (show qok (rf _) from trivial) qoks_n) ⟨rfl, ⟨p0, p1⟩, fun A9 i9 j9 f9 r9 g9 x0 x1 => (by rw [← x1]; (try rw [← x0]); exact ⟨rfl, i9, j9, f9, g9⟩)⟩
  exact ⟨hk.1 ▸ hB, hk.2⟩
def fM_ownLoad (c : Int) (A : qA) : Int := qlet (A 4 c) fun v3 => qlet (10 * v3) fun v5 => qlet (A 8 c) fun v7 => qlet (v5 + v7) fun v9 => qlet (A 9 c) fun v11 => qlet (v9 + v11) fun v13 => qlet (A 10 c) fun v15 => qlet (v13 + v15) fun v17 => (wI v17)
def sM_ownLoad : qS := fun as A K => ∃ c : Int, as = [rf 0, ni c] ∧ (iva IM A ∧ ivf JM A ∧ 0 ≤ c ∧ c ≤ 47) ∧ (∀ r : Int, rng r → (r = fM_ownLoad c A) → K (some (ni r)) A)
theorem okM_ownLoad : okM LM 1 197 sM_ownLoad := by
  refine qmeth [] true [] 28 rfl trivial ?_
  rintro _ A K hA has ⟨c, rfl, ⟨i0, j0, p1, p2⟩, hK⟩
  have rg_c : rng c := has (ni c) (by simp)
  have f0 := frm_0 [] [] A
  have hT : _ = fM_ownLoad c A := (fM_ownLoad.eq_1 c A).symm
  refine ⟨Nat.le_of_ble_eq_true rfl, [], trivial, ?_⟩
  refine And.intro (by (first | (clear hm hnf; omega) | omega)) (fun v3 gv3 e4 => ?_)
  replace hT := qlc e4 hT
  refine fun v5 e6 => ?_
  replace hT := qlc e6 hT
  refine And.intro (by (first | (clear hm hnf; omega) | omega)) (fun v7 gv7 e8 => ?_)
  replace hT := qlc e8 hT
  refine fun v9 e10 => ?_
  replace hT := qlc e10 hT
  refine And.intro (by (first | (clear hm hnf; omega) | omega)) (fun v11 gv11 e12 => ?_)
  replace hT := qlc e12 hT
  refine fun v13 e14 => ?_
  replace hT := qlc e14 hT
  refine And.intro (by (first | (clear hm hnf; omega) | omega)) (fun v15 gv15 e16 => ?_)
  replace hT := qlc e16 hT
  refine fun v17 e18 => ?_
  replace hT := qlc e18 hT
  have w19 := wI_rng v17
  exact hK _ (by first | assumption | exact ⟨by (first | (clear hm hnf; omega) | omega), by (first | (clear hm hnf; omega) | omega)⟩ | exact wI_rng _ | exact i_rng _ | (subst_vars; exact i_rng _) | exact (hA _ _).2 rfl) hT
theorem pM_ownLoad {c : Int} {A : qA} (hA : qokA LM A) (p0 : iva IM A) (p1 : ivf JM A) (p2 : 0 ≤ c) (p3 : c ≤ 47) : rng (fM_ownLoad c A) := by
  obtain ⟨r, B, hB, _, hk⟩ := okM_ex okM_ownLoad (as := [rf 0, ni c]) (K := fun _ B => B = A ∧ rng (fM_ownLoad c A)) hA (qoks_c (show qok (rf _) from trivial) (qoks_c (show rng c from ⟨by (first | (clear hm hnf; omega) | omega), by (first | (clear hm hnf; omega) | omega)⟩) qoks_n)) ⟨c, rfl, ⟨p0, p1, p2, p3⟩, fun r9 g9 x0 => (by rw [← x0]; exact ⟨rfl, g9⟩)⟩
  exact hk.2
def fM_loadOf_c4 (rec : Nat → List Int → qA → Int) (l1 s k : Int) (A : qA) : Int := qlet (qd l1 6) fun v3 => qlet (v3 + 1) fun v6 => qlet (6 * v6) fun v8 => (if k < (wI v8) then qlet (A 1 k) fun v13 => (if v13 = 0 then qlet (s + 0) fun v17 => qlet (k + 1) fun v19 => rec 4 [l1, ((wI v17)), ((wI v19))] A else qlet (fM_ownLoad k A) fun r25 => qlet (s + r25) fun v28 => qlet (k + 1) fun v30 => rec 4 [l1, ((wI v28)), ((wI v30))] A) else s)
def fM_loadOf_L : Nat → Nat → List Int → qA → Int
  | 0 => fun _ _ B => 0
  | nF + 1 => fun k zs B => bif Nat.beq k 4 then (match zs with | [l1, s, k] => fM_loadOf_c4 (fM_loadOf_L nF) l1 s k B | _ => 0) else 0
theorem fM_loadOf_L4 (nF : Nat) (l1 s k : Int) (B : qA) : fM_loadOf_L (nF + 1) 4 [l1, s, k] B = fM_loadOf_c4 (fM_loadOf_L nF) l1 s k B := (congrFun (congrFun (congrFun (fM_loadOf_L.eq_2 nF) 4) [l1, s, k]) B).trans (qL1 rfl rfl)
def fM_loadOf (c : Int) (A : qA) : Int := (fM_loadOf_L 100000) 4 [c, 0, c] A
def sM_loadOf : qS := fun as A K => ∃ c : Int, as = [rf 0, ni c] ∧ (iva IM A ∧ ivf JM A ∧ 0 ≤ c ∧ c ≤ 47) ∧ (∀ r : Int, rng r → (r = fM_loadOf c A) → K (some (ni r)) A)
theorem okM_loadOf : okM LM 2 198 sM_loadOf := by
  refine qmeth [] true [(197, sM_ownLoad)] 36 rfl ⟨okM_ownLoad.le (by decide), trivial⟩ ?_
  rintro _ A K hA has ⟨c, rfl, ⟨i0, j0, p1, p2⟩, hK⟩
  have rg_c : rng c := has (ni c) (by simp)
  have f0 := frm_0 [] [] A
  have hT : _ = fM_loadOf c A := (fM_loadOf.eq_1 c A).symm
  refine ⟨Nat.le_of_ble_eq_true rfl, [(4, [(0, 2, 0), (1, 0, 0), (2, 0, 0), (3, 0, 0)], fun zs B nn => match zs with | [l1, s, k] => A = B ∧ nn = (48 - k : Int).toNat ∧ (l1 = c) ∧ (0 ≤ k) ∧ (k ≤ 48) ∧ (0 ≤ l1) ∧ (l1 ≤ 47) ∧ (∃ nf : Nat, nn < nf ∧ fM_loadOf_L nf 4 [l1, s, k] B = fM_loadOf c A) | _ => False)], ?_, ?_⟩
  · refine ⟨⟨rfl, ?_⟩, trivial⟩
    · refine fun l1 s k B mm hB hz hI => ?_
      obtain ⟨rfl, hm, c0, c1, c2, c3, c4, ⟨nf, hnf, hT⟩⟩ := hI
      obtain ⟨hz_l1, hz_s, hz_k, _⟩ := hz
      obtain ⟨ng, rfl⟩ : ∃ k, nf = k + 1 := ⟨nf - 1, by omega⟩
      replace hT := (fM_loadOf_c4.eq_1 (fM_loadOf_L ng) l1 s k A).symm.trans ((fM_loadOf_L4 ng l1 s k A).symm.trans hT)
      refine And.intro (by (first | (clear hm hnf; omega) | omega)) (fun v3 e4 => ?_)
      replace hT := qlc e4 hT
      have h5 := qd_nn (a := l1) (b := 6) (by (first | (clear hm hnf; omega) | omega))
      refine fun v6 e7 => ?_
      replace hT := qlc e7 hT
      refine fun v8 e9 => ?_
      replace hT := qlc e9 hT
      have w11 := wI_rng v8
      have w12 : wI v8 = v8 := wI_id (by (first | (clear hm hnf; omega) | omega))
      refine And.intro (fun h10 => ?_) (fun h10 => ?_)
      · replace hT := (if_neg (Int.not_lt.mpr h10)).symm.trans hT
        exact hK _ (by first | assumption | exact ⟨by (first | (clear hm hnf; omega) | omega), by (first | (clear hm hnf; omega) | omega)⟩ | exact wI_rng _ | exact i_rng _ | (subst_vars; exact i_rng _) | exact (hA _ _).2 rfl) hT
      · replace hT := (if_pos h10).symm.trans hT
        refine And.intro (by (first | (clear hm hnf; omega) | omega)) (fun v13 gv13 e14 => ?_)
        replace hT := qlc e14 hT
        have b15 := iva_at i0 0 rfl (i := k) (by (first | (clear hm hnf; omega) | omega)) (by (first | (clear hm hnf; omega) | omega))
        refine And.intro (fun h16 => ?_) (fun h16 => ?_)
        · replace hT := (if_pos h16).symm.trans hT
          refine fun v17 e18 => ?_
          replace hT := qlc e18 hT
          refine fun v19 e20 => ?_
          replace hT := qlc e20 hT
          have w21 := wI_rng v17
          have w22 : wI v17 = v17 := wI_id (by (first | (clear hm hnf; omega) | omega))
          have w23 := wI_rng v19
          have w24 : wI v19 = v19 := wI_id (by (first | (clear hm hnf; omega) | omega))
          exact Exists.intro (48 - ((wI v19)) : Int).toNat (And.intro (by first | exact qtn hm (by (try clear hm hnf); omega) | omega) (And.intro rfl (And.intro rfl (And.intro (by (first | (clear hm hnf; omega) | omega)) (And.intro (by (first | (clear hm hnf; omega) | omega)) (And.intro (by (first | (clear hm hnf; omega) | omega)) (And.intro (by (first | (clear hm hnf; omega) | omega)) (And.intro (by (first | (clear hm hnf; omega) | omega)) (Exists.intro ng (And.intro (by first | exact qtm hm hnf (by (try clear hm hnf); omega) | omega) hT))))))))))
        · replace hT := (if_neg h16).symm.trans hT
          refine Exists.intro k (And.intro rfl (And.intro (And.intro i0 (And.intro j0 (And.intro (by (first | (clear hm hnf; omega) | omega)) (by (first | (clear hm hnf; omega) | omega))))) (fun r25 g27 g26 => ?_)))
          replace hT := qlc g26 hT
          clear g26
          refine fun v28 e29 => ?_
          replace hT := qlc e29 hT
          refine fun v30 e31 => ?_
          replace hT := qlc e31 hT
          have w32 := wI_rng v28
          have w33 := wI_rng v30
          have w34 : wI v30 = v30 := wI_id (by (first | (clear hm hnf; omega) | omega))
          exact Exists.intro (48 - ((wI v30)) : Int).toNat (And.intro (by first | exact qtn hm (by (try clear hm hnf); omega) | omega) (And.intro rfl (And.intro rfl (And.intro (by (first | (clear hm hnf; omega) | omega)) (And.intro (by (first | (clear hm hnf; omega) | omega)) (And.intro (by (first | (clear hm hnf; omega) | omega)) (And.intro (by (first | (clear hm hnf; omega) | omega)) (And.intro (by (first | (clear hm hnf; omega) | omega)) (Exists.intro ng (And.intro (by first | exact qtm hm hnf (by (try clear hm hnf); omega) | omega) hT))))))))))
  · exact Exists.intro (48 - c : Int).toNat (And.intro rfl (And.intro rfl (And.intro (by (first | (clear hm hnf; omega) | omega)) (And.intro (by (first | (clear hm hnf; omega) | omega)) (And.intro (by (first | (clear hm hnf; omega) | omega)) (And.intro (by (first | (clear hm hnf; omega) | omega)) (And.intro (by (first | (clear hm hnf; omega) | omega)) (Exists.intro 100000 (And.intro (by (first | (clear hm hnf; omega) | omega)) hT)))))))))
theorem pM_loadOf {c : Int} {A : qA} (hA : qokA LM A) (p0 : iva IM A) (p1 : ivf JM A) (p2 : 0 ≤ c) (p3 : c ≤ 47) : rng (fM_loadOf c A) := by
  obtain ⟨r, B, hB, _, hk⟩ := okM_ex okM_loadOf (as := [rf 0, ni c]) (K := fun _ B => B = A ∧ rng (fM_loadOf c A)) hA (qoks_c (show qok (rf _) from trivial) (qoks_c (show rng c from ⟨by (first | (clear hm hnf; omega) | omega), by (first | (clear hm hnf; omega) | omega)⟩) qoks_n)) ⟨c, rfl, ⟨p0, p1, p2, p3⟩, fun r9 g9 x0 => (by rw [← x0]; exact ⟨rfl, g9⟩)⟩
  exact hk.2
def fM_cell (c l w : Int) (A : qA) : Int := (if (0 ≤ c ∧ c ≤ 7) ∧ (0 ≤ l ∧ l ≤ 5) then (if 0 ≤ w ∧ w ≤ 10 then (if w = 0 then qlet (A 1 (6 * c + l)) fun v35 => (if v35 = 0 then 0 else 1) else qlet (A 1 (6 * c + l)) fun v6 => (if v6 = 0 then (-1000) else (if w = 1 then qlet (A 3 (6 * c + l)) fun v14 => v14 else (if w = 2 then qlet (A 4 (6 * c + l)) fun v16 => v16 else (if w = 3 then qlet (A 5 (6 * c + l)) fun v18 => v18 else (if w = 4 then qlet (A 6 (6 * c + l)) fun v20 => v20 else (if w = 5 then qlet (A 7 (6 * c + l)) fun v22 => v22 else (if w = 6 then qlet (A 8 (6 * c + l)) fun v25 => v25 else (if w = 7 then qlet (A 9 (6 * c + l)) fun v27 => v27 else (if w = 8 then qlet (A 10 (6 * c + l)) fun v29 => v29 else (if w = 9 then qlet (A 2 (6 * c + l)) fun v31 => (if v31 = 0 then 0 else 1) else qlet (fM_loadOf (6 * c + l) A) fun r11 => r11))))))))))) else (-1000)) else (-1000))
def sM_cell : qS := fun as A K => ∃ c l w : Int, as = [rf 0, ni c, ni l, ni w] ∧ (iva IM A ∧ ivf JM A) ∧ (∀ r : Int, rng r → (r = fM_cell c l w A) → K (some (ni r)) A)
theorem okM_cell : okM LM 3 199 sM_cell := by
  refine qmeth [] false [(148, sM_isCell), (145, sM_in), (149, sM_at), (198, sM_loadOf)] 94 rfl ⟨okM_isCell.le (by decide), ⟨okM_in.le (by decide), ⟨okM_at.le (by decide), ⟨okM_loadOf.le (by decide), trivial⟩⟩⟩⟩ ?_
  rintro _ A K hA has ⟨c, l, w, rfl, ⟨i0, j0⟩, hK⟩
  have rg_c : rng c := has (ni c) (by simp)
  have rg_l : rng l := has (ni l) (by simp)
  have rg_w : rng w := has (ni w) (by simp)
  have f0 := frm_0 [] [] A
  have hT : _ = fM_cell c l w A := (fM_cell.eq_1 c l w A).symm
  refine ⟨Nat.le_of_ble_eq_true rfl, [], trivial, ?_⟩
  refine Exists.intro c (Exists.intro l (And.intro rfl (And.intro (fun h1 => ?_) (fun h1 => ?_))))
  · replace hT := (if_pos h1).symm.trans hT
    refine And.intro (fun h2 => by exfalso; omega) (fun h2 => ?_)
    refine Exists.intro w (Exists.intro 0 (Exists.intro 10 (And.intro rfl (And.intro (fun h3 => ?_) (fun h3 => ?_)))))
    · replace hT := (if_pos h3).symm.trans hT
      refine And.intro (fun h4 => ?_) (fun h4 => by exfalso; omega)
      refine Exists.intro c (Exists.intro l (And.intro rfl (And.intro (And.intro (by (first | (clear hm hnf; omega) | omega)) (And.intro (by (first | (clear hm hnf; omega) | omega)) (And.intro (by (first | (clear hm hnf; omega) | omega)) (by (first | (clear hm hnf; omega) | omega))))) ?_)))
      refine And.intro (fun h5 => ?_) (fun h5 => ?_)
      · replace hT := (if_neg h5).symm.trans hT
        refine And.intro (by (first | (clear hm hnf; omega) | omega)) (fun v6 gv6 e7 => ?_)
        replace hT := qlc e7 hT
        have b8 := iva_at i0 0 rfl (i := (6 * c + l)) (by (first | (clear hm hnf; omega) | omega)) (by (first | (clear hm hnf; omega) | omega))
        refine And.intro (fun h9 => ?_) (fun h9 => ?_)
        · replace hT := (if_neg h9).symm.trans hT
          refine (And.intro (fun h10 => ?_) (And.intro (fun h10 => ?_) (And.intro (fun h10 => ?_) (And.intro (fun h10 => ?_) (And.intro (fun h10 => ?_) (And.intro (fun h10 => ?_) (And.intro (fun h10 => ?_) (And.intro (fun h10 => ?_) (And.intro (fun h10 => ?_) (And.intro (fun h10 => ?_) trivial))))))))))
          · replace hT := (if_neg (show ¬ (w = 1) by (first | (clear hm hnf; omega) | omega))).symm.trans hT
            replace hT := (if_neg (show ¬ (w = 2) by (first | (clear hm hnf; omega) | omega))).symm.trans hT
            replace hT := (if_neg (show ¬ (w = 3) by (first | (clear hm hnf; omega) | omega))).symm.trans hT
            replace hT := (if_neg (show ¬ (w = 4) by (first | (clear hm hnf; omega) | omega))).symm.trans hT
            replace hT := (if_neg (show ¬ (w = 5) by (first | (clear hm hnf; omega) | omega))).symm.trans hT
            replace hT := (if_neg (show ¬ (w = 6) by (first | (clear hm hnf; omega) | omega))).symm.trans hT
            replace hT := (if_neg (show ¬ (w = 7) by (first | (clear hm hnf; omega) | omega))).symm.trans hT
            replace hT := (if_neg (show ¬ (w = 8) by (first | (clear hm hnf; omega) | omega))).symm.trans hT
            replace hT := (if_neg (show ¬ (w = 9) by (first | (clear hm hnf; omega) | omega))).symm.trans hT
            refine Exists.intro (6 * c + l) (And.intro rfl (And.intro (And.intro i0 (And.intro j0 (And.intro (by (first | (clear hm hnf; omega) | omega)) (by (first | (clear hm hnf; omega) | omega))))) (fun r11 g13 g12 => ?_)))
            replace hT := qlc g12 hT
            clear g12
            exact hK _ (by first | assumption | exact ⟨by (first | (clear hm hnf; omega) | omega), by (first | (clear hm hnf; omega) | omega)⟩ | exact wI_rng _ | exact i_rng _ | (subst_vars; exact i_rng _) | exact (hA _ _).2 rfl) hT
          · replace hT := (if_pos (show w = 1 by (first | (clear hm hnf; omega) | omega))).symm.trans hT
            refine And.intro (by (first | (clear hm hnf; omega) | omega)) (fun v14 gv14 e15 => ?_)
            replace hT := qlc e15 hT
            exact hK _ (by first | assumption | exact ⟨by (first | (clear hm hnf; omega) | omega), by (first | (clear hm hnf; omega) | omega)⟩ | exact wI_rng _ | exact i_rng _ | (subst_vars; exact i_rng _) | exact (hA _ _).2 rfl) hT
          · replace hT := (if_neg (show ¬ (w = 1) by (first | (clear hm hnf; omega) | omega))).symm.trans hT
            replace hT := (if_pos (show w = 2 by (first | (clear hm hnf; omega) | omega))).symm.trans hT
            refine And.intro (by (first | (clear hm hnf; omega) | omega)) (fun v16 gv16 e17 => ?_)
            replace hT := qlc e17 hT
            exact hK _ (by first | assumption | exact ⟨by (first | (clear hm hnf; omega) | omega), by (first | (clear hm hnf; omega) | omega)⟩ | exact wI_rng _ | exact i_rng _ | (subst_vars; exact i_rng _) | exact (hA _ _).2 rfl) hT
          · replace hT := (if_neg (show ¬ (w = 1) by (first | (clear hm hnf; omega) | omega))).symm.trans hT
            replace hT := (if_neg (show ¬ (w = 2) by (first | (clear hm hnf; omega) | omega))).symm.trans hT
            replace hT := (if_pos (show w = 3 by (first | (clear hm hnf; omega) | omega))).symm.trans hT
            refine And.intro (by (first | (clear hm hnf; omega) | omega)) (fun v18 gv18 e19 => ?_)
            replace hT := qlc e19 hT
            exact hK _ (by first | assumption | exact ⟨by (first | (clear hm hnf; omega) | omega), by (first | (clear hm hnf; omega) | omega)⟩ | exact wI_rng _ | exact i_rng _ | (subst_vars; exact i_rng _) | exact (hA _ _).2 rfl) hT
          · replace hT := (if_neg (show ¬ (w = 1) by (first | (clear hm hnf; omega) | omega))).symm.trans hT
            replace hT := (if_neg (show ¬ (w = 2) by (first | (clear hm hnf; omega) | omega))).symm.trans hT
            replace hT := (if_neg (show ¬ (w = 3) by (first | (clear hm hnf; omega) | omega))).symm.trans hT
            replace hT := (if_pos (show w = 4 by (first | (clear hm hnf; omega) | omega))).symm.trans hT
            refine And.intro (by (first | (clear hm hnf; omega) | omega)) (fun v20 gv20 e21 => ?_)
            replace hT := qlc e21 hT
            exact hK _ (by first | assumption | exact ⟨by (first | (clear hm hnf; omega) | omega), by (first | (clear hm hnf; omega) | omega)⟩ | exact wI_rng _ | exact i_rng _ | (subst_vars; exact i_rng _) | exact (hA _ _).2 rfl) hT
          · replace hT := (if_neg (show ¬ (w = 1) by (first | (clear hm hnf; omega) | omega))).symm.trans hT
            replace hT := (if_neg (show ¬ (w = 2) by (first | (clear hm hnf; omega) | omega))).symm.trans hT
            replace hT := (if_neg (show ¬ (w = 3) by (first | (clear hm hnf; omega) | omega))).symm.trans hT
            replace hT := (if_neg (show ¬ (w = 4) by (first | (clear hm hnf; omega) | omega))).symm.trans hT
            replace hT := (if_pos (show w = 5 by (first | (clear hm hnf; omega) | omega))).symm.trans hT
            refine And.intro (by (first | (clear hm hnf; omega) | omega)) (fun v22 gv22 e23 => ?_)
            replace hT := qlc e23 hT
            have b24 := iva_at i0 2 rfl (i := (6 * c + l)) (by (first | (clear hm hnf; omega) | omega)) (by (first | (clear hm hnf; omega) | omega))
            exact hK _ (by first | assumption | exact ⟨by (first | (clear hm hnf; omega) | omega), by (first | (clear hm hnf; omega) | omega)⟩ | exact wI_rng _ | exact i_rng _ | (subst_vars; exact i_rng _) | exact (hA _ _).2 rfl) hT
          · replace hT := (if_neg (show ¬ (w = 1) by (first | (clear hm hnf; omega) | omega))).symm.trans hT
            replace hT := (if_neg (show ¬ (w = 2) by (first | (clear hm hnf; omega) | omega))).symm.trans hT
            replace hT := (if_neg (show ¬ (w = 3) by (first | (clear hm hnf; omega) | omega))).symm.trans hT
            replace hT := (if_neg (show ¬ (w = 4) by (first | (clear hm hnf; omega) | omega))).symm.trans hT
            replace hT := (if_neg (show ¬ (w = 5) by (first | (clear hm hnf; omega) | omega))).symm.trans hT
            replace hT := (if_pos (show w = 6 by (first | (clear hm hnf; omega) | omega))).symm.trans hT
            refine And.intro (by (first | (clear hm hnf; omega) | omega)) (fun v25 gv25 e26 => ?_)
            replace hT := qlc e26 hT
            exact hK _ (by first | assumption | exact ⟨by (first | (clear hm hnf; omega) | omega), by (first | (clear hm hnf; omega) | omega)⟩ | exact wI_rng _ | exact i_rng _ | (subst_vars; exact i_rng _) | exact (hA _ _).2 rfl) hT
          · replace hT := (if_neg (show ¬ (w = 1) by (first | (clear hm hnf; omega) | omega))).symm.trans hT
            replace hT := (if_neg (show ¬ (w = 2) by (first | (clear hm hnf; omega) | omega))).symm.trans hT
            replace hT := (if_neg (show ¬ (w = 3) by (first | (clear hm hnf; omega) | omega))).symm.trans hT
            replace hT := (if_neg (show ¬ (w = 4) by (first | (clear hm hnf; omega) | omega))).symm.trans hT
            replace hT := (if_neg (show ¬ (w = 5) by (first | (clear hm hnf; omega) | omega))).symm.trans hT
            replace hT := (if_neg (show ¬ (w = 6) by (first | (clear hm hnf; omega) | omega))).symm.trans hT
            replace hT := (if_pos (show w = 7 by (first | (clear hm hnf; omega) | omega))).symm.trans hT
            refine And.intro (by (first | (clear hm hnf; omega) | omega)) (fun v27 gv27 e28 => ?_)
            replace hT := qlc e28 hT
            exact hK _ (by first | assumption | exact ⟨by (first | (clear hm hnf; omega) | omega), by (first | (clear hm hnf; omega) | omega)⟩ | exact wI_rng _ | exact i_rng _ | (subst_vars; exact i_rng _) | exact (hA _ _).2 rfl) hT
          · replace hT := (if_neg (show ¬ (w = 1) by (first | (clear hm hnf; omega) | omega))).symm.trans hT
            replace hT := (if_neg (show ¬ (w = 2) by (first | (clear hm hnf; omega) | omega))).symm.trans hT
            replace hT := (if_neg (show ¬ (w = 3) by (first | (clear hm hnf; omega) | omega))).symm.trans hT
            replace hT := (if_neg (show ¬ (w = 4) by (first | (clear hm hnf; omega) | omega))).symm.trans hT
            replace hT := (if_neg (show ¬ (w = 5) by (first | (clear hm hnf; omega) | omega))).symm.trans hT
            replace hT := (if_neg (show ¬ (w = 6) by (first | (clear hm hnf; omega) | omega))).symm.trans hT
            replace hT := (if_neg (show ¬ (w = 7) by (first | (clear hm hnf; omega) | omega))).symm.trans hT
            replace hT := (if_pos (show w = 8 by (first | (clear hm hnf; omega) | omega))).symm.trans hT
            refine And.intro (by (first | (clear hm hnf; omega) | omega)) (fun v29 gv29 e30 => ?_)
            replace hT := qlc e30 hT
            exact hK _ (by first | assumption | exact ⟨by (first | (clear hm hnf; omega) | omega), by (first | (clear hm hnf; omega) | omega)⟩ | exact wI_rng _ | exact i_rng _ | (subst_vars; exact i_rng _) | exact (hA _ _).2 rfl) hT
          · replace hT := (if_neg (show ¬ (w = 1) by (first | (clear hm hnf; omega) | omega))).symm.trans hT
            replace hT := (if_neg (show ¬ (w = 2) by (first | (clear hm hnf; omega) | omega))).symm.trans hT
            replace hT := (if_neg (show ¬ (w = 3) by (first | (clear hm hnf; omega) | omega))).symm.trans hT
            replace hT := (if_neg (show ¬ (w = 4) by (first | (clear hm hnf; omega) | omega))).symm.trans hT
            replace hT := (if_neg (show ¬ (w = 5) by (first | (clear hm hnf; omega) | omega))).symm.trans hT
            replace hT := (if_neg (show ¬ (w = 6) by (first | (clear hm hnf; omega) | omega))).symm.trans hT
            replace hT := (if_neg (show ¬ (w = 7) by (first | (clear hm hnf; omega) | omega))).symm.trans hT
            replace hT := (if_neg (show ¬ (w = 8) by (first | (clear hm hnf; omega) | omega))).symm.trans hT
            replace hT := (if_pos (show w = 9 by (first | (clear hm hnf; omega) | omega))).symm.trans hT
            refine And.intro (by (first | (clear hm hnf; omega) | omega)) (fun v31 gv31 e32 => ?_)
            replace hT := qlc e32 hT
            have b33 := iva_at i0 1 rfl (i := (6 * c + l)) (by (first | (clear hm hnf; omega) | omega)) (by (first | (clear hm hnf; omega) | omega))
            refine And.intro (fun h34 => ?_) (fun h34 => ?_)
            · replace hT := (if_pos h34).symm.trans hT
              exact hK _ (by first | assumption | exact ⟨by (first | (clear hm hnf; omega) | omega), by (first | (clear hm hnf; omega) | omega)⟩ | exact wI_rng _ | exact i_rng _ | (subst_vars; exact i_rng _) | exact (hA _ _).2 rfl) hT
            · replace hT := (if_neg h34).symm.trans hT
              exact hK _ (by first | assumption | exact ⟨by (first | (clear hm hnf; omega) | omega), by (first | (clear hm hnf; omega) | omega)⟩ | exact wI_rng _ | exact i_rng _ | (subst_vars; exact i_rng _) | exact (hA _ _).2 rfl) hT
        · replace hT := (if_pos h9).symm.trans hT
          exact hK _ (by first | assumption | exact ⟨by (first | (clear hm hnf; omega) | omega), by (first | (clear hm hnf; omega) | omega)⟩ | exact wI_rng _ | exact i_rng _ | (subst_vars; exact i_rng _) | exact (hA _ _).2 rfl) hT
      · replace hT := (if_pos h5).symm.trans hT
        refine And.intro (by (first | (clear hm hnf; omega) | omega)) (fun v35 gv35 e36 => ?_)
        replace hT := qlc e36 hT
        have b37 := iva_at i0 0 rfl (i := (6 * c + l)) (by (first | (clear hm hnf; omega) | omega)) (by (first | (clear hm hnf; omega) | omega))
        refine And.intro (fun h38 => ?_) (fun h38 => ?_)
        · replace hT := (if_pos h38).symm.trans hT
          exact hK _ (by first | assumption | exact ⟨by (first | (clear hm hnf; omega) | omega), by (first | (clear hm hnf; omega) | omega)⟩ | exact wI_rng _ | exact i_rng _ | (subst_vars; exact i_rng _) | exact (hA _ _).2 rfl) hT
        · replace hT := (if_neg h38).symm.trans hT
          exact hK _ (by first | assumption | exact ⟨by (first | (clear hm hnf; omega) | omega), by (first | (clear hm hnf; omega) | omega)⟩ | exact wI_rng _ | exact i_rng _ | (subst_vars; exact i_rng _) | exact (hA _ _).2 rfl) hT
    · replace hT := (if_neg h3).symm.trans hT
      refine And.intro (fun h39 => by exfalso; omega) (fun h39 => ?_)
      exact hK _ (by first | assumption | exact ⟨by (first | (clear hm hnf; omega) | omega), by (first | (clear hm hnf; omega) | omega)⟩ | exact wI_rng _ | exact i_rng _ | (subst_vars; exact i_rng _) | exact (hA _ _).2 rfl) hT
  · replace hT := (if_neg h1).symm.trans hT
    refine And.intro (fun h40 => ?_) (fun h40 => by exfalso; omega)
    exact hK _ (by first | assumption | exact ⟨by (first | (clear hm hnf; omega) | omega), by (first | (clear hm hnf; omega) | omega)⟩ | exact wI_rng _ | exact i_rng _ | (subst_vars; exact i_rng _) | exact (hA _ _).2 rfl) hT
theorem pM_cell {c l w : Int} {A : qA} (hA : qokA LM A) (rg_c : rng c) (rg_l : rng l) (rg_w : rng w) (p0 : iva IM A) (p1 : ivf JM A) : rng (fM_cell c l w A) := by
  obtain ⟨r, B, hB, _, hk⟩ := okM_ex okM_cell (as := [rf 0, ni c, ni l, ni w]) (K := fun _ B => B = A ∧ rng (fM_cell c l w A)) hA (qoks_c (show qok (rf _) from trivial) (qoks_c (rg_c) (qoks_c (rg_l) (qoks_c (rg_w) qoks_n)))) ⟨c, l, w, rfl, ⟨p0, p1⟩, fun r9 g9 x0 => (by rw [← x0]; exact ⟨rfl, g9⟩)⟩
  exact hk.2
