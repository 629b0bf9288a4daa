def sM_reckon : qS := fun as A K => ∃ o x y : Int, as = [ni o, ni x, ni y] ∧ (((o = 5 ∨ o = 6) → y ≠ 0)) ∧ (∀ r : Int, rng r → K (some (ni r)) A)
theorem okM_reckon : okM LM 1 184 sM_reckon := by
  refine qmeth [] true [] 49 rfl trivial ?_
  rintro _ A K hA has ⟨o, x, y, rfl, p1, hK⟩
  have rg_o : rng o := has (ni o) (by simp)
  have rg_x : rng x := has (ni x) (by simp)
  have rg_y : rng y := has (ni y) (by simp)
  refine ⟨Nat.le_of_ble_eq_true rfl, [], trivial, ?_⟩
  refine (And.intro (fun h2 => ?_) (And.intro (fun h2 => ?_) (And.intro (fun h2 => ?_) (And.intro (fun h2 => ?_) (And.intro (fun h2 => ?_) (And.intro (fun h2 => ?_) (And.intro (fun h2 => ?_) (And.intro (fun h2 => ?_) trivial))))))))
  · refine And.intro (fun h3 => ?_) (fun h3 => ?_)
    · exact hK _ (by first | exact wI_rng _ | omega | (exact (hA _ _).2 rfl))
    · exact hK _ (by first | exact wI_rng _ | omega | (exact (hA _ _).2 rfl))
  · refine fun v4 e5 => ?_
    have w6 := wI_rng v4
    exact hK _ (by first | exact wI_rng _ | omega | (exact (hA _ _).2 rfl))
  · refine fun v7 e8 => ?_
    have w9 := wI_rng v7
    exact hK _ (by first | exact wI_rng _ | omega | (exact (hA _ _).2 rfl))
  · refine fun v10 e11 => ?_
    have w12 := wI_rng v10
    exact hK _ (by first | exact wI_rng _ | omega | (exact (hA _ _).2 rfl))
  · refine And.intro (by omega) (fun v13 e14 => ?_)
    have w16 := wI_rng v13
    exact hK _ (by first | exact wI_rng _ | omega | (exact (hA _ _).2 rfl))
  · refine And.intro (by omega) (fun v17 e18 => ?_)
    have h19 := qm_rng (a := x) (b := y) (by omega)
    exact hK _ (by first | exact wI_rng _ | omega | (exact (hA _ _).2 rfl))
  · refine And.intro (fun h20 => ?_) (fun h20 => ?_)
    · exact hK _ (by first | exact wI_rng _ | omega | (exact (hA _ _).2 rfl))
    · exact hK _ (by first | exact wI_rng _ | omega | (exact (hA _ _).2 rfl))
  · refine And.intro (fun h21 => ?_) (fun h21 => ?_)
    · exact hK _ (by first | exact wI_rng _ | omega | (exact (hA _ _).2 rfl))
    · exact hK _ (by first | exact wI_rng _ | omega | (exact (hA _ _).2 rfl))
def sM_comesTo : qS := fun as A K => ∃ f t : Int, as = [rf 0, ni f, ni t] ∧ (iva IM A ∧ ivf JM A ∧ 0 ≤ f ∧ f ≤ 220 ∧ 0 ≤ t ∧ t ≤ 220 ∧ (SEG A f t)) ∧ (∀ A' : qA, iva IM A' → ivf JM A' → frm [34] [] A A' → ∀ r : Int, rng r → K (some (ni r)) A')
theorem okM_comesTo : okM LM 2 185 sM_comesTo := by
  refine qmeth [] true [(184, sM_reckon)] 147 rfl ⟨okM_reckon.le (by decide), trivial⟩ ?_
  rintro _ A K hA has ⟨f, t, rfl, ⟨i0, j0, p1, p2, p3, p4, p5⟩, hK⟩
  have rg_f : rng f := has (ni f) (by simp)
  have rg_t : rng t := has (ni t) (by simp)
  have f0 := frm_0 [34] [] A
  obtain ⟨δ, hδ⟩ := (by assumption : SEG A f t)
  have hδ0 := hδ.1
  have hδ1 := hδ.2.1
  have hδ2 := hδ.2.2.1
  have hδ3 := hδ.2.2.2.1
  refine ⟨Nat.le_of_ble_eq_true rfl, [(10, [(0, 2, 0), (2, 0, 0), (3, 0, 0), (4, 0, 0), (5, 0, 0)], fun zs B nn => match zs with | [l2, n, b, k] => iva IM B ∧ ivf JM B ∧ frm [34] [] A B ∧ nn = (t - k : Int).toNat ∧ (l2 = t) ∧ (0 ≤ b) ∧ (b ≤ 0) ∧ (f ≤ k) ∧ (k ≤ t) ∧ (n = δ k) ∧ (0 ≤ n) ∧ (n ≤ 219) | _ => False)], ?_, ?_⟩
  · refine ⟨⟨rfl, ?_⟩, trivial⟩
    · refine fun l2 n b k B mm hB hz hI => ?_
      obtain ⟨i1, j1, f1, hm, c0, c1, c2, c3, c4, c5, c6, c7⟩ := hI
      obtain ⟨hz_l2, hz_n, hz_b, hz_k, _⟩ := hz
      have h29 : B 29 = A 29 := frm_a f1 rfl
      refine And.intro (fun h13 => ?_) (fun h13 => ?_)
      · refine And.intro (by omega) (fun v14 gv14 e15 => ?_)
        exact hK _ i1 j1 f1 _ (by first | exact wI_rng _ | omega | (exact (hA _ _).2 rfl))
      · have hst : STEP A t δ k := hδ.2.2.2.2 k (by omega) (by omega)
        unfold STEP at hst
        have e29 := congrFun h29 k
        refine And.intro (by omega) (fun v16 gv16 e17 => ?_)
        have b18 := iva_at i1 13 rfl (i := k) (by omega) (by omega)
        have k19 : qn 1048576 = 1048576 := by decide
        refine And.intro (by omega) (fun v20 e21 => ?_)
        have h22 := qd_nn (a := v16) (b := (qn 1048576)) (by omega)
        rw [show qn 1048576 = 1048576 by decide] at h22 e21
        refine And.intro (by omega) (fun v23 gv23 e24 => ?_)
        have b25 := iva_at i1 13 rfl (i := k) (by omega) (by omega)
        have q26 : v16 = v23 := (e24.trans e17.symm).symm
        subst q26
        have k27 : qn 1048576 = 1048576 := by decide
        refine And.intro (by omega) (fun v28 e29 => ?_)
        have h30 := qm_nn (a := v16) (b := (qn 1048576)) (by omega)
        rw [show qn 1048576 = 1048576 by decide] at h30 e29
        refine fun v31 e32 => ?_
        have w34 := wI_rng v20
        have w35 : wI v20 = v20 := wI_id (by omega)
        refine And.intro (fun h33 => ?_) (fun h33 => ?_)
        · have w37 := wI_rng v20
          have w38 : wI v20 = v20 := wI_id (by omega)
          refine And.intro (fun h36 => by exfalso; omega) (fun h36 => ?_)
          refine And.intro (by omega) (fun A39 e40 => ?_)
          have i41 := iva_st i1 e40 trivial
          have j42 := ivf_sa j1 e40 rfl
          have f43 := frm_s f1 e40 rfl
          refine fun v44 e45 => ?_
          have w46 := wI_rng v44
          have w47 : wI v44 = v44 := wI_id (by omega)
          have w48 := wI_rng v31
          have w49 : wI v31 = v31 := wI_id (by omega)
          exact Exists.intro (t - ((wI v31)) : Int).toNat (And.intro (by omega) (And.intro i41 (And.intro j42 (And.intro f43 (And.intro rfl (And.intro (by omega) (And.intro (by omega) (And.intro (by omega) (And.intro (by omega) (And.intro (by omega) (And.intro (by first | omega | (rw [show ((wI v31)) = k + 1 by omega]; omega) | (rw [show ((wI v31)) = A 29 k % 1048576 by omega]; omega)) (And.intro (by omega) (by omega)))))))))))))
        · have w51 := wI_rng v20
          have w52 : wI v20 = v20 := wI_id (by omega)
          refine And.intro (fun h50 => ?_) (fun h50 => ?_)
          · have w54 := wI_rng v20
            have w55 : wI v20 = v20 := wI_id (by omega)
            refine And.intro (fun h53 => ?_) (fun h53 => ?_)
            · have w57 := wI_rng v20
              have w58 : wI v20 = v20 := wI_id (by omega)
              refine And.intro (fun h56 => ?_) (fun h56 => ?_)
              · refine fun v59 e60 => ?_
                refine And.intro (by omega) (fun v61 gv61 e62 => ?_)
                have w64 := wI_rng v20
                have w65 : wI v20 = v20 := wI_id (by omega)
                refine And.intro (fun h63 => ?_) (fun h63 => by exfalso; omega)
                refine And.intro (fun h66 => ?_) (fun h66 => ?_)
                · refine fun v67 e68 => ?_
                  have w69 := wI_rng v67
                  have w70 : wI v67 = v67 := wI_id (by omega)
                  have w71 := wI_rng v31
                  have w72 : wI v31 = v31 := wI_id (by omega)
                  exact Exists.intro (t - ((wI v31)) : Int).toNat (And.intro (by omega) (And.intro i1 (And.intro j1 (And.intro f1 (And.intro rfl (And.intro (by omega) (And.intro (by omega) (And.intro (by omega) (And.intro (by omega) (And.intro (by omega) (And.intro (by first | omega | (rw [show ((wI v31)) = k + 1 by omega]; omega) | (rw [show ((wI v31)) = A 29 k % 1048576 by omega]; omega)) (And.intro (by omega) (by omega)))))))))))))
                · refine fun v73 e74 => ?_
                  have w75 := wI_rng v73
                  have w76 : wI v73 = v73 := wI_id (by omega)
                  exact Exists.intro (t - ((wI v73)) : Int).toNat (And.intro (by omega) (And.intro i1 (And.intro j1 (And.intro f1 (And.intro rfl (And.intro (by omega) (And.intro (by omega) (And.intro (by omega) (And.intro (by omega) (And.intro (by omega) (And.intro (by first | omega | (rw [show ((wI v73)) = k + 1 by omega]; omega) | (rw [show ((wI v73)) = A 29 k % 1048576 by omega]; omega)) (And.intro (by omega) (by omega)))))))))))))
              · have w78 := wI_rng v20
                have w79 : wI v20 = v20 := wI_id (by omega)
                refine And.intro (fun h77 => ?_) (fun h77 => ?_)
                · refine fun v80 e81 => ?_
                  have w83 := wI_rng v20
                  have w84 : wI v20 = v20 := wI_id (by omega)
                  refine And.intro (fun h82 => ?_) (fun h82 => ?_)
                  · refine And.intro (by omega) (fun v85 gv85 e86 => ?_)
                    refine And.intro (fun h87 => ?_) (fun h87 => ?_)
                    · refine fun v88 e89 => ?_
                      refine fun v90 e91 => ?_
                      refine And.intro (by omega) (fun v92 gv92 e93 => ?_)
                      refine And.intro (by omega) (fun v94 gv94 e95 => ?_)
                      have q96 : v85 = v94 := (e95.trans e86.symm).symm
                      subst q96
                      have w97 := wI_rng v20
                      have w98 : wI v20 = v20 := wI_id (by omega)
                      refine Exists.intro (wI v20) (Exists.intro v92 (Exists.intro v85 (And.intro rfl (And.intro (by first | assumption | omega | simp_all) (fun r99 g100 => ?_)))))
                      refine And.intro (by omega) (fun A101 e102 => ?_)
                      have i103 := iva_st i1 e102 trivial
                      have j104 := ivf_sa j1 e102 rfl
                      have f105 := frm_s f1 e102 rfl
                      have w106 := wI_rng v80
                      have w107 : wI v80 = v80 := wI_id (by omega)
                      have w108 := wI_rng v31
                      have w109 : wI v31 = v31 := wI_id (by omega)
                      exact Exists.intro (t - ((wI v31)) : Int).toNat (And.intro (by omega) (And.intro i103 (And.intro j104 (And.intro f105 (And.intro rfl (And.intro (by omega) (And.intro (by omega) (And.intro (by omega) (And.intro (by omega) (And.intro (by omega) (And.intro (by first | omega | (rw [show ((wI v31)) = k + 1 by omega]; omega) | (rw [show ((wI v31)) = A 29 k % 1048576 by omega]; omega)) (And.intro (by omega) (by omega)))))))))))))
                    · exact hK _ i1 j1 f1 _ (by first | exact wI_rng _ | omega | (exact (hA _ _).2 rfl))
                  · have w111 := wI_rng v20
                    have w112 : wI v20 = v20 := wI_id (by omega)
                    refine And.intro (fun h110 => ?_) (fun h110 => ?_)
                    · refine fun v113 e114 => ?_
                      refine fun v115 e116 => ?_
                      refine And.intro (by omega) (fun v117 gv117 e118 => ?_)
                      refine And.intro (by omega) (fun v119 gv119 e120 => ?_)
                      have w121 := wI_rng v20
                      have w122 : wI v20 = v20 := wI_id (by omega)
                      refine Exists.intro (wI v20) (Exists.intro v117 (Exists.intro v119 (And.intro rfl (And.intro (by first | assumption | omega | simp_all) (fun r123 g124 => ?_)))))
                      refine And.intro (by omega) (fun A125 e126 => ?_)
                      have i127 := iva_st i1 e126 trivial
                      have j128 := ivf_sa j1 e126 rfl
                      have f129 := frm_s f1 e126 rfl
                      have w130 := wI_rng v80
                      have w131 : wI v80 = v80 := wI_id (by omega)
                      have w132 := wI_rng v31
                      have w133 : wI v31 = v31 := wI_id (by omega)
                      exact Exists.intro (t - ((wI v31)) : Int).toNat (And.intro (by omega) (And.intro i127 (And.intro j128 (And.intro f129 (And.intro rfl (And.intro (by omega) (And.intro (by omega) (And.intro (by omega) (And.intro (by omega) (And.intro (by omega) (And.intro (by first | omega | (rw [show ((wI v31)) = k + 1 by omega]; omega) | (rw [show ((wI v31)) = A 29 k % 1048576 by omega]; omega)) (And.intro (by omega) (by omega)))))))))))))
                    · refine And.intro (by omega) (fun v134 gv134 e135 => ?_)
                      refine And.intro (fun h136 => ?_) (fun h136 => ?_)
                      · refine fun v137 e138 => ?_
                        refine fun v139 e140 => ?_
                        refine And.intro (by omega) (fun v141 gv141 e142 => ?_)
                        refine And.intro (by omega) (fun v143 gv143 e144 => ?_)
                        have q145 : v134 = v143 := (e144.trans e135.symm).symm
                        subst q145
                        have w146 := wI_rng v20
                        have w147 : wI v20 = v20 := wI_id (by omega)
                        refine Exists.intro (wI v20) (Exists.intro v141 (Exists.intro v134 (And.intro rfl (And.intro (by first | assumption | omega | simp_all) (fun r148 g149 => ?_)))))
                        refine And.intro (by omega) (fun A150 e151 => ?_)
                        have i152 := iva_st i1 e151 trivial
                        have j153 := ivf_sa j1 e151 rfl
                        have f154 := frm_s f1 e151 rfl
                        have w155 := wI_rng v80
                        have w156 : wI v80 = v80 := wI_id (by omega)
                        have w157 := wI_rng v31
                        have w158 : wI v31 = v31 := wI_id (by omega)
                        exact Exists.intro (t - ((wI v31)) : Int).toNat (And.intro (by omega) (And.intro i152 (And.intro j153 (And.intro f154 (And.intro rfl (And.intro (by omega) (And.intro (by omega) (And.intro (by omega) (And.intro (by omega) (And.intro (by omega) (And.intro (by first | omega | (rw [show ((wI v31)) = k + 1 by omega]; omega) | (rw [show ((wI v31)) = A 29 k % 1048576 by omega]; omega)) (And.intro (by omega) (by omega)))))))))))))
                      · exact hK _ i1 j1 f1 _ (by first | exact wI_rng _ | omega | (exact (hA _ _).2 rfl))
                · refine fun v159 e160 => ?_
                  refine And.intro (by omega) (fun v161 gv161 e162 => ?_)
                  have w164 := wI_rng v20
                  have w165 : wI v20 = v20 := wI_id (by omega)
                  refine And.intro (fun h163 => by exfalso; omega) (fun h163 => ?_)
                  refine And.intro (fun h166 => ?_) (fun h166 => ?_)
                  · refine fun v167 e168 => ?_
                    have w169 := wI_rng v167
                    have w170 : wI v167 = v167 := wI_id (by omega)
                    have w171 := wI_rng v31
                    have w172 : wI v31 = v31 := wI_id (by omega)
                    exact Exists.intro (t - ((wI v31)) : Int).toNat (And.intro (by omega) (And.intro i1 (And.intro j1 (And.intro f1 (And.intro rfl (And.intro (by omega) (And.intro (by omega) (And.intro (by omega) (And.intro (by omega) (And.intro (by omega) (And.intro (by first | omega | (rw [show ((wI v31)) = k + 1 by omega]; omega) | (rw [show ((wI v31)) = A 29 k % 1048576 by omega]; omega)) (And.intro (by omega) (by omega)))))))))))))
                  · refine fun v173 e174 => ?_
                    have w175 := wI_rng v173
                    have w176 : wI v173 = v173 := wI_id (by omega)
                    exact Exists.intro (t - ((wI v173)) : Int).toNat (And.intro (by omega) (And.intro i1 (And.intro j1 (And.intro f1 (And.intro rfl (And.intro (by omega) (And.intro (by omega) (And.intro (by omega) (And.intro (by omega) (And.intro (by omega) (And.intro (by first | omega | (rw [show ((wI v173)) = k + 1 by omega]; omega) | (rw [show ((wI v173)) = A 29 k % 1048576 by omega]; omega)) (And.intro (by omega) (by omega)))))))))))))
            · refine fun v177 e178 => ?_
              refine fun v179 e180 => ?_
              refine And.intro (by omega) (fun v181 gv181 e182 => ?_)
              refine fun v183 e184 => ?_
              have w187 := wI_rng v183
              refine And.intro (by omega) (fun A185 e186 => ?_)
              have i188 := iva_st i1 e186 trivial
              have j189 := ivf_sa j1 e186 rfl
              have f190 := frm_s f1 e186 rfl
              have w191 := wI_rng v31
              have w192 : wI v31 = v31 := wI_id (by omega)
              exact Exists.intro (t - ((wI v31)) : Int).toNat (And.intro (by omega) (And.intro i188 (And.intro j189 (And.intro f190 (And.intro rfl (And.intro (by omega) (And.intro (by omega) (And.intro (by omega) (And.intro (by omega) (And.intro (by omega) (And.intro (by first | omega | (rw [show ((wI v31)) = k + 1 by omega]; omega) | (rw [show ((wI v31)) = A 29 k % 1048576 by omega]; omega)) (And.intro (by omega) (by omega)))))))))))))
          · have w194 := wI_rng v20
            have w195 : wI v20 = v20 := wI_id (by omega)
            refine And.intro (fun h193 => ?_) (fun h193 => by exfalso; omega)
            refine And.intro (by omega) (fun v196 gv196 e197 => ?_)
            refine And.intro (by omega) (fun A198 e199 => ?_)
            have i200 := iva_st i1 e199 trivial
            have j201 := ivf_sa j1 e199 rfl
            have f202 := frm_s f1 e199 rfl
            refine fun v203 e204 => ?_
            have w205 := wI_rng v203
            have w206 : wI v203 = v203 := wI_id (by omega)
            have w207 := wI_rng v31
            have w208 : wI v31 = v31 := wI_id (by omega)
            exact Exists.intro (t - ((wI v31)) : Int).toNat (And.intro (by omega) (And.intro i200 (And.intro j201 (And.intro f202 (And.intro rfl (And.intro (by omega) (And.intro (by omega) (And.intro (by omega) (And.intro (by omega) (And.intro (by omega) (And.intro (by first | omega | (rw [show ((wI v31)) = k + 1 by omega]; omega) | (rw [show ((wI v31)) = A 29 k % 1048576 by omega]; omega)) (And.intro (by omega) (by omega)))))))))))))
  · refine And.intro (by omega) (fun v6 e7 => ?_)
    have h8 := qd_nn (a := f) (b := 220) (by omega)
    refine fun v9 e10 => ?_
    have w11 := wI_rng v9
    have w12 : wI v9 = v9 := wI_id (by omega)
    exact Exists.intro (t - f : Int).toNat (And.intro i0 (And.intro j0 (And.intro f0 (And.intro rfl (And.intro (by omega) (And.intro (by omega) (And.intro (by omega) (And.intro (by omega) (And.intro (by omega) (And.intro (by first | omega | (rw [show f = k + 1 by omega]; omega) | (rw [show f = A 29 k % 1048576 by omega]; omega)) (And.intro (by omega) (by omega))))))))))))
def sM_told : qS := fun as A K => ∃ l h : Int, as = [rf 0, ni l, ni h] ∧ (iva IM A ∧ ivf JM A ∧ 0 ≤ h ∧ h ≤ 1000 ∧ (WF A)) ∧ (∀ A' : qA, iva IM A' → ivf JM A' → frm [34] [] A A' → ∀ r : Int, 0 ≤ r → r ≤ 1000 → (r ≤ h) → K (some (ni r)) A')
theorem okM_told : okM LM 3 186 sM_told := by
  refine qmeth [] false [(185, sM_comesTo)] 57 rfl ⟨okM_comesTo.le (by decide), trivial⟩ ?_
  rintro _ A K hA has ⟨l, h, rfl, ⟨i0, j0, p1, p2, p3⟩, hK⟩
  have rg_l : rng l := has (ni l) (by simp)
  have rg_h : rng h := has (ni h) (by simp)
  have f0 := frm_0 [34] [] A
  refine ⟨Nat.le_of_ble_eq_true rfl, [(2, [(0, 2, 0), (1, 0, 0), (2, 0, 0), (3, 0, 0)], fun zs B nn => match zs with | [l1, l2, q] => iva IM B ∧ ivf JM B ∧ frm [34] [] A B ∧ nn = (14 - q : Int).toNat ∧ (l1 = l) ∧ (l2 = h) ∧ (0 ≤ q) ∧ (q ≤ 14) | _ => False)], ?_, ?_⟩
  · refine ⟨⟨rfl, ?_⟩, trivial⟩
    · refine fun l1 l2 q B mm hB hz hI => ?_
      obtain ⟨i1, j1, f1, hm, c0, c1, c2, c3⟩ := hI
      obtain ⟨hz_l1, hz_l2, hz_q, _⟩ := hz
      refine fun v4 gv4 e5 => ?_
      have b6 := ivf_at j1 3 rfl
      refine And.intro (fun h7 => ?_) (fun h7 => ?_)
      · exact hK _ i1 j1 f1 _ (by omega) (by omega) (by first | assumption | omega | simp_all)
      · refine And.intro (by omega) (fun v8 gv8 e9 => ?_)
        refine And.intro (fun h10 => ?_) (fun h10 => ?_)
        · refine fun v11 e12 => ?_
          exact And.intro (by omega) (Exists.intro (14 - v11 : Int).toNat (And.intro (by omega) (And.intro i1 (And.intro j1 (And.intro f1 (And.intro rfl (And.intro (by omega) (And.intro (by omega) (And.intro (by omega) (by omega))))))))))
        · refine And.intro (by omega) (fun v13 gv13 e14 => ?_)
          have b15 := iva_at i1 31 rfl (i := q) (by omega) (by omega)
          refine And.intro (by omega) (fun v16 gv16 e17 => ?_)
          have b18 := iva_at i1 32 rfl (i := q) (by omega) (by omega)
          have hwf := (WF_fr p3 f1 rfl) q (by omega) (by omega)
          refine Exists.intro v13 (Exists.intro v16 (And.intro rfl (And.intro (And.intro i1 (And.intro j1 (And.intro (by omega) (And.intro (by omega) (And.intro (by omega) (And.intro (by omega) (by first | (subst_vars; exact hwf.2) | (subst_vars; exact hwf.1)))))))) (fun A19 i20 j21 f22 r23 g24 => ?_))))
          have f25 := frm_c f1 f22 rfl
          refine And.intro (fun h26 => ?_) (fun h26 => ?_)
          · refine And.intro (by omega) (fun v27 gv27 e28 => ?_)
            have b29 := iva_at i20 30 rfl (i := q) (by omega) (by omega)
            refine And.intro (by omega) (fun v30 gv30 e31 => ?_)
            have b32 := iva_at i20 31 rfl (i := q) (by omega) (by omega)
            have q33 : v13 = v30 := (e31.trans ((congrFun (frm_a f22 rfl) _).trans e14.symm)).symm
            subst q33
            have hwf := (WF_fr p3 f25 rfl) q (by omega) (by have q9 := frm_f f22 (r := 0) (j := 35) rfl; omega)
            rw [frm_a f22 (r := 32) rfl] at hwf
            refine Exists.intro v27 (Exists.intro v13 (And.intro rfl (And.intro (And.intro i20 (And.intro j21 (And.intro (by omega) (And.intro (by omega) (And.intro (by omega) (And.intro (by omega) (by first | (subst_vars; exact hwf.2) | (subst_vars; exact hwf.1)))))))) (fun A34 i35 j36 f37 r38 g39 => ?_))))
            have f40 := frm_c f25 f37 rfl
            refine And.intro (fun h41 => ?_) (fun h41 => ?_)
            · refine And.intro (fun h42 => ?_) (fun h42 => ?_)
              · exact hK _ i35 j36 f40 _ (by omega) (by omega) (by first | assumption | omega | simp_all)
              · exact hK _ i35 j36 f40 _ (by omega) (by omega) (by first | assumption | omega | simp_all)
            · exact hK _ i35 j36 f40 _ (by omega) (by omega) (by first | assumption | omega | simp_all)
          · refine fun v43 e44 => ?_
            exact And.intro (by omega) (Exists.intro (14 - v43 : Int).toNat (And.intro (by omega) (And.intro i20 (And.intro j21 (And.intro f25 (And.intro rfl (And.intro (by omega) (And.intro (by omega) (And.intro (by omega) (by omega))))))))))
  · exact Exists.intro (14 - 0 : Int).toNat (And.intro i0 (And.intro j0 (And.intro f0 (And.intro rfl (And.intro (by omega) (And.intro (by omega) (And.intro (by omega) (by omega))))))))
def sM_feelsCell : qS := fun as A K => ∃ c f w : Int, as = [rf 0, ni c, ni f, ni w] ∧ (iva IM A ∧ ivf JM A ∧ 0 ≤ c ∧ c ≤ 47) ∧ (∀ A' : qA, iva IM A' → ivf JM A' → frm [35] [] A A' → K none A')
theorem okM_feelsCell : okM LM 1 187 sM_feelsCell := by
  refine qmeth [] false [] 107 rfl trivial ?_
  rintro _ A K hA has ⟨c, f, w, rfl, ⟨i0, j0, p1, p2⟩, hK⟩
  have rg_c : rng c := has (ni c) (by simp)
  have rg_f : rng f := has (ni f) (by simp)
  have rg_w : rng w := has (ni w) (by simp)
  have f0 := frm_0 [35] [] A
  refine ⟨Nat.le_of_ble_eq_true rfl, [], trivial, ?_⟩
  refine And.intro (by omega) (fun v3 e4 => ?_)
  have h5 := qd_nn (a := c) (b := 6) (by omega)
  refine And.intro (by omega) (And.intro (by omega) (fun A6 e7 => ?_))
  have i8 := iva_st i0 e7 trivial
  have j9 := ivf_sa j0 e7 rfl
  have f10 := frm_s f0 e7 rfl
  refine And.intro (by omega) (fun v11 e12 => ?_)
  have h13 := qm_nn (a := c) (b := 6) (by omega)
  refine And.intro (by omega) (fun A14 e15 => ?_)
  have i16 := iva_st i8 e15 trivial
  have j17 := ivf_sa j9 e15 rfl
  have f18 := frm_s f10 e15 rfl
  refine And.intro (by omega) (fun v19 gv19 e20 => ?_)
  have b21 := iva_at i16 0 rfl (i := c) (by omega) (by omega)
  refine And.intro (fun h22 => ?_) (fun h22 => ?_)
  · refine And.intro (by omega) (fun A23 e24 => ?_)
    have i25 := iva_st i16 e24 trivial
    have j26 := ivf_sa j17 e24 rfl
    have f27 := frm_s f18 e24 rfl
    refine And.intro (by omega) (fun v28 gv28 e29 => ?_)
    have b30 := iva_at i25 0 rfl (i := c) (by omega) (by omega)
    have q31 : v19 = v28 := (e29.trans ((congrFun (st_a e24 rfl) _).trans e20.symm)).symm
    subst q31
    refine And.intro (fun h32 => ?_) (fun h32 => by exfalso; omega)
    refine And.intro (by omega) (fun A33 e34 => ?_)
    have i35 := iva_st i25 e34 trivial
    have j36 := ivf_sa j26 e34 rfl
    have f37 := frm_s f27 e34 rfl
    refine And.intro (by omega) (fun v38 gv38 e39 => ?_)
    have b40 := iva_at i35 0 rfl (i := c) (by omega) (by omega)
    have q41 : v19 = v38 := (e39.trans ((congrFun (st_a e34 rfl) _).trans e29.symm)).symm
    subst q41
    refine And.intro (fun h42 => ?_) (fun h42 => by exfalso; omega)
    refine And.intro (by omega) (fun A43 e44 => ?_)
    have i45 := iva_st i35 e44 trivial
    have j46 := ivf_sa j36 e44 rfl
    have f47 := frm_s f37 e44 rfl
    refine And.intro (by omega) (fun v48 gv48 e49 => ?_)
    have b50 := iva_at i45 0 rfl (i := c) (by omega) (by omega)
    have q51 : v19 = v48 := (e49.trans ((congrFun (st_a e44 rfl) _).trans e39.symm)).symm
    subst q51
    refine And.intro (fun h52 => ?_) (fun h52 => by exfalso; omega)
    refine And.intro (by omega) (fun A53 e54 => ?_)
    have i55 := iva_st i45 e54 trivial
    have j56 := ivf_sa j46 e54 rfl
    have f57 := frm_s f47 e54 rfl
    refine fun v58 gv58 e59 => ?_
    refine And.intro (by omega) (fun A60 e61 => ?_)
    have i62 := iva_st i55 e61 trivial
    have j63 := ivf_sa j56 e61 rfl
    have f64 := frm_s f57 e61 rfl
    refine And.intro (by omega) (fun v65 e66 => ?_)
    have h67 := qd_nn (a := c) (b := 6) (by omega)
    refine And.intro (by omega) (fun v68 gv68 e69 => ?_)
    have b70 := iva_at i62 6 rfl (i := v65) (by omega) (by omega)
    refine And.intro (by omega) (fun A71 e72 => ?_)
    have i73 := iva_st i62 e72 trivial
    have j74 := ivf_sa j63 e72 rfl
    have f75 := frm_s f64 e72 rfl
    refine And.intro (by omega) (fun A76 e77 => ?_)
    have i78 := iva_st i73 e77 trivial
    have j79 := ivf_sa j74 e77 rfl
    have f80 := frm_s f75 e77 rfl
    refine And.intro (by omega) (fun A81 e82 => ?_)
    have i83 := iva_st i78 e82 trivial
    have j84 := ivf_sa j79 e82 rfl
    have f85 := frm_s f80 e82 rfl
    exact hK _ i83 j84 f85
  · refine And.intro (by omega) (fun v86 gv86 e87 => ?_)
    refine And.intro (by omega) (fun A88 e89 => ?_)
    have i90 := iva_st i16 e89 trivial
    have j91 := ivf_sa j17 e89 rfl
    have f92 := frm_s f18 e89 rfl
    refine And.intro (by omega) (fun v93 gv93 e94 => ?_)
    have b95 := iva_at i90 0 rfl (i := c) (by omega) (by omega)
    have q96 : v19 = v93 := (e94.trans ((congrFun (st_a e89 rfl) _).trans e20.symm)).symm
    subst q96
    refine And.intro (fun h97 => by exfalso; omega) (fun h97 => ?_)
    refine And.intro (by omega) (fun v98 gv98 e99 => ?_)
    refine And.intro (by omega) (fun A100 e101 => ?_)
    have i102 := iva_st i90 e101 trivial
    have j103 := ivf_sa j91 e101 rfl
    have f104 := frm_s f92 e101 rfl
    refine And.intro (by omega) (fun v105 gv105 e106 => ?_)
    have b107 := iva_at i102 0 rfl (i := c) (by omega) (by omega)
    have q108 : v19 = v105 := (e106.trans ((congrFun (st_a e101 rfl) _).trans e94.symm)).symm
    subst q108
    refine And.intro (fun h109 => by exfalso; omega) (fun h109 => ?_)
    refine And.intro (by omega) (fun v110 gv110 e111 => ?_)
    refine And.intro (by omega) (fun A112 e113 => ?_)
    have i114 := iva_st i102 e113 trivial
    have j115 := ivf_sa j103 e113 rfl
    have f116 := frm_s f104 e113 rfl
    refine And.intro (by omega) (fun v117 gv117 e118 => ?_)
    have b119 := iva_at i114 0 rfl (i := c) (by omega) (by omega)
    have q120 : v19 = v117 := (e118.trans ((congrFun (st_a e113 rfl) _).trans e106.symm)).symm
    subst q120
    refine And.intro (fun h121 => by exfalso; omega) (fun h121 => ?_)
    refine And.intro (by omega) (fun v122 gv122 e123 => ?_)
    refine And.intro (by omega) (fun A124 e125 => ?_)
    have i126 := iva_st i114 e125 trivial
    have j127 := ivf_sa j115 e125 rfl
    have f128 := frm_s f116 e125 rfl
    refine fun v129 gv129 e130 => ?_
    refine And.intro (by omega) (fun A131 e132 => ?_)
    have i133 := iva_st i126 e132 trivial
    have j134 := ivf_sa j127 e132 rfl
    have f135 := frm_s f128 e132 rfl
    refine And.intro (by omega) (fun v136 e137 => ?_)
    have h138 := qd_nn (a := c) (b := 6) (by omega)
    refine And.intro (by omega) (fun v139 gv139 e140 => ?_)
    have b141 := iva_at i133 6 rfl (i := v136) (by omega) (by omega)
    refine And.intro (by omega) (fun A142 e143 => ?_)
    have i144 := iva_st i133 e143 trivial
    have j145 := ivf_sa j134 e143 rfl
    have f146 := frm_s f135 e143 rfl
    refine And.intro (by omega) (fun A147 e148 => ?_)
    have i149 := iva_st i144 e148 trivial
    have j150 := ivf_sa j145 e148 rfl
    have f151 := frm_s f146 e148 rfl
    refine And.intro (by omega) (fun A152 e153 => ?_)
    have i154 := iva_st i149 e153 trivial
    have j155 := ivf_sa j150 e153 rfl
    have f156 := frm_s f151 e153 rfl
    exact hK _ i154 j155 f156
def sM_feelsCrop : qS := fun as A K => ∃ k w r p : Int, as = [rf 0, ni k, ni w, ni r, ni p] ∧ (iva IM A ∧ ivf JM A ∧ 0 ≤ r ∧ r ≤ 1 ∧ 0 ≤ p ∧ p ≤ 1) ∧ (∀ A' : qA, iva IM A' → ivf JM A' → frm [35] [] A A' → K none A')
theorem okM_feelsCrop : okM LM 1 188 sM_feelsCrop := by
  refine qmeth [] false [] 35 rfl trivial ?_
  rintro _ A K hA has ⟨k, w, r, p, rfl, ⟨i0, j0, p1, p2, p3, p4⟩, hK⟩
  have rg_k : rng k := has (ni k) (by simp)
  have rg_w : rng w := has (ni w) (by simp)
  have rg_r : rng r := has (ni r) (by simp)
  have rg_p : rng p := has (ni p) (by simp)
  have f0 := frm_0 [35] [] A
  refine ⟨Nat.le_of_ble_eq_true rfl, [], trivial, ?_⟩
  refine And.intro (by omega) (fun A5 e6 => ?_)
  have i7 := iva_st i0 e6 trivial
  have j8 := ivf_sa j0 e6 rfl
  have f9 := frm_s f0 e6 rfl
  refine And.intro (by omega) (fun A10 e11 => ?_)
  have i12 := iva_st i7 e11 trivial
  have j13 := ivf_sa j8 e11 rfl
  have f14 := frm_s f9 e11 rfl
  refine And.intro (fun h15 => ?_) (fun h15 => ?_)
  · refine And.intro (by omega) (fun A16 e17 => ?_)
    have i18 := iva_st i12 e17 trivial
    have j19 := ivf_sa j13 e17 rfl
    have f20 := frm_s f14 e17 rfl
    refine And.intro (fun h21 => ?_) (fun h21 => ?_)
    · refine And.intro (by omega) (fun A22 e23 => ?_)
      have i24 := iva_st i18 e23 trivial
      have j25 := ivf_sa j19 e23 rfl
      have f26 := frm_s f20 e23 rfl
      exact hK _ i24 j25 f26
    · refine And.intro (by omega) (fun A27 e28 => ?_)
      have i29 := iva_st i18 e28 trivial
      have j30 := ivf_sa j19 e28 rfl
      have f31 := frm_s f20 e28 rfl
      exact hK _ i29 j30 f31
  · refine And.intro (by omega) (fun A32 e33 => ?_)
    have i34 := iva_st i12 e33 trivial
    have j35 := ivf_sa j13 e33 rfl
    have f36 := frm_s f14 e33 rfl
    refine And.intro (fun h37 => ?_) (fun h37 => ?_)
    · refine And.intro (by omega) (fun A38 e39 => ?_)
      have i40 := iva_st i34 e39 trivial
      have j41 := ivf_sa j35 e39 rfl
      have f42 := frm_s f36 e39 rfl
      exact hK _ i40 j41 f42
    · refine And.intro (by omega) (fun A43 e44 => ?_)
      have i45 := iva_st i34 e44 trivial
      have j46 := ivf_sa j35 e44 rfl
      have f47 := frm_s f36 e44 rfl
      exact hK _ i45 j46 f47
def sM_isRipe : qS := fun as A K => ∃ c : Int, as = [rf 0, ni c] ∧ (iva IM A ∧ ivf JM A ∧ 0 ≤ c ∧ c ≤ 47) ∧ (∀ r : Int, 0 ≤ r → r ≤ 1 → K (some (ni r)) A)
theorem okM_isRipe : okM LM 1 189 sM_isRipe := by
  refine qmeth [] false [] 28 rfl trivial ?_
  rintro _ A K hA has ⟨c, rfl, ⟨i0, j0, p1, p2⟩, hK⟩
  have rg_c : rng c := has (ni c) (by simp)
  have f0 := frm_0 [] [] A
  refine ⟨Nat.le_of_ble_eq_true rfl, [], trivial, ?_⟩
  refine And.intro (by omega) (fun v3 gv3 e4 => ?_)
  have b5 := iva_at i0 2 rfl (i := c) (by omega) (by omega)
  refine And.intro (fun h6 => ?_) (fun h6 => ?_)
  · exact And.intro (by omega) (hK _ (by omega) (by omega))
  · refine And.intro (by omega) (fun v7 gv7 e8 => ?_)
    refine And.intro (by omega) (fun v9 gv9 e10 => ?_)
    have b11 := iva_at i0 2 rfl (i := c) (by omega) (by omega)
    have q12 : v3 = v9 := (e10.trans e4.symm).symm
    subst q12
    refine And.intro (by omega) (fun v13 gv13 e14 => ?_)
    have b15 := iva_at i0 4 rfl (i := v3) (by omega) (by omega)
    refine And.intro (fun h16 => ?_) (fun h16 => ?_)
    · exact And.intro (by omega) (hK _ (by omega) (by omega))
    · exact And.intro (by omega) (hK _ (by omega) (by omega))
def sM_feels : qS := fun as A K => ∃ c : Int, as = [rf 0, ni c] ∧ (iva IM A ∧ ivf JM A ∧ 0 ≤ c ∧ c ≤ 47) ∧ (∀ A' : qA, iva IM A' → ivf JM A' → frm [35] [] A A' → K none A')
theorem okM_feels : okM LM 2 190 sM_feels := by
  refine qmeth [] false [(187, sM_feelsCell), (189, sM_isRipe), (188, sM_feelsCrop)] 37 rfl ⟨okM_feelsCell.le (by decide), ⟨okM_isRipe.le (by decide), ⟨okM_feelsCrop.le (by decide), trivial⟩⟩⟩ ?_
  rintro _ A K hA has ⟨c, rfl, ⟨i0, j0, p1, p2⟩, hK⟩
  have rg_c : rng c := has (ni c) (by simp)
  have f0 := frm_0 [35] [] A
  refine ⟨Nat.le_of_ble_eq_true rfl, [], trivial, ?_⟩
  refine Exists.intro c (Exists.intro 0 (Exists.intro 0 (And.intro rfl (And.intro (And.intro i0 (And.intro j0 (And.intro (by omega) (by omega)))) (fun A3 i4 j5 f6 => ?_)))))
  have f7 := frm_c f0 f6 rfl
  refine And.intro (by omega) (fun v8 gv8 e9 => ?_)
  have b10 := iva_at i4 2 rfl (i := c) (by omega) (by omega)
  refine And.intro (fun h11 => ?_) (fun h11 => ?_)
  · refine And.intro (by omega) (fun v12 gv12 e13 => ?_)
    have b14 := iva_at i4 2 rfl (i := c) (by omega) (by omega)
    have q15 : v8 = v12 := (e13.trans e9.symm).symm
    subst q15
    refine And.intro (by omega) (fun v16 gv16 e17 => ?_)
    refine Exists.intro c (And.intro rfl (And.intro (And.intro i4 (And.intro j5 (And.intro (by omega) (by omega)))) (fun r18 g19 g20 => ?_)))
    refine And.intro (by omega) (fun v21 gv21 e22 => ?_)
    have b23 := iva_at i4 1 rfl (i := c) (by omega) (by omega)
    refine Exists.intro v8 (Exists.intro v16 (Exists.intro r18 (Exists.intro v21 (And.intro rfl (And.intro (And.intro i4 (And.intro j5 (And.intro (by omega) (And.intro (by omega) (And.intro (by omega) (by omega)))))) (fun A24 i25 j26 f27 => ?_))))))
    have f28 := frm_c f7 f27 rfl
    exact hK _ i25 j26 f28
  · refine And.intro (by omega) (fun v29 gv29 e30 => ?_)
    refine Exists.intro c (And.intro rfl (And.intro (And.intro i4 (And.intro j5 (And.intro (by omega) (by omega)))) (fun r31 g32 g33 => ?_)))
    refine And.intro (by omega) (fun v34 gv34 e35 => ?_)
    have b36 := iva_at i4 1 rfl (i := c) (by omega) (by omega)
    refine Exists.intro 0 (Exists.intro v29 (Exists.intro r31 (Exists.intro v34 (And.intro rfl (And.intro (And.intro i4 (And.intro j5 (And.intro (by omega) (And.intro (by omega) (And.intro (by omega) (by omega)))))) (fun A37 i38 j39 f40 => ?_))))))
    have f41 := frm_c f7 f40 rfl
    exact hK _ i38 j39 f41
def sM_asked : qS := fun as A K => ∃ c l h : Int, as = [rf 0, ni c, ni l, ni h] ∧ (iva IM A ∧ ivf JM A ∧ 0 ≤ c ∧ c ≤ 47 ∧ 0 ≤ h ∧ h ≤ 1000 ∧ (WF A)) ∧ (∀ A' : qA, iva IM A' → ivf JM A' → frm [34, 35] [] A A' → ∀ r : Int, 0 ≤ r → r ≤ 1000 → (r ≤ h) → K (some (ni r)) A')
theorem okM_asked : okM LM 4 191 sM_asked := by
  refine qmeth [] false [(190, sM_feels), (186, sM_told)] 14 rfl ⟨okM_feels.le (by decide), ⟨okM_told.le (by decide), trivial⟩⟩ ?_
  rintro _ A K hA has ⟨c, l, h, rfl, ⟨i0, j0, p1, p2, p3, p4, p5⟩, hK⟩
  have rg_c : rng c := has (ni c) (by simp)
  have rg_l : rng l := has (ni l) (by simp)
  have rg_h : rng h := has (ni h) (by simp)
  have f0 := frm_0 [34, 35] [] A
  refine ⟨Nat.le_of_ble_eq_true rfl, [], trivial, ?_⟩
  refine Exists.intro c (And.intro rfl (And.intro (And.intro i0 (And.intro j0 (And.intro (by omega) (by omega)))) (fun A6 i7 j8 f9 => ?_)))
  have f10 := frm_c f0 f9 rfl
  refine Exists.intro l (Exists.intro h (And.intro rfl (And.intro (And.intro i7 (And.intro j8 (And.intro (by omega) (And.intro (by omega) (WF_fr p5 f10 rfl))))) (fun A11 i12 j13 f14 r15 g17 g18 g16 => ?_))))
  have f19 := frm_c f10 f14 rfl
  exact hK _ i12 j13 f19 _ (by omega) (by omega) (by first | assumption | omega | simp_all)
def sM_byLaw : qS := fun as A K => ∃ c l w : Int, as = [rf 0, ni c, ni l, ni w] ∧ (iva IM A ∧ ivf JM A ∧ (WF A)) ∧ (∀ A' : qA, iva IM A' → ivf JM A' → frm [34, 35] [] A A' → ∀ r : Int, (-2) ≤ r → r ≤ 1000 → K (some (ni r)) A')
theorem okM_byLaw : okM LM 5 192 sM_byLaw := by
  refine qmeth [] false [(148, sM_isCell), (145, sM_in), (149, sM_at), (191, sM_asked)] 62 rfl ⟨okM_isCell.le (by decide), ⟨okM_in.le (by decide), ⟨okM_at.le (by decide), ⟨okM_asked.le (by decide), trivial⟩⟩⟩⟩ ?_
  rintro _ A K hA has ⟨c, l, w, rfl, ⟨i0, j0, p1⟩, hK⟩
  have rg_c : rng c := has (ni c) (by simp)
  have rg_l : rng l := has (ni l) (by simp)
  have rg_w : rng w := has (ni w) (by simp)
  have f0 := frm_0 [34, 35] [] A
  refine ⟨Nat.le_of_ble_eq_true rfl, [], trivial, ?_⟩
  refine Exists.intro c (Exists.intro l (And.intro rfl (And.intro (fun h2 => ?_) (fun h2 => ?_))))
  · refine And.intro (fun h3 => by exfalso; omega) (fun h3 => ?_)
    refine Exists.intro w (Exists.intro 0 (Exists.intro 2 (And.intro rfl (And.intro (fun h4 => ?_) (fun h4 => ?_)))))
    · refine And.intro (fun h5 => ?_) (fun h5 => by exfalso; omega)
      refine Exists.intro c (Exists.intro l (And.intro rfl (And.intro (And.intro (by omega) (And.intro (by omega) (And.intro (by omega) (by omega)))) ?_)))
      refine And.intro (by omega) (fun v6 gv6 e7 => ?_)
      have b8 := iva_at i0 0 rfl (i := (6 * c + l)) (by omega) (by omega)
      refine And.intro (fun h9 => ?_) (fun h9 => ?_)
      · refine And.intro (fun h10 => ?_) (fun h10 => ?_)
        · refine And.intro (fun h11 => ?_) (fun h11 => by exfalso; omega)
          refine And.intro (fun h12 => ?_) (fun h12 => by exfalso; omega)
          refine Exists.intro (6 * c + l) (Exists.intro 97 (Exists.intro 999 (And.intro rfl (And.intro (And.intro i0 (And.intro j0 (And.intro (by omega) (And.intro (by omega) (And.intro (by omega) (And.intro (by omega) (WF_fr p1 f0 rfl))))))) (fun A13 i14 j15 f16 r17 g19 g20 g18 => ?_)))))
          have f21 := frm_c f0 f16 rfl
          exact hK _ i14 j15 f21 _ (by omega) (by omega)
        · refine And.intro (by omega) (fun v22 gv22 e23 => ?_)
          have b24 := iva_at i0 2 rfl (i := (6 * c + l)) (by omega) (by omega)
          refine And.intro (fun h25 => ?_) (fun h25 => ?_)
          · refine And.intro (fun h26 => ?_) (fun h26 => ?_)
            · refine And.intro (fun h27 => by exfalso; omega) (fun h27 => ?_)
              refine Exists.intro (6 * c + l) (Exists.intro 102 (Exists.intro 1000 (And.intro rfl (And.intro (And.intro i0 (And.intro j0 (And.intro (by omega) (And.intro (by omega) (And.intro (by omega) (And.intro (by omega) (WF_fr p1 f0 rfl))))))) (fun A28 i29 j30 f31 r32 g34 g35 g33 => ?_)))))
              have f36 := frm_c f0 f31 rfl
              exact hK _ i29 j30 f36 _ (by omega) (by omega)
            · refine Exists.intro (6 * c + l) (Exists.intro 103 (Exists.intro 50 (And.intro rfl (And.intro (And.intro i0 (And.intro j0 (And.intro (by omega) (And.intro (by omega) (And.intro (by omega) (And.intro (by omega) (WF_fr p1 f0 rfl))))))) (fun A37 i38 j39 f40 r41 g43 g44 g42 => ?_)))))
              have f45 := frm_c f0 f40 rfl
              exact hK _ i38 j39 f45 _ (by omega) (by omega)
          · exact hK _ i0 j0 f0 _ (by omega) (by omega)
      · exact hK _ i0 j0 f0 _ (by omega) (by omega)
    · refine And.intro (fun h46 => by exfalso; omega) (fun h46 => ?_)
      exact hK _ i0 j0 f0 _ (by omega) (by omega)
  · refine And.intro (fun h47 => ?_) (fun h47 => by exfalso; omega)
    exact hK _ i0 j0 f0 _ (by omega) (by omega)
def sM_sends : qS := fun as A K => ∃ x t d : Int, as = [rf 0, ni x, ni t, ni d] ∧ (iva IM A ∧ ivf JM A ∧ 0 ≤ x ∧ x ≤ 7) ∧ (∀ A' : qA, iva IM A' → ivf JM A' → frm [37] [] A A' → K none A')
theorem okM_sends : okM LM 1 193 sM_sends := by
  refine qmeth [] true [] 26 rfl trivial ?_
  rintro _ A K hA has ⟨x, t, d, rfl, ⟨i0, j0, p1, p2⟩, hK⟩
  have rg_x : rng x := has (ni x) (by simp)
  have rg_t : rng t := has (ni t) (by simp)
  have rg_d : rng d := has (ni d) (by simp)
  have f0 := frm_0 [37] [] A
  refine ⟨Nat.le_of_ble_eq_true rfl, [], trivial, ?_⟩
  refine And.intro (fun h3 => ?_) (fun h3 => ?_)
  · refine And.intro (by omega) (fun v4 gv4 e5 => ?_)
    refine fun v6 e7 => ?_
    have w10 := wI_rng v6
    refine And.intro (by omega) (fun A8 e9 => ?_)
    have i11 := iva_st i0 e9 trivial
    have j12 := ivf_sa j0 e9 rfl
    have f13 := frm_s f0 e9 rfl
    exact hK _ i11 j12 f13
  · refine And.intro (fun h14 => ?_) (fun h14 => ?_)
    · refine And.intro (by omega) (fun v15 gv15 e16 => ?_)
      refine fun v17 e18 => ?_
      have w21 := wI_rng v17
      refine And.intro (by omega) (fun A19 e20 => ?_)
      have i22 := iva_st i0 e20 trivial
      have j23 := ivf_sa j0 e20 rfl
      have f24 := frm_s f0 e20 rfl
      exact hK _ i22 j23 f24
    · refine And.intro (by omega) (fun v25 gv25 e26 => ?_)
      refine fun v27 e28 => ?_
      have w31 := wI_rng v27
      refine And.intro (by omega) (fun A29 e30 => ?_)
      have i32 := iva_st i0 e30 trivial
      have j33 := ivf_sa j0 e30 rfl
      have f34 := frm_s f0 e30 rfl
      exact hK _ i32 j33 f34
def sM_drips : qS := fun as A K => ∃ c d : Int, as = [rf 0, ni c, ni d] ∧ (iva IM A ∧ ivf JM A ∧ 0 ≤ c ∧ c ≤ 47) ∧ (∀ A' : qA, iva IM A' → ivf JM A' → frm [37, 10] [] A A' → K none A')
theorem okM_drips : okM LM 2 194 sM_drips := by
  refine qmeth [] true [(146, sM_less), (193, sM_sends)] 97 rfl ⟨okM_less.le (by decide), ⟨okM_sends.le (by decide), trivial⟩⟩ ?_
  rintro _ A K hA has ⟨c, d, rfl, ⟨i0, j0, p1, p2⟩, hK⟩
  have rg_c : rng c := has (ni c) (by simp)
  have rg_d : rng d := has (ni d) (by simp)
  have f0 := frm_0 [37, 10] [] A
  refine ⟨Nat.le_of_ble_eq_true rfl, [], trivial, ?_⟩
  refine And.intro (by omega) (fun v3 e4 => ?_)
  have h5 := qd_nn (a := c) (b := 6) (by omega)
  refine And.intro (by omega) (fun v6 gv6 e7 => ?_)
  have b8 := iva_at i0 0 rfl (i := c) (by omega) (by omega)
  refine And.intro (fun h9 => ?_) (fun h9 => ?_)
  · refine And.intro (by omega) (fun v10 gv10 e11 => ?_)
    have b12 := iva_at i0 2 rfl (i := c) (by omega) (by omega)
    refine And.intro (fun h13 => ?_) (fun h13 => ?_)
    · refine And.intro (by omega) (fun v14 gv14 e15 => ?_)
      have b16 := iva_at i0 2 rfl (i := c) (by omega) (by omega)
      have q17 : v10 = v14 := (e15.trans e11.symm).symm
      subst q17
      refine And.intro (by omega) (fun v18 gv18 e19 => ?_)
      have b20 := iva_at i0 3 rfl (i := v10) (by omega) (by omega)
      refine Exists.intro d (Exists.intro v18 (And.intro rfl (fun r21 g23 g22 => ?_)))
      refine And.intro (by omega) (fun A24 e25 => ?_)
      have i26 := iva_st i0 e25 trivial
      have j27 := ivf_sa j0 e25 rfl
      have f28 := frm_s f0 e25 rfl
      refine And.intro (by omega) (fun v29 gv29 e30 => ?_)
      have q31 : r21 = v29 := (e30.trans (st_v e25)).symm
      subst q31
      refine fun v32 e33 => ?_
      refine And.intro (by omega) (fun v34 gv34 e35 => ?_)
      refine (And.intro (fun h36 => ?_) (And.intro (fun h36 => ?_) (And.intro (fun h36 => ?_) (And.intro (fun h36 => ?_) trivial))))
      · refine fun v37 e38 => ?_
        have w41 := wI_rng v32
        refine And.intro (by omega) (fun v39 e40 => ?_)
        have h42 := qd_bd (a := (wI v32)) (b := 2) (lo := (-2147483648)) (hi := 2147483647) (by omega) (by omega) (by omega) (by omega) (by omega)
        refine fun v43 e44 => ?_
        have w45 := wI_rng v3
        have w46 : wI v3 = v3 := wI_id (by omega)
        have w47 := wI_rng v37
        have w48 : wI v37 = v37 := wI_id (by omega)
        have w49 := wI_rng v43
        refine Exists.intro (wI v3) (Exists.intro (wI v37) (Exists.intro (wI v43) (And.intro rfl (And.intro (And.intro i26 (And.intro j27 (And.intro (by omega) (by omega)))) (fun A50 i51 j52 f53 => ?_)))))
        have f54 := frm_c f28 f53 rfl
        refine fun v55 e56 => ?_
        have w59 := wI_rng v32
        refine And.intro (by omega) (fun v57 e58 => ?_)
        have h60 := qd_bd (a := (wI v32)) (b := 2) (lo := (-2147483648)) (hi := 2147483647) (by omega) (by omega) (by omega) (by omega) (by omega)
        have w61 := wI_rng v3
        have w62 : wI v3 = v3 := wI_id (by omega)
        have w63 := wI_rng v55
        have w64 : wI v55 = v55 := wI_id (by omega)
        have w65 := wI_rng v57
        have w66 : wI v57 = v57 := wI_id (by omega)
        refine Exists.intro (wI v3) (Exists.intro (wI v55) (Exists.intro (wI v57) (And.intro rfl (And.intro (And.intro i51 (And.intro j52 (And.intro (by omega) (by omega)))) (fun A67 i68 j69 f70 => ?_)))))
        have f71 := frm_c f54 f70 rfl
        exact hK _ i68 j69 f71
      · have w72 := wI_rng v3
        have w73 : wI v3 = v3 := wI_id (by omega)
        have w74 := wI_rng v3
        have w75 : wI v3 = v3 := wI_id (by omega)
        have w76 := wI_rng v32
        refine Exists.intro (wI v3) (Exists.intro (wI v3) (Exists.intro (wI v32) (And.intro rfl (And.intro (And.intro i26 (And.intro j27 (And.intro (by omega) (by omega)))) (fun A77 i78 j79 f80 => ?_)))))
        have f81 := frm_c f28 f80 rfl
        exact hK _ i78 j79 f81
      · refine fun v82 e83 => ?_
        have w84 := wI_rng v3
        have w85 : wI v3 = v3 := wI_id (by omega)
        have w86 := wI_rng v82
        have w87 : wI v82 = v82 := wI_id (by omega)
        have w88 := wI_rng v32
        refine Exists.intro (wI v3) (Exists.intro (wI v82) (Exists.intro (wI v32) (And.intro rfl (And.intro (And.intro i26 (And.intro j27 (And.intro (by omega) (by omega)))) (fun A89 i90 j91 f92 => ?_)))))
        have f93 := frm_c f28 f92 rfl
        exact hK _ i90 j91 f93
      · refine fun v94 e95 => ?_
        have w96 := wI_rng v3
        have w97 : wI v3 = v3 := wI_id (by omega)
        have w98 := wI_rng v94
        have w99 : wI v94 = v94 := wI_id (by omega)
        have w100 := wI_rng v32
        refine Exists.intro (wI v3) (Exists.intro (wI v94) (Exists.intro (wI v32) (And.intro rfl (And.intro (And.intro i26 (And.intro j27 (And.intro (by omega) (by omega)))) (fun A101 i102 j103 f104 => ?_)))))
        have f105 := frm_c f28 f104 rfl
        exact hK _ i102 j103 f105
    · refine And.intro (by omega) (fun A106 e107 => ?_)
      have i108 := iva_st i0 e107 trivial
      have j109 := ivf_sa j0 e107 rfl
      have f110 := frm_s f0 e107 rfl
      refine And.intro (by omega) (fun v111 gv111 e112 => ?_)
      have q113 : 0 = v111 := (e112.trans (st_v e107)).symm
      subst q113
      refine fun v114 e115 => ?_
      refine And.intro (by omega) (fun v116 gv116 e117 => ?_)
      refine (And.intro (fun h118 => ?_) (And.intro (fun h118 => ?_) (And.intro (fun h118 => ?_) (And.intro (fun h118 => ?_) trivial))))
      · refine fun v119 e120 => ?_
        have w123 := wI_rng v114
        have w124 : wI v114 = v114 := wI_id (by omega)
        refine And.intro (by omega) (fun v121 e122 => ?_)
        have h125 := qd_bd (a := (wI v114)) (b := 2) (lo := (-2147483648)) (hi := 2147483647) (by omega) (by omega) (by omega) (by omega) (by omega)
        refine fun v126 e127 => ?_
        have w128 := wI_rng v3
        have w129 : wI v3 = v3 := wI_id (by omega)
        have w130 := wI_rng v119
        have w131 : wI v119 = v119 := wI_id (by omega)
        have w132 := wI_rng v126
        refine Exists.intro (wI v3) (Exists.intro (wI v119) (Exists.intro (wI v126) (And.intro rfl (And.intro (And.intro i108 (And.intro j109 (And.intro (by omega) (by omega)))) (fun A133 i134 j135 f136 => ?_)))))
        have f137 := frm_c f110 f136 rfl
        refine fun v138 e139 => ?_
        have w142 := wI_rng v114
        have w143 : wI v114 = v114 := wI_id (by omega)
        refine And.intro (by omega) (fun v140 e141 => ?_)
        have h144 := qd_bd (a := (wI v114)) (b := 2) (lo := (-2147483648)) (hi := 2147483647) (by omega) (by omega) (by omega) (by omega) (by omega)
        have w145 := wI_rng v3
        have w146 : wI v3 = v3 := wI_id (by omega)
        have w147 := wI_rng v138
        have w148 : wI v138 = v138 := wI_id (by omega)
        have w149 := wI_rng v140
        have w150 : wI v140 = v140 := wI_id (by omega)
        refine Exists.intro (wI v3) (Exists.intro (wI v138) (Exists.intro (wI v140) (And.intro rfl (And.intro (And.intro i134 (And.intro j135 (And.intro (by omega) (by omega)))) (fun A151 i152 j153 f154 => ?_)))))
        have f155 := frm_c f137 f154 rfl
        exact hK _ i152 j153 f155
      · have w156 := wI_rng v3
        have w157 : wI v3 = v3 := wI_id (by omega)
        have w158 := wI_rng v3
        have w159 : wI v3 = v3 := wI_id (by omega)
        have w160 := wI_rng v114
        have w161 : wI v114 = v114 := wI_id (by omega)
        refine Exists.intro (wI v3) (Exists.intro (wI v3) (Exists.intro (wI v114) (And.intro rfl (And.intro (And.intro i108 (And.intro j109 (And.intro (by omega) (by omega)))) (fun A162 i163 j164 f165 => ?_)))))
        have f166 := frm_c f110 f165 rfl
        exact hK _ i163 j164 f166
      · refine fun v167 e168 => ?_
        have w169 := wI_rng v3
        have w170 : wI v3 = v3 := wI_id (by omega)
        have w171 := wI_rng v167
        have w172 : wI v167 = v167 := wI_id (by omega)
        have w173 := wI_rng v114
        have w174 : wI v114 = v114 := wI_id (by omega)
        refine Exists.intro (wI v3) (Exists.intro (wI v167) (Exists.intro (wI v114) (And.intro rfl (And.intro (And.intro i108 (And.intro j109 (And.intro (by omega) (by omega)))) (fun A175 i176 j177 f178 => ?_)))))
        have f179 := frm_c f110 f178 rfl
        exact hK _ i176 j177 f179
      · refine fun v180 e181 => ?_
        have w182 := wI_rng v3
        have w183 : wI v3 = v3 := wI_id (by omega)
        have w184 := wI_rng v180
        have w185 : wI v180 = v180 := wI_id (by omega)
        have w186 := wI_rng v114
        have w187 : wI v114 = v114 := wI_id (by omega)
        refine Exists.intro (wI v3) (Exists.intro (wI v180) (Exists.intro (wI v114) (And.intro rfl (And.intro (And.intro i108 (And.intro j109 (And.intro (by omega) (by omega)))) (fun A188 i189 j190 f191 => ?_)))))
        have f192 := frm_c f110 f191 rfl
        exact hK _ i189 j190 f192
  · have w193 := wI_rng v3
    have w194 : wI v3 = v3 := wI_id (by omega)
    have w195 := wI_rng v3
    have w196 : wI v3 = v3 := wI_id (by omega)
    refine Exists.intro (wI v3) (Exists.intro (wI v3) (Exists.intro d (And.intro rfl (And.intro (And.intro i0 (And.intro j0 (And.intro (by omega) (by omega)))) (fun A197 i198 j199 f200 => ?_)))))
    have f201 := frm_c f0 f200 rfl
    exact hK _ i198 j199 f201
def sM_flows : qS := fun as A K => as = [rf 0] ∧ (iva IM A ∧ ivf JM A) ∧ (∀ A' : qA, iva IM A' → ivf JM A' → frm [36, 37, 10] [] A A' → K none A')
theorem okM_flows : okM LM 3 195 sM_flows := by
  refine qmeth [] true [(149, sM_at), (194, sM_drips)] 57 rfl ⟨okM_at.le (by decide), ⟨okM_drips.le (by decide), trivial⟩⟩ ?_
  rintro _ A K hA has ⟨rfl, ⟨i0, j0⟩, hK⟩
  have f0 := frm_0 [36, 37, 10] [] A
  refine ⟨Nat.le_of_ble_eq_true rfl, [(2, [(0, 2, 0), (1, 0, 0)], fun zs B nn => match zs with | [l] => iva IM B ∧ ivf JM B ∧ frm [36, 37, 10] [] A B ∧ nn = ((6 - l) * 100 + 90 : Int).toNat ∧ (0 ≤ l) ∧ (l ≤ 6) | _ => False), (7, [(0, 2, 0), (1, 0, 0), (2, 0, 0)], fun zs B nn => match zs with | [l, x] => iva IM B ∧ ivf JM B ∧ frm [36, 37, 10] [] A B ∧ nn = ((6 - l) * 100 + 80 - x : Int).toNat ∧ (0 ≤ x) ∧ (x ≤ 8) ∧ (0 ≤ l) ∧ (l ≤ 5) | _ => False), (19, [(0, 2, 0), (1, 0, 0), (2, 0, 0)], fun zs B nn => match zs with | [l, x] => iva IM B ∧ ivf JM B ∧ frm [36, 37, 10] [] A B ∧ nn = ((6 - l) * 100 + 60 - x : Int).toNat ∧ (0 ≤ x) ∧ (x ≤ 8) ∧ (0 ≤ l) ∧ (l ≤ 5) | _ => False), (35, [(0, 2, 0), (1, 0, 0), (2, 0, 0)], fun zs B nn => match zs with | [l, x] => iva IM B ∧ ivf JM B ∧ frm [36, 37, 10] [] A B ∧ nn = ((6 - l) * 100 + 40 - x : Int).toNat ∧ (0 ≤ x) ∧ (x ≤ 8) ∧ (0 ≤ l) ∧ (l ≤ 5) | _ => False)], ?_, ?_⟩
  · refine ⟨⟨rfl, ?_⟩, ⟨rfl, ?_⟩, ⟨rfl, ?_⟩, ⟨rfl, ?_⟩, trivial⟩
    · refine fun l B mm hB hz hI => ?_
      obtain ⟨i1, j1, f1, hm, c0, c1⟩ := hI
      obtain ⟨hz_l, _⟩ := hz
      refine And.intro (fun h1 => ?_) (fun h1 => ?_)
      · exact hK _ i1 j1 f1
      · exact Exists.intro ((6 - l) * 100 + 80 - 0 : Int).toNat (And.intro (by omega) (And.intro i1 (And.intro j1 (And.intro f1 (And.intro rfl (And.intro (by omega) (And.intro (by omega) (And.intro (by omega) (by omega)))))))))
    · refine fun l x B mm hB hz hI => ?_
      obtain ⟨i1, j1, f1, hm, c0, c1, c2, c3⟩ := hI
      obtain ⟨hz_l, hz_x, _⟩ := hz
      refine And.intro (fun h2 => ?_) (fun h2 => ?_)
      · exact Exists.intro ((6 - l) * 100 + 60 - 0 : Int).toNat (And.intro (by omega) (And.intro i1 (And.intro j1 (And.intro f1 (And.intro rfl (And.intro (by omega) (And.intro (by omega) (And.intro (by omega) (by omega)))))))))
      · refine And.intro (by omega) (fun A3 e4 => ?_)
        have i5 := iva_st i1 e4 trivial
        have j6 := ivf_sa j1 e4 rfl
        have f7 := frm_s f1 e4 rfl
        refine fun v8 e9 => ?_
        have w10 := wI_rng v8
        have w11 : wI v8 = v8 := wI_id (by omega)
        exact Exists.intro ((6 - l) * 100 + 80 - ((wI v8)) : Int).toNat (And.intro (by omega) (And.intro i5 (And.intro j6 (And.intro f7 (And.intro rfl (And.intro (by omega) (And.intro (by omega) (And.intro (by omega) (by omega)))))))))
    · refine fun l x B mm hB hz hI => ?_
      obtain ⟨i1, j1, f1, hm, c0, c1, c2, c3⟩ := hI
      obtain ⟨hz_l, hz_x, _⟩ := hz
      refine And.intro (fun h12 => ?_) (fun h12 => ?_)
      · exact Exists.intro ((6 - l) * 100 + 40 - 0 : Int).toNat (And.intro (by omega) (And.intro i1 (And.intro j1 (And.intro f1 (And.intro rfl (And.intro (by omega) (And.intro (by omega) (And.intro (by omega) (by omega)))))))))
      · refine Exists.intro x (Exists.intro l (And.intro rfl (And.intro (And.intro (by omega) (And.intro (by omega) (And.intro (by omega) (by omega)))) ?_)))
        refine And.intro (by omega) (fun v13 gv13 e14 => ?_)
        refine Exists.intro (6 * x + l) (Exists.intro v13 (And.intro rfl (And.intro (And.intro i1 (And.intro j1 (And.intro (by omega) (by omega)))) (fun A15 i16 j17 f18 => ?_))))
        have f19 := frm_c f1 f18 rfl
        refine fun v20 e21 => ?_
        have w22 := wI_rng v20
        have w23 : wI v20 = v20 := wI_id (by omega)
        exact Exists.intro ((6 - l) * 100 + 60 - ((wI v20)) : Int).toNat (And.intro (by omega) (And.intro i16 (And.intro j17 (And.intro f19 (And.intro rfl (And.intro (by omega) (And.intro (by omega) (And.intro (by omega) (by omega)))))))))
    · refine fun l x B mm hB hz hI => ?_
      obtain ⟨i1, j1, f1, hm, c0, c1, c2, c3⟩ := hI
      obtain ⟨hz_l, hz_x, _⟩ := hz
      refine And.intro (fun h24 => ?_) (fun h24 => ?_)
      · refine fun v25 e26 => ?_
        have w27 := wI_rng v25
        have w28 : wI v25 = v25 := wI_id (by omega)
        exact Exists.intro ((6 - ((wI v25))) * 100 + 90 : Int).toNat (And.intro (by omega) (And.intro i1 (And.intro j1 (And.intro f1 (And.intro rfl (And.intro (by omega) (by omega)))))))
      · refine And.intro (by omega) (fun v29 gv29 e30 => ?_)
        refine And.intro (by omega) (fun A31 e32 => ?_)
        have i33 := iva_st i1 e32 trivial
        have j34 := ivf_sa j1 e32 rfl
        have f35 := frm_s f1 e32 rfl
        refine fun v36 e37 => ?_
        have w38 := wI_rng v36
        have w39 : wI v36 = v36 := wI_id (by omega)
        exact Exists.intro ((6 - l) * 100 + 40 - ((wI v36)) : Int).toNat (And.intro (by omega) (And.intro i33 (And.intro j34 (And.intro f35 (And.intro rfl (And.intro (by omega) (And.intro (by omega) (And.intro (by omega) (by omega)))))))))
  · exact Exists.intro ((6 - 0) * 100 + 90 : Int).toNat (And.intro i0 (And.intro j0 (And.intro f0 (And.intro rfl (And.intro (by omega) (by omega))))))
def sM_water : qS := fun as A K => as = [rf 0] ∧ (iva IM A ∧ ivf JM A) ∧ (∀ A' : qA, iva IM A' → ivf JM A' → frm [36, 37, 10, 17] [] A A' → ∀ r : Int, rng r → K (some (ni r)) A')
theorem okM_water : okM LM 4 196 sM_water := by
  refine qmeth [] true [(195, sM_flows)] 54 rfl ⟨okM_flows.le (by decide), trivial⟩ ?_
  rintro _ A K hA has ⟨rfl, ⟨i0, j0⟩, hK⟩
  have f0 := frm_0 [36, 37, 10, 17] [] A
  refine ⟨Nat.le_of_ble_eq_true rfl, [(2, [(0, 2, 0), (1, 0, 0)], fun zs B nn => match zs with | [x] => iva IM B ∧ ivf JM B ∧ frm [36, 37, 10, 17] [] A B ∧ nn = (100 - x : Int).toNat ∧ (0 ≤ x) ∧ (x ≤ 8) | _ => False), (21, [(0, 2, 0), (1, 0, 0), (2, 0, 0)], fun zs B nn => match zs with | [s, x] => iva IM B ∧ ivf JM B ∧ frm [36, 37, 10, 17] [] A B ∧ nn = (8 - x : Int).toNat ∧ (0 ≤ x) ∧ (x ≤ 8) | _ => False)], ?_, ?_⟩
  · refine ⟨⟨rfl, ?_⟩, ⟨rfl, ?_⟩, trivial⟩
    · refine fun x B mm hB hz hI => ?_
      obtain ⟨i1, j1, f1, hm, c0, c1⟩ := hI
      obtain ⟨hz_x, _⟩ := hz
      refine And.intro (fun h1 => ?_) (fun h1 => ?_)
      · refine And.intro rfl (And.intro (And.intro i1 j1) (fun A2 i3 j4 f5 => ?_))
        have f6 := frm_c f1 f5 rfl
        exact Exists.intro (8 - 0 : Int).toNat (And.intro (by omega) (And.intro i3 (And.intro j4 (And.intro f6 (And.intro rfl (And.intro (by omega) (by omega)))))))
      · refine And.intro (by omega) (fun v7 gv7 e8 => ?_)
        refine And.intro (by omega) (fun A9 e10 => ?_)
        have i11 := iva_st i1 e10 trivial
        have j12 := ivf_sa j1 e10 rfl
        have f13 := frm_s f1 e10 rfl
        refine fun v14 e15 => ?_
        have w16 := wI_rng v14
        have w17 : wI v14 = v14 := wI_id (by omega)
        exact Exists.intro (100 - ((wI v14)) : Int).toNat (And.intro (by omega) (And.intro i11 (And.intro j12 (And.intro f13 (And.intro rfl (And.intro (by omega) (by omega)))))))
    · refine fun s x B mm hB hz hI => ?_
      obtain ⟨i1, j1, f1, hm, c0, c1⟩ := hI
      obtain ⟨hz_s, hz_x, _⟩ := hz
      refine And.intro (fun h18 => ?_) (fun h18 => ?_)
      · exact hK _ i1 j1 f1 _ (by first | exact wI_rng _ | omega | (exact (hA _ _).2 rfl))
      · refine And.intro (by omega) (fun v19 gv19 e20 => ?_)
        refine And.intro (by omega) (fun v21 gv21 e22 => ?_)
        refine fun v23 e24 => ?_
        have w27 := wI_rng v23
        refine And.intro (by omega) (fun A25 e26 => ?_)
        have i28 := iva_st i1 e26 trivial
        have j29 := ivf_sa j1 e26 rfl
        have f30 := frm_s f1 e26 rfl
        refine And.intro (by omega) (fun v31 gv31 e32 => ?_)
        have q33 : v21 = v31 := (e32.trans ((congrFun (st_a e26 rfl) _).trans e22.symm)).symm
        subst q33
        refine fun v34 e35 => ?_
        refine fun v36 e37 => ?_
        have w38 := wI_rng v34
        have w39 := wI_rng v36
        have w40 : wI v36 = v36 := wI_id (by omega)
        exact Exists.intro (8 - ((wI v36)) : Int).toNat (And.intro (by omega) (And.intro i28 (And.intro j29 (And.intro f30 (And.intro rfl (And.intro (by omega) (by omega)))))))
  · exact Exists.intro (100 - 0 : Int).toNat (And.intro i0 (And.intro j0 (And.intro f0 (And.intro rfl (And.intro (by omega) (by omega))))))
def sM_ownLoad : qS := fun as A K => ∃ c : Int, as = [rf 0, ni c] ∧ (iva IM A ∧ ivf JM A ∧ 0 ≤ c ∧ c ≤ 47) ∧ (∀ r : Int, rng r → K (some (ni r)) A)
theorem okM_ownLoad : okM LM 1 197 sM_ownLoad := by
  refine qmeth [] true [] 28 rfl trivial ?_
  rintro _ A K hA has ⟨c, rfl, ⟨i0, j0, p1, p2⟩, hK⟩
  have rg_c : rng c := has (ni c) (by simp)
  have f0 := frm_0 [] [] A
  refine ⟨Nat.le_of_ble_eq_true rfl, [], trivial, ?_⟩
  refine And.intro (by omega) (fun v3 gv3 e4 => ?_)
  refine fun v5 e6 => ?_
  refine And.intro (by omega) (fun v7 gv7 e8 => ?_)
  refine fun v9 e10 => ?_
  refine And.intro (by omega) (fun v11 gv11 e12 => ?_)
  refine fun v13 e14 => ?_
  refine And.intro (by omega) (fun v15 gv15 e16 => ?_)
  refine fun v17 e18 => ?_
  have w19 := wI_rng v17
  exact hK _ (by first | exact wI_rng _ | omega | (exact (hA _ _).2 rfl))
def sM_loadOf : qS := fun as A K => ∃ c : Int, as = [rf 0, ni c] ∧ (iva IM A ∧ ivf JM A ∧ 0 ≤ c ∧ c ≤ 47) ∧ (∀ r : Int, rng r → K (some (ni r)) A)
theorem okM_loadOf : okM LM 2 198 sM_loadOf := by
  refine qmeth [] true [(197, sM_ownLoad)] 36 rfl ⟨okM_ownLoad.le (by decide), trivial⟩ ?_
  rintro _ A K hA has ⟨c, rfl, ⟨i0, j0, p1, p2⟩, hK⟩
  have rg_c : rng c := has (ni c) (by simp)
  have f0 := frm_0 [] [] A
  refine ⟨Nat.le_of_ble_eq_true rfl, [(4, [(0, 2, 0), (1, 0, 0), (2, 0, 0), (3, 0, 0)], fun zs B nn => match zs with | [l1, s, k] => A = B ∧ nn = (48 - k : Int).toNat ∧ (l1 = c) ∧ (0 ≤ k) ∧ (k ≤ 48) ∧ (0 ≤ l1) ∧ (l1 ≤ 47) | _ => False)], ?_, ?_⟩
  · refine ⟨⟨rfl, ?_⟩, trivial⟩
    · refine fun l1 s k B mm hB hz hI => ?_
      obtain ⟨rfl, hm, c0, c1, c2, c3, c4⟩ := hI
      obtain ⟨hz_l1, hz_s, hz_k, _⟩ := hz
      refine And.intro (by omega) (fun v3 e4 => ?_)
      have h5 := qd_nn (a := l1) (b := 6) (by omega)
      refine fun v6 e7 => ?_
      refine fun v8 e9 => ?_
      have w11 := wI_rng v8
      have w12 : wI v8 = v8 := wI_id (by omega)
      refine And.intro (fun h10 => ?_) (fun h10 => ?_)
      · exact hK _ (by first | exact wI_rng _ | omega | (exact (hA _ _).2 rfl))
      · refine And.intro (by omega) (fun v13 gv13 e14 => ?_)
        have b15 := iva_at i0 0 rfl (i := k) (by omega) (by omega)
        refine And.intro (fun h16 => ?_) (fun h16 => ?_)
        · refine fun v17 e18 => ?_
          refine fun v19 e20 => ?_
          have w21 := wI_rng v17
          have w22 : wI v17 = v17 := wI_id (by omega)
          have w23 := wI_rng v19
          have w24 : wI v19 = v19 := wI_id (by omega)
          exact Exists.intro (48 - ((wI v19)) : Int).toNat (And.intro (by omega) (And.intro rfl (And.intro rfl (And.intro (by omega) (And.intro (by omega) (And.intro (by omega) (And.intro (by omega) (by omega))))))))
        · refine Exists.intro k (And.intro rfl (And.intro (And.intro i0 (And.intro j0 (And.intro (by omega) (by omega)))) (fun r25 g26 => ?_)))
          refine fun v27 e28 => ?_
          refine fun v29 e30 => ?_
          have w31 := wI_rng v27
          have w32 := wI_rng v29
          have w33 : wI v29 = v29 := wI_id (by omega)
          exact Exists.intro (48 - ((wI v29)) : Int).toNat (And.intro (by omega) (And.intro rfl (And.intro rfl (And.intro (by omega) (And.intro (by omega) (And.intro (by omega) (And.intro (by omega) (by omega))))))))
  · exact Exists.intro (48 - c : Int).toNat (And.intro rfl (And.intro rfl (And.intro (by omega) (And.intro (by omega) (And.intro (by omega) (And.intro (by omega) (by omega)))))))
def sM_cell : qS := fun as A K => ∃ c l w : Int, as = [rf 0, ni c, ni l, ni w] ∧ (iva IM A ∧ ivf JM A) ∧ (∀ r : Int, rng r → K (some (ni r)) A)
theorem okM_cell : okM LM 3 199 sM_cell := by
  refine qmeth [] false [(148, sM_isCell), (145, sM_in), (149, sM_at), (198, sM_loadOf)] 94 rfl ⟨okM_isCell.le (by decide), ⟨okM_in.le (by decide), ⟨okM_at.le (by decide), ⟨okM_loadOf.le (by decide), trivial⟩⟩⟩⟩ ?_
  rintro _ A K hA has ⟨c, l, w, rfl, ⟨i0, j0⟩, hK⟩
  have rg_c : rng c := has (ni c) (by simp)
  have rg_l : rng l := has (ni l) (by simp)
  have rg_w : rng w := has (ni w) (by simp)
  have f0 := frm_0 [] [] A
  refine ⟨Nat.le_of_ble_eq_true rfl, [], trivial, ?_⟩
  refine Exists.intro c (Exists.intro l (And.intro rfl (And.intro (fun h1 => ?_) (fun h1 => ?_))))
  · refine And.intro (fun h2 => by exfalso; omega) (fun h2 => ?_)
    refine Exists.intro w (Exists.intro 0 (Exists.intro 10 (And.intro rfl (And.intro (fun h3 => ?_) (fun h3 => ?_)))))
    · refine And.intro (fun h4 => ?_) (fun h4 => by exfalso; omega)
      refine Exists.intro c (Exists.intro l (And.intro rfl (And.intro (And.intro (by omega) (And.intro (by omega) (And.intro (by omega) (by omega)))) ?_)))
      refine And.intro (fun h5 => ?_) (fun h5 => ?_)
      · refine And.intro (by omega) (fun v6 gv6 e7 => ?_)
        have b8 := iva_at i0 0 rfl (i := (6 * c + l)) (by omega) (by omega)
        refine And.intro (fun h9 => ?_) (fun h9 => ?_)
        · refine (And.intro (fun h10 => ?_) (And.intro (fun h10 => ?_) (And.intro (fun h10 => ?_) (And.intro (fun h10 => ?_) (And.intro (fun h10 => ?_) (And.intro (fun h10 => ?_) (And.intro (fun h10 => ?_) (And.intro (fun h10 => ?_) (And.intro (fun h10 => ?_) (And.intro (fun h10 => ?_) trivial))))))))))
          · refine Exists.intro (6 * c + l) (And.intro rfl (And.intro (And.intro i0 (And.intro j0 (And.intro (by omega) (by omega)))) (fun r11 g12 => ?_)))
            exact hK _ (by first | exact wI_rng _ | omega | (exact (hA _ _).2 rfl))
          · refine And.intro (by omega) (fun v13 gv13 e14 => ?_)
            exact hK _ (by first | exact wI_rng _ | omega | (exact (hA _ _).2 rfl))
          · refine And.intro (by omega) (fun v15 gv15 e16 => ?_)
            exact hK _ (by first | exact wI_rng _ | omega | (exact (hA _ _).2 rfl))
          · refine And.intro (by omega) (fun v17 gv17 e18 => ?_)
            exact hK _ (by first | exact wI_rng _ | omega | (exact (hA _ _).2 rfl))
          · refine And.intro (by omega) (fun v19 gv19 e20 => ?_)
            exact hK _ (by first | exact wI_rng _ | omega | (exact (hA _ _).2 rfl))
          · refine And.intro (by omega) (fun v21 gv21 e22 => ?_)
            have b23 := iva_at i0 2 rfl (i := (6 * c + l)) (by omega) (by omega)
            exact hK _ (by first | exact wI_rng _ | omega | (exact (hA _ _).2 rfl))
          · refine And.intro (by omega) (fun v24 gv24 e25 => ?_)
            exact hK _ (by first | exact wI_rng _ | omega | (exact (hA _ _).2 rfl))
          · refine And.intro (by omega) (fun v26 gv26 e27 => ?_)
            exact hK _ (by first | exact wI_rng _ | omega | (exact (hA _ _).2 rfl))
          · refine And.intro (by omega) (fun v28 gv28 e29 => ?_)
            exact hK _ (by first | exact wI_rng _ | omega | (exact (hA _ _).2 rfl))
          · refine And.intro (by omega) (fun v30 gv30 e31 => ?_)
            have b32 := iva_at i0 1 rfl (i := (6 * c + l)) (by omega) (by omega)
            refine And.intro (fun h33 => ?_) (fun h33 => ?_)
            · exact hK _ (by first | exact wI_rng _ | omega | (exact (hA _ _).2 rfl))
            · exact hK _ (by first | exact wI_rng _ | omega | (exact (hA _ _).2 rfl))
        · exact hK _ (by first | exact wI_rng _ | omega | (exact (hA _ _).2 rfl))
      · refine And.intro (by omega) (fun v34 gv34 e35 => ?_)
        have b36 := iva_at i0 0 rfl (i := (6 * c + l)) (by omega) (by omega)
        refine And.intro (fun h37 => ?_) (fun h37 => ?_)
        · exact hK _ (by first | exact wI_rng _ | omega | (exact (hA _ _).2 rfl))
        · exact hK _ (by first | exact wI_rng _ | omega | (exact (hA _ _).2 rfl))
    · refine And.intro (fun h38 => by exfalso; omega) (fun h38 => ?_)
      exact hK _ (by first | exact wI_rng _ | omega | (exact (hA _ _).2 rfl))
  · refine And.intro (fun h39 => ?_) (fun h39 => by exfalso; omega)
    exact hK _ (by first | exact wI_rng _ | omega | (exact (hA _ _).2 rfl))
