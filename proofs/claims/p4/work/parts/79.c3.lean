def sC_joined : qS := fun as A K => ∃ g a b : Int, as = [ni g, ni a, ni b] ∧ (∀ r : Int, rng r → K (some (ni r)) A)
theorem okC_joined : okM LC 1 78 sC_joined := by
  refine qmeth [] true [] 57 rfl trivial ?_
  rintro _ A K hA has ⟨g, a, b, rfl, hK⟩
  have rg_g : rng g := has (ni g) (by simp)
  have rg_a : rng a := has (ni a) (by simp)
  have rg_b : rng b := has (ni b) (by simp)
  refine ⟨Nat.le_of_ble_eq_true rfl, [], trivial, ?_⟩
  refine (And.intro (fun h1 => ?_) (fun h8 => (And.intro (fun h1 => ?_) (fun h7 => (And.intro (fun h1 => ?_) (fun h6 => (And.intro (fun h1 => ?_) (fun h5 => (And.intro (fun h1 => ?_) (fun h4 => (And.intro (fun h1 => ?_) (fun h3 => (And.intro (fun h1 => ?_) (fun h2 => ?_))))))))))))))
  · refine And.intro (fun h9 => ?_) (fun h9 => ?_)
    · refine And.intro (by omega) (fun v10 e11 => ?_)
      have h12 := qm_rng (a := a) (b := b) (by omega)
      exact hK _ (by first | exact wI_rng _ | omega | (exact (hA _ _).2 rfl))
    · exact hK _ (by first | exact wI_rng _ | omega | (exact (hA _ _).2 rfl))
  · refine fun v13 e14 => ?_
    have w15 := wI_rng v13
    exact hK _ (by first | exact wI_rng _ | omega | (exact (hA _ _).2 rfl))
  · refine fun v16 e17 => ?_
    have w18 := wI_rng v16
    exact hK _ (by first | exact wI_rng _ | omega | (exact (hA _ _).2 rfl))
  · refine fun v19 e20 => ?_
    have w21 := wI_rng v19
    exact hK _ (by first | exact wI_rng _ | omega | (exact (hA _ _).2 rfl))
  · refine And.intro (fun h22 => ?_) (fun h22 => ?_)
    · refine And.intro (by omega) (fun v23 e24 => ?_)
      have w26 := wI_rng v23
      exact hK _ (by first | exact wI_rng _ | omega | (exact (hA _ _).2 rfl))
    · exact hK _ (by first | exact wI_rng _ | omega | (exact (hA _ _).2 rfl))
  · refine And.intro (fun h27 => ?_) (fun h27 => ?_)
    · exact hK _ (by first | exact wI_rng _ | omega | (exact (hA _ _).2 rfl))
    · exact hK _ (by first | exact wI_rng _ | omega | (exact (hA _ _).2 rfl))
  · refine And.intro (fun h28 => ?_) (fun h28 => ?_)
    · exact hK _ (by first | exact wI_rng _ | omega | (exact (hA _ _).2 rfl))
    · exact hK _ (by first | exact wI_rng _ | omega | (exact (hA _ _).2 rfl))
  · refine And.intro (fun h29 => ?_) (fun h29 => ?_)
    · exact hK _ (by first | exact wI_rng _ | omega | (exact (hA _ _).2 rfl))
    · exact hK _ (by first | exact wI_rng _ | omega | (exact (hA _ _).2 rfl))
def sC_put36 : qS := fun as A K => ∃ g x : Int, as = [rf 36, ni g, ni x] ∧ (iva IC A ∧ ivf JC A ∧ 0 ≤ x ∧ x ≤ 99999) ∧ (∀ A' : qA, iva IC A' → ivf JC A' → frm [37, 38] [(36, 8)] A A' → K none A')
theorem okC_put36 : okM LC 1 75 sC_put36 := by
  refine qmeth [] false [] 29 rfl trivial ?_
  rintro _ A K hA has ⟨g, x, rfl, ⟨i0, j0, p1, p2⟩, hK⟩
  have rg_g : rng g := has (ni g) (by simp)
  have rg_x : rng x := has (ni x) (by simp)
  have f0 := frm_0 [37, 38] [(36, 8)] A
  refine ⟨Nat.le_of_ble_eq_true rfl, [], trivial, ?_⟩
  refine fun v3 gv3 e4 => ?_
  have b5 := ivf_at j0 9 rfl
  refine And.intro (fun h6 => ?_) (fun h6 => ?_)
  · exact hK _ i0 j0 f0
  · refine fun v7 gv7 e8 => ?_
    have b9 := ivf_at j0 9 rfl
    have q10 : v3 = v7 := (e8.trans e4.symm).symm
    subst q10
    refine And.intro (by omega) (fun A11 e12 => ?_)
    have i13 := iva_st i0 e12 trivial
    have j14 := ivf_sa j0 e12 rfl
    have f15 := frm_s f0 e12 rfl
    refine fun v16 gv16 e17 => ?_
    have b18 := ivf_at j14 9 rfl
    have q19 : v3 = v16 := (e17.trans ((congrFun (st_a e12 rfl) _).trans e8.symm)).symm
    subst q19
    refine And.intro (by omega) (fun A20 e21 => ?_)
    have i22 := iva_st i13 e21 (And.intro (by omega) trivial)
    have j23 := ivf_sa j14 e21 rfl
    have f24 := frm_s f15 e21 rfl
    refine fun v25 gv25 e26 => ?_
    have b27 := ivf_at j23 9 rfl
    have q28 : v3 = v25 := (e26.trans ((congrFun (st_a e21 rfl) _).trans e17.symm)).symm
    subst q28
    refine fun v29 e30 => ?_
    refine And.intro (by omega) (fun A31 e32 => ?_)
    have i33 := iva_sf i22 e32 rfl
    have j34 := ivf_st j23 e32 (And.intro (by omega) trivial)
    have f35 := frm_sf f24 e32 rfl
    exact hK _ i33 j34 f35
def sC_reckon36 : qS := fun as A K => ∃ f t : Int, as = [rf 36, ni f, ni t, rf 35] ∧ (iva IC A ∧ ivf JC A ∧ 0 ≤ f ∧ f ≤ 200 ∧ 0 ≤ t ∧ t ≤ 200 ∧ (KO A)) ∧ (∀ A' : qA, iva IC A' → ivf JC A' → frm [43] [(36, 9)] A A' → ∀ r : Int, rng r → K (some (ni r)) A')
theorem okC_reckon36 : okM LC 2 77 sC_reckon36 := by
  refine qmeth [] true [(78, sC_joined)] 186 rfl ⟨okC_joined.le (by decide), trivial⟩ ?_
  rintro _ A K hA has ⟨f, t, rfl, ⟨i0, j0, p1, p2, p3, p4, p5⟩, hK⟩
  have rg_f : rng f := has (ni f) (by simp)
  have rg_t : rng t := has (ni t) (by simp)
  have f0 := frm_0 [43] [(36, 9)] A
  refine ⟨Nat.le_of_ble_eq_true rfl, [(5, [(0, 2, 36), (2, 0, 0), (3, 2, 35), (4, 0, 0)], fun zs B nn => match zs with | [l2, k] => iva IC B ∧ ivf JC B ∧ frm [43] [(36, 9)] A B ∧ nn = (200 - k : Int).toNat ∧ (l2 = t) ∧ (0 ≤ k) ∧ (k ≤ 100000) | _ => False)], ?_, ?_⟩
  · refine ⟨⟨rfl, ?_⟩, trivial⟩
    · refine fun l2 k B mm hB hz hI => ?_
      obtain ⟨i1, j1, f1, hm, c0, c1, c2⟩ := hI
      obtain ⟨hz_l2, hz_k, _⟩ := hz
      refine And.intro (fun h11 => ?_) (fun h11 => ?_)
      · refine fun v12 gv12 e13 => ?_
        have b14 := ivf_at j1 10 rfl
        refine And.intro (fun h15 => ?_) (fun h15 => ?_)
        · exact hK _ i1 j1 f1 _ (by first | exact wI_rng _ | omega | (exact (hA _ _).2 rfl))
        · refine And.intro (by omega) (fun v16 gv16 e17 => ?_)
          exact hK _ i1 j1 f1 _ (by first | exact wI_rng _ | omega | (exact (hA _ _).2 rfl))
      · refine And.intro (fun h18 => by exfalso; omega) (fun h18 => ?_)
        refine And.intro (by omega) (fun v19 gv19 e20 => ?_)
        refine And.intro (fun h21 => ?_) (fun h21 => ?_)
        · refine fun v22 gv22 e23 => ?_
          have b24 := ivf_at j1 10 rfl
          refine And.intro (fun h25 => ?_) (fun h25 => ?_)
          · refine fun v26 gv26 e27 => ?_
            have b28 := ivf_at j1 10 rfl
            have q29 : v22 = v26 := (e27.trans e23.symm).symm
            subst q29
            refine And.intro (fun h30 => by exfalso; omega) (fun h30 => ?_)
            refine And.intro (by omega) (fun v31 gv31 e32 => ?_)
            have b33 := iva_at i1 34 rfl (i := k) (by omega) (by omega)
            refine And.intro (by omega) (fun A34 e35 => ?_)
            have i36 := iva_st i1 e35 trivial
            have j37 := ivf_sa j1 e35 rfl
            have f38 := frm_s f1 e35 rfl
            refine fun v39 gv39 e40 => ?_
            have b41 := ivf_at j37 10 rfl
            have q42 : v22 = v39 := (e40.trans ((congrFun (st_a e35 rfl) _).trans e27.symm)).symm
            subst q42
            refine fun v43 e44 => ?_
            have w47 := wI_rng v43
            have w48 : wI v43 = v43 := wI_id (by omega)
            refine fun A45 e46 => ?_
            have i49 := iva_sf i36 e46 rfl
            have j50 := ivf_st j37 e46 (And.intro (by omega) trivial)
            have f51 := frm_sf f38 e46 rfl
            refine fun v52 e53 => ?_
            have w54 := wI_rng v52
            have w55 : wI v52 = v52 := wI_id (by omega)
            exact Exists.intro (200 - ((wI v52)) : Int).toNat (And.intro (by omega) (And.intro i49 (And.intro j50 (And.intro f51 (And.intro rfl (And.intro (by omega) (And.intro (by omega) (by omega))))))))
          · exact hK _ i1 j1 f1 _ (by first | exact wI_rng _ | omega | (exact (hA _ _).2 rfl))
        · refine And.intro (fun h56 => ?_) (fun h56 => ?_)
          · refine fun v57 gv57 e58 => ?_
            have b59 := ivf_at j1 10 rfl
            refine And.intro (fun h60 => ?_) (fun h60 => ?_)
            · refine And.intro (fun h61 => ?_) (fun h61 => ?_)
              · refine And.intro (fun h62 => ?_) (fun h62 => ?_)
                · refine fun v63 gv63 e64 => ?_
                  have b65 := ivf_at j1 10 rfl
                  have q66 : v57 = v63 := (e64.trans e58.symm).symm
                  subst q66
                  refine fun v67 e68 => ?_
                  refine And.intro (by omega) (fun v69 gv69 e70 => ?_)
                  refine And.intro (fun h71 => ?_) (fun h71 => ?_)
                  · refine And.intro (fun h72 => ?_) (fun h72 => by exfalso; omega)
                    refine And.intro (fun h73 => by exfalso; omega) (fun h73 => ?_)
                    refine And.intro (by omega) (fun v74 gv74 e75 => ?_)
                    have b76 := iva_at i1 34 rfl (i := k) (by omega) (by omega)
                    refine fun v77 e78 => ?_
                    have w81 := wI_rng v77
                    have w82 : wI v77 = v77 := wI_id (by omega)
                    refine (fun v79 e80 => ?_)
                    refine fun v83 e84 => ?_
                    have w85 := wI_rng v83
                    have w86 : wI v83 = v83 := wI_id (by omega)
                    exact Exists.intro (200 - ((wI v83)) : Int).toNat (And.intro (by omega) (And.intro i1 (And.intro j1 (And.intro f1 (And.intro rfl (And.intro (by omega) (And.intro (by omega) (by omega))))))))
                  · refine And.intro (fun h87 => ?_) (fun h87 => by exfalso; omega)
                    refine And.intro (fun h88 => ?_) (fun h88 => by exfalso; omega)
                    refine fun v89 gv89 e90 => ?_
                    have b91 := ivf_at j1 10 rfl
                    have q92 : v57 = v89 := (e90.trans e64.symm).symm
                    subst q92
                    refine fun v93 e94 => ?_
                    have w97 := wI_rng v93
                    have w98 : wI v93 = v93 := wI_id (by omega)
                    refine fun A95 e96 => ?_
                    have i99 := iva_sf i1 e96 rfl
                    have j100 := ivf_st j1 e96 (And.intro (by omega) trivial)
                    have f101 := frm_sf f1 e96 rfl
                    refine fun v102 e103 => ?_
                    have w104 := wI_rng v102
                    have w105 : wI v102 = v102 := wI_id (by omega)
                    exact Exists.intro (200 - ((wI v102)) : Int).toNat (And.intro (by omega) (And.intro i99 (And.intro j100 (And.intro f101 (And.intro rfl (And.intro (by omega) (And.intro (by omega) (by omega))))))))
                · refine And.intro (fun h106 => ?_) (fun h106 => ?_)
                  · refine fun v107 gv107 e108 => ?_
                    have b109 := ivf_at j1 10 rfl
                    have q110 : v57 = v107 := (e108.trans e58.symm).symm
                    subst q110
                    refine And.intro (fun h111 => ?_) (fun h111 => ?_)
                    · exact hK _ i1 j1 f1 _ (by first | exact wI_rng _ | omega | (exact (hA _ _).2 rfl))
                    · refine fun v112 gv112 e113 => ?_
                      have b114 := ivf_at j1 10 rfl
                      have q115 : v57 = v112 := (e113.trans e108.symm).symm
                      subst q115
                      refine fun v116 e117 => ?_
                      refine And.intro (by omega) (fun v118 gv118 e119 => ?_)
                      refine And.intro (fun h120 => ?_) (fun h120 => ?_)
                      · refine fun v121 gv121 e122 => ?_
                        have b123 := ivf_at j1 10 rfl
                        have q124 : v57 = v121 := (e122.trans e113.symm).symm
                        subst q124
                        refine fun v125 e126 => ?_
                        have w129 := wI_rng v125
                        have w130 : wI v125 = v125 := wI_id (by omega)
                        refine fun A127 e128 => ?_
                        have i131 := iva_sf i1 e128 rfl
                        have j132 := ivf_st j1 e128 (And.intro (by omega) trivial)
                        have f133 := frm_sf f1 e128 rfl
                        refine fun v134 gv134 e135 => ?_
                        have b136 := ivf_at j132 10 rfl
                        have q137 : (wI v125) = v134 := (e135.trans (st_v e128)).symm
                        subst q137
                        refine fun v138 e139 => ?_
                        refine fun v140 gv140 e141 => ?_
                        have b142 := ivf_at j132 10 rfl
                        have q143 : (wI v125) = v140 := (e141.trans e135.symm).symm
                        subst q143
                        refine fun v144 e145 => ?_
                        refine And.intro (by omega) (fun v146 gv146 e147 => ?_)
                        refine fun v148 gv148 e149 => ?_
                        have b150 := ivf_at j132 10 rfl
                        have q151 : (wI v125) = v148 := (e149.trans e141.symm).symm
                        subst q151
                        refine And.intro (by omega) (fun v152 gv152 e153 => ?_)
                        refine Exists.intro v19 (Exists.intro v146 (Exists.intro v152 (And.intro rfl (fun r154 g155 => ?_))))
                        refine And.intro (by omega) (fun A156 e157 => ?_)
                        have i158 := iva_st i131 e157 trivial
                        have j159 := ivf_sa j132 e157 rfl
                        have f160 := frm_s f133 e157 rfl
                        refine fun v161 e162 => ?_
                        have w163 := wI_rng v161
                        have w164 : wI v161 = v161 := wI_id (by omega)
                        exact Exists.intro (200 - ((wI v161)) : Int).toNat (And.intro (by omega) (And.intro i158 (And.intro j159 (And.intro f160 (And.intro rfl (And.intro (by omega) (And.intro (by omega) (by omega))))))))
                      · refine And.intro (fun h165 => ?_) (fun h165 => ?_)
                        · exact hK _ i1 j1 f1 _ (by first | exact wI_rng _ | omega | (exact (hA _ _).2 rfl))
                        · refine And.intro (fun h166 => ?_) (fun h166 => ?_)
                          · refine fun v167 gv167 e168 => ?_
                            have b169 := ivf_at j1 10 rfl
                            have q170 : v57 = v167 := (e168.trans e113.symm).symm
                            subst q170
                            refine fun v171 e172 => ?_
                            have w175 := wI_rng v171
                            have w176 : wI v171 = v171 := wI_id (by omega)
                            refine fun A173 e174 => ?_
                            have i177 := iva_sf i1 e174 rfl
                            have j178 := ivf_st j1 e174 (And.intro (by omega) trivial)
                            have f179 := frm_sf f1 e174 rfl
                            refine fun v180 gv180 e181 => ?_
                            have b182 := ivf_at j178 10 rfl
                            have q183 : (wI v171) = v180 := (e181.trans (st_v e174)).symm
                            subst q183
                            refine fun v184 e185 => ?_
                            refine fun v186 gv186 e187 => ?_
                            have b188 := ivf_at j178 10 rfl
                            have q189 : (wI v171) = v186 := (e187.trans e181.symm).symm
                            subst q189
                            refine fun v190 e191 => ?_
                            refine And.intro (by omega) (fun v192 gv192 e193 => ?_)
                            refine fun v194 gv194 e195 => ?_
                            have b196 := ivf_at j178 10 rfl
                            have q197 : (wI v171) = v194 := (e195.trans e187.symm).symm
                            subst q197
                            refine And.intro (by omega) (fun v198 gv198 e199 => ?_)
                            refine Exists.intro v19 (Exists.intro v192 (Exists.intro v198 (And.intro rfl (fun r200 g201 => ?_))))
                            refine And.intro (by omega) (fun A202 e203 => ?_)
                            have i204 := iva_st i177 e203 trivial
                            have j205 := ivf_sa j178 e203 rfl
                            have f206 := frm_s f179 e203 rfl
                            refine fun v207 e208 => ?_
                            have w209 := wI_rng v207
                            have w210 : wI v207 = v207 := wI_id (by omega)
                            exact Exists.intro (200 - ((wI v207)) : Int).toNat (And.intro (by omega) (And.intro i204 (And.intro j205 (And.intro f206 (And.intro rfl (And.intro (by omega) (And.intro (by omega) (by omega))))))))
                          · exact hK _ i1 j1 f1 _ (by first | exact wI_rng _ | omega | (exact (hA _ _).2 rfl))
                  · refine fun v211 gv211 e212 => ?_
                    have b213 := ivf_at j1 10 rfl
                    have q214 : v57 = v211 := (e212.trans e58.symm).symm
                    subst q214
                    refine fun v215 e216 => ?_
                    refine And.intro (by omega) (fun v217 gv217 e218 => ?_)
                    refine And.intro (fun h219 => ?_) (fun h219 => ?_)
                    · refine And.intro (fun h220 => by exfalso; omega) (fun h220 => ?_)
                      refine And.intro (fun h221 => ?_) (fun h221 => by exfalso; omega)
                      refine fun v222 gv222 e223 => ?_
                      have b224 := ivf_at j1 10 rfl
                      have q225 : v57 = v222 := (e223.trans e212.symm).symm
                      subst q225
                      refine fun v226 e227 => ?_
                      have w230 := wI_rng v226
                      have w231 : wI v226 = v226 := wI_id (by omega)
                      refine fun A228 e229 => ?_
                      have i232 := iva_sf i1 e229 rfl
                      have j233 := ivf_st j1 e229 (And.intro (by omega) trivial)
                      have f234 := frm_sf f1 e229 rfl
                      refine fun v235 e236 => ?_
                      have w237 := wI_rng v235
                      have w238 : wI v235 = v235 := wI_id (by omega)
                      exact Exists.intro (200 - ((wI v235)) : Int).toNat (And.intro (by omega) (And.intro i232 (And.intro j233 (And.intro f234 (And.intro rfl (And.intro (by omega) (And.intro (by omega) (by omega))))))))
                    · refine And.intro (fun h239 => by exfalso; omega) (fun h239 => ?_)
                      refine And.intro (fun h240 => by exfalso; omega) (fun h240 => ?_)
                      refine And.intro (by omega) (fun v241 gv241 e242 => ?_)
                      have b243 := iva_at i1 34 rfl (i := k) (by omega) (by omega)
                      refine fun v244 e245 => ?_
                      have w248 := wI_rng v244
                      have w249 : wI v244 = v244 := wI_id (by omega)
                      refine (fun v246 e247 => ?_)
                      refine fun v250 e251 => ?_
                      have w252 := wI_rng v250
                      have w253 : wI v250 = v250 := wI_id (by omega)
                      exact Exists.intro (200 - ((wI v250)) : Int).toNat (And.intro (by omega) (And.intro i1 (And.intro j1 (And.intro f1 (And.intro rfl (And.intro (by omega) (And.intro (by omega) (by omega))))))))
              · refine fun v254 gv254 e255 => ?_
                have b256 := ivf_at j1 10 rfl
                have q257 : v57 = v254 := (e255.trans e58.symm).symm
                subst q257
                refine fun v258 e259 => ?_
                refine fun v260 gv260 e261 => ?_
                have b262 := ivf_at j1 10 rfl
                have q263 : v57 = v260 := (e261.trans e255.symm).symm
                subst q263
                refine fun v264 e265 => ?_
                refine And.intro (by omega) (fun v266 gv266 e267 => ?_)
                refine fun v268 e269 => ?_
                have w272 := wI_rng v268
                refine And.intro (by omega) (fun A270 e271 => ?_)
                have i273 := iva_st i1 e271 trivial
                have j274 := ivf_sa j1 e271 rfl
                have f275 := frm_s f1 e271 rfl
                refine fun v276 e277 => ?_
                have w278 := wI_rng v276
                have w279 : wI v276 = v276 := wI_id (by omega)
                exact Exists.intro (200 - ((wI v276)) : Int).toNat (And.intro (by omega) (And.intro i273 (And.intro j274 (And.intro f275 (And.intro rfl (And.intro (by omega) (And.intro (by omega) (by omega))))))))
            · exact hK _ i1 j1 f1 _ (by first | exact wI_rng _ | omega | (exact (hA _ _).2 rfl))
          · refine fun v280 gv280 e281 => ?_
            have b282 := ivf_at j1 10 rfl
            refine And.intro (fun h283 => ?_) (fun h283 => ?_)
            · refine fun v284 gv284 e285 => ?_
              have b286 := ivf_at j1 10 rfl
              have q287 : v280 = v284 := (e285.trans e281.symm).symm
              subst q287
              refine And.intro (fun h288 => ?_) (fun h288 => by exfalso; omega)
              refine And.intro (by omega) (fun v289 gv289 e290 => ?_)
              have b291 := iva_at i1 34 rfl (i := k) (by omega) (by omega)
              have kk := (KO_fr p5 f1 rfl).1 k (by omega) (by omega)
              refine And.intro (by omega) (fun v292 gv292 e293 => ?_)
              refine And.intro (by omega) (fun A294 e295 => ?_)
              have i296 := iva_st i1 e295 trivial
              have j297 := ivf_sa j1 e295 rfl
              have f298 := frm_s f1 e295 rfl
              refine fun v299 gv299 e300 => ?_
              have b301 := ivf_at j297 10 rfl
              have q302 : v280 = v299 := (e300.trans ((congrFun (st_a e295 rfl) _).trans e285.symm)).symm
              subst q302
              refine fun v303 e304 => ?_
              have w307 := wI_rng v303
              have w308 : wI v303 = v303 := wI_id (by omega)
              refine fun A305 e306 => ?_
              have i309 := iva_sf i296 e306 rfl
              have j310 := ivf_st j297 e306 (And.intro (by omega) trivial)
              have f311 := frm_sf f298 e306 rfl
              refine fun v312 e313 => ?_
              have w314 := wI_rng v312
              have w315 : wI v312 = v312 := wI_id (by omega)
              exact Exists.intro (200 - ((wI v312)) : Int).toNat (And.intro (by omega) (And.intro i309 (And.intro j310 (And.intro f311 (And.intro rfl (And.intro (by omega) (And.intro (by omega) (by omega))))))))
            · exact hK _ i1 j1 f1 _ (by first | exact wI_rng _ | omega | (exact (hA _ _).2 rfl))
  · refine fun A6 e7 => ?_
    have i8 := iva_sf i0 e7 rfl
    have j9 := ivf_st j0 e7 (And.intro (by omega) trivial)
    have f10 := frm_sf f0 e7 rfl
    exact Exists.intro (200 - f : Int).toNat (And.intro i8 (And.intro j9 (And.intro f10 (And.intro rfl (And.intro (by omega) (And.intro (by omega) (by omega)))))))
def sC_answer36 : qS := fun as A K => ∃ w m : Int, as = [rf 36, ni w, ni m, rf 35] ∧ (iva IC A ∧ ivf JC A ∧ 0 ≤ m ∧ m ≤ 1000 ∧ (KO A)) ∧ (∀ A' : qA, iva IC A' → ivf JC A' → frm [43] [(36, 9)] A A' → ∀ r : Int, 0 ≤ r → r ≤ 1000 → (r ≤ m) → K (some (ni r)) A')
theorem okC_answer36 : okM LC 3 76 sC_answer36 := by
  refine qmeth [] false [(77, sC_reckon36)] 53 rfl ⟨okC_reckon36.le (by decide), trivial⟩ ?_
  rintro _ A K hA has ⟨w, m, rfl, ⟨i0, j0, p1, p2, p3⟩, hK⟩
  have rg_w : rng w := has (ni w) (by simp)
  have rg_m : rng m := has (ni m) (by simp)
  have f0 := frm_0 [43] [(36, 9)] A
  refine ⟨Nat.le_of_ble_eq_true rfl, [(2, [(0, 2, 36), (1, 0, 0), (2, 0, 0), (3, 2, 35), (4, 0, 0)], fun zs B nn => match zs with | [l1, l2, i] => iva IC B ∧ ivf JC B ∧ frm [43] [(36, 9)] A B ∧ nn = (14 - i : Int).toNat ∧ (l1 = w) ∧ (l2 = m) ∧ (0 ≤ i) ∧ (i ≤ 14) | _ => False)], ?_, ?_⟩
  · refine ⟨⟨rfl, ?_⟩, trivial⟩
    · refine fun l1 l2 i B mm hB hz hI => ?_
      obtain ⟨i1, j1, f1, hm, c0, c1, c2, c3⟩ := hI
      obtain ⟨hz_l1, hz_l2, hz_i, _⟩ := hz
      refine fun v4 gv4 e5 => ?_
      have b6 := ivf_at j1 8 rfl
      refine And.intro (fun h7 => ?_) (fun h7 => ?_)
      · exact hK _ i1 j1 f1 _ (by omega) (by omega) (by first | assumption | omega | simp_all)
      · refine And.intro (fun h8 => by exfalso; omega) (fun h8 => ?_)
        refine And.intro (by omega) (fun v9 gv9 e10 => ?_)
        refine And.intro (fun h11 => ?_) (fun h11 => ?_)
        · refine fun v12 e13 => ?_
          exact And.intro (by omega) (Exists.intro (14 - v12 : Int).toNat (And.intro (by omega) (And.intro i1 (And.intro j1 (And.intro f1 (And.intro rfl (And.intro (by omega) (And.intro (by omega) (And.intro (by omega) (by omega))))))))))
        · refine And.intro (by omega) (fun v14 gv14 e15 => ?_)
          have b16 := iva_at i1 37 rfl (i := i) (by omega) (by omega)
          refine And.intro (by omega) (fun v17 gv17 e18 => ?_)
          have b19 := iva_at i1 38 rfl (i := i) (by omega) (by omega)
          refine Exists.intro v14 (Exists.intro v17 (And.intro rfl (And.intro (And.intro i1 (And.intro j1 (And.intro (by omega) (And.intro (by omega) (And.intro (by omega) (And.intro (by omega) (KO_fr p3 f1 rfl))))))) (fun A20 i21 j22 f23 r24 g25 => ?_))))
          have f26 := frm_c f1 f23 rfl
          refine And.intro (fun h27 => ?_) (fun h27 => ?_)
          · refine fun v28 e29 => ?_
            exact And.intro (by omega) (Exists.intro (14 - v28 : Int).toNat (And.intro (by omega) (And.intro i21 (And.intro j22 (And.intro f26 (And.intro rfl (And.intro (by omega) (And.intro (by omega) (And.intro (by omega) (by omega))))))))))
          · refine And.intro (by omega) (fun v30 gv30 e31 => ?_)
            have b32 := iva_at i21 36 rfl (i := i) (by omega) (by omega)
            refine And.intro (by omega) (fun v33 gv33 e34 => ?_)
            have b35 := iva_at i21 37 rfl (i := i) (by omega) (by omega)
            have q36 : v14 = v33 := (e34.trans ((congrFun (frm_a f23 rfl) _).trans e15.symm)).symm
            subst q36
            refine Exists.intro v30 (Exists.intro v14 (And.intro rfl (And.intro (And.intro i21 (And.intro j22 (And.intro (by omega) (And.intro (by omega) (And.intro (by omega) (And.intro (by omega) (KO_fr p3 f26 rfl))))))) (fun A37 i38 j39 f40 r41 g42 => ?_))))
            have f43 := frm_c f26 f40 rfl
            refine (fun v44 e45 => ?_)
            refine (fun v46 e47 => ?_)
            exact hK _ i38 j39 f43 _ (by omega) (by omega) (by first | assumption | omega | simp_all)
  · exact Exists.intro (14 - 0 : Int).toNat (And.intro i0 (And.intro j0 (And.intro f0 (And.intro rfl (And.intro (by omega) (And.intro (by omega) (And.intro (by omega) (by omega))))))))
def sC_put71 : qS := fun as A K => ∃ g x : Int, as = [rf 71, ni g, ni x] ∧ (iva IC A ∧ ivf JC A ∧ 0 ≤ x ∧ x ≤ 99999) ∧ (∀ A' : qA, iva IC A' → ivf JC A' → frm [72, 73] [(71, 8)] A A' → K none A')
theorem okC_put71 : okM LC 1 75 sC_put71 := by
  refine qmeth [] false [] 29 rfl trivial ?_
  rintro _ A K hA has ⟨g, x, rfl, ⟨i0, j0, p1, p2⟩, hK⟩
  have rg_g : rng g := has (ni g) (by simp)
  have rg_x : rng x := has (ni x) (by simp)
  have f0 := frm_0 [72, 73] [(71, 8)] A
  refine ⟨Nat.le_of_ble_eq_true rfl, [], trivial, ?_⟩
  refine fun v3 gv3 e4 => ?_
  have b5 := ivf_at j0 12 rfl
  refine And.intro (fun h6 => ?_) (fun h6 => ?_)
  · exact hK _ i0 j0 f0
  · refine fun v7 gv7 e8 => ?_
    have b9 := ivf_at j0 12 rfl
    have q10 : v3 = v7 := (e8.trans e4.symm).symm
    subst q10
    refine And.intro (by omega) (fun A11 e12 => ?_)
    have i13 := iva_st i0 e12 trivial
    have j14 := ivf_sa j0 e12 rfl
    have f15 := frm_s f0 e12 rfl
    refine fun v16 gv16 e17 => ?_
    have b18 := ivf_at j14 12 rfl
    have q19 : v3 = v16 := (e17.trans ((congrFun (st_a e12 rfl) _).trans e8.symm)).symm
    subst q19
    refine And.intro (by omega) (fun A20 e21 => ?_)
    have i22 := iva_st i13 e21 (And.intro (by omega) trivial)
    have j23 := ivf_sa j14 e21 rfl
    have f24 := frm_s f15 e21 rfl
    refine fun v25 gv25 e26 => ?_
    have b27 := ivf_at j23 12 rfl
    have q28 : v3 = v25 := (e26.trans ((congrFun (st_a e21 rfl) _).trans e17.symm)).symm
    subst q28
    refine fun v29 e30 => ?_
    refine And.intro (by omega) (fun A31 e32 => ?_)
    have i33 := iva_sf i22 e32 rfl
    have j34 := ivf_st j23 e32 (And.intro (by omega) trivial)
    have f35 := frm_sf f24 e32 rfl
    exact hK _ i33 j34 f35
def sC_reckon71 : qS := fun as A K => ∃ f t : Int, as = [rf 71, ni f, ni t, rf 35] ∧ (iva IC A ∧ ivf JC A ∧ 0 ≤ f ∧ f ≤ 200 ∧ 0 ≤ t ∧ t ≤ 200 ∧ (KO A)) ∧ (∀ A' : qA, iva IC A' → ivf JC A' → frm [78] [(71, 9)] A A' → ∀ r : Int, rng r → K (some (ni r)) A')
theorem okC_reckon71 : okM LC 2 77 sC_reckon71 := by
  refine qmeth [] true [(78, sC_joined)] 186 rfl ⟨okC_joined.le (by decide), trivial⟩ ?_
  rintro _ A K hA has ⟨f, t, rfl, ⟨i0, j0, p1, p2, p3, p4, p5⟩, hK⟩
  have rg_f : rng f := has (ni f) (by simp)
  have rg_t : rng t := has (ni t) (by simp)
  have f0 := frm_0 [78] [(71, 9)] A
  refine ⟨Nat.le_of_ble_eq_true rfl, [(5, [(0, 2, 71), (2, 0, 0), (3, 2, 35), (4, 0, 0)], fun zs B nn => match zs with | [l2, k] => iva IC B ∧ ivf JC B ∧ frm [78] [(71, 9)] A B ∧ nn = (200 - k : Int).toNat ∧ (l2 = t) ∧ (0 ≤ k) ∧ (k ≤ 100000) | _ => False)], ?_, ?_⟩
  · refine ⟨⟨rfl, ?_⟩, trivial⟩
    · refine fun l2 k B mm hB hz hI => ?_
      obtain ⟨i1, j1, f1, hm, c0, c1, c2⟩ := hI
      obtain ⟨hz_l2, hz_k, _⟩ := hz
      refine And.intro (fun h11 => ?_) (fun h11 => ?_)
      · refine fun v12 gv12 e13 => ?_
        have b14 := ivf_at j1 13 rfl
        refine And.intro (fun h15 => ?_) (fun h15 => ?_)
        · exact hK _ i1 j1 f1 _ (by first | exact wI_rng _ | omega | (exact (hA _ _).2 rfl))
        · refine And.intro (by omega) (fun v16 gv16 e17 => ?_)
          exact hK _ i1 j1 f1 _ (by first | exact wI_rng _ | omega | (exact (hA _ _).2 rfl))
      · refine And.intro (fun h18 => by exfalso; omega) (fun h18 => ?_)
        refine And.intro (by omega) (fun v19 gv19 e20 => ?_)
        refine And.intro (fun h21 => ?_) (fun h21 => ?_)
        · refine fun v22 gv22 e23 => ?_
          have b24 := ivf_at j1 13 rfl
          refine And.intro (fun h25 => ?_) (fun h25 => ?_)
          · refine fun v26 gv26 e27 => ?_
            have b28 := ivf_at j1 13 rfl
            have q29 : v22 = v26 := (e27.trans e23.symm).symm
            subst q29
            refine And.intro (fun h30 => by exfalso; omega) (fun h30 => ?_)
            refine And.intro (by omega) (fun v31 gv31 e32 => ?_)
            have b33 := iva_at i1 35 rfl (i := k) (by omega) (by omega)
            refine And.intro (by omega) (fun A34 e35 => ?_)
            have i36 := iva_st i1 e35 trivial
            have j37 := ivf_sa j1 e35 rfl
            have f38 := frm_s f1 e35 rfl
            refine fun v39 gv39 e40 => ?_
            have b41 := ivf_at j37 13 rfl
            have q42 : v22 = v39 := (e40.trans ((congrFun (st_a e35 rfl) _).trans e27.symm)).symm
            subst q42
            refine fun v43 e44 => ?_
            have w47 := wI_rng v43
            have w48 : wI v43 = v43 := wI_id (by omega)
            refine fun A45 e46 => ?_
            have i49 := iva_sf i36 e46 rfl
            have j50 := ivf_st j37 e46 (And.intro (by omega) trivial)
            have f51 := frm_sf f38 e46 rfl
            refine fun v52 e53 => ?_
            have w54 := wI_rng v52
            have w55 : wI v52 = v52 := wI_id (by omega)
            exact Exists.intro (200 - ((wI v52)) : Int).toNat (And.intro (by omega) (And.intro i49 (And.intro j50 (And.intro f51 (And.intro rfl (And.intro (by omega) (And.intro (by omega) (by omega))))))))
          · exact hK _ i1 j1 f1 _ (by first | exact wI_rng _ | omega | (exact (hA _ _).2 rfl))
        · refine And.intro (fun h56 => ?_) (fun h56 => ?_)
          · refine fun v57 gv57 e58 => ?_
            have b59 := ivf_at j1 13 rfl
            refine And.intro (fun h60 => ?_) (fun h60 => ?_)
            · refine And.intro (fun h61 => ?_) (fun h61 => ?_)
              · refine And.intro (fun h62 => ?_) (fun h62 => ?_)
                · refine fun v63 gv63 e64 => ?_
                  have b65 := ivf_at j1 13 rfl
                  have q66 : v57 = v63 := (e64.trans e58.symm).symm
                  subst q66
                  refine fun v67 e68 => ?_
                  refine And.intro (by omega) (fun v69 gv69 e70 => ?_)
                  refine And.intro (fun h71 => ?_) (fun h71 => ?_)
                  · refine And.intro (fun h72 => ?_) (fun h72 => by exfalso; omega)
                    refine And.intro (fun h73 => by exfalso; omega) (fun h73 => ?_)
                    refine And.intro (by omega) (fun v74 gv74 e75 => ?_)
                    have b76 := iva_at i1 35 rfl (i := k) (by omega) (by omega)
                    refine fun v77 e78 => ?_
                    have w81 := wI_rng v77
                    have w82 : wI v77 = v77 := wI_id (by omega)
                    refine (fun v79 e80 => ?_)
                    refine fun v83 e84 => ?_
                    have w85 := wI_rng v83
                    have w86 : wI v83 = v83 := wI_id (by omega)
                    exact Exists.intro (200 - ((wI v83)) : Int).toNat (And.intro (by omega) (And.intro i1 (And.intro j1 (And.intro f1 (And.intro rfl (And.intro (by omega) (And.intro (by omega) (by omega))))))))
                  · refine And.intro (fun h87 => ?_) (fun h87 => by exfalso; omega)
                    refine And.intro (fun h88 => ?_) (fun h88 => by exfalso; omega)
                    refine fun v89 gv89 e90 => ?_
                    have b91 := ivf_at j1 13 rfl
                    have q92 : v57 = v89 := (e90.trans e64.symm).symm
                    subst q92
                    refine fun v93 e94 => ?_
                    have w97 := wI_rng v93
                    have w98 : wI v93 = v93 := wI_id (by omega)
                    refine fun A95 e96 => ?_
                    have i99 := iva_sf i1 e96 rfl
                    have j100 := ivf_st j1 e96 (And.intro (by omega) trivial)
                    have f101 := frm_sf f1 e96 rfl
                    refine fun v102 e103 => ?_
                    have w104 := wI_rng v102
                    have w105 : wI v102 = v102 := wI_id (by omega)
                    exact Exists.intro (200 - ((wI v102)) : Int).toNat (And.intro (by omega) (And.intro i99 (And.intro j100 (And.intro f101 (And.intro rfl (And.intro (by omega) (And.intro (by omega) (by omega))))))))
                · refine And.intro (fun h106 => ?_) (fun h106 => ?_)
                  · refine fun v107 gv107 e108 => ?_
                    have b109 := ivf_at j1 13 rfl
                    have q110 : v57 = v107 := (e108.trans e58.symm).symm
                    subst q110
                    refine And.intro (fun h111 => ?_) (fun h111 => ?_)
                    · exact hK _ i1 j1 f1 _ (by first | exact wI_rng _ | omega | (exact (hA _ _).2 rfl))
                    · refine fun v112 gv112 e113 => ?_
                      have b114 := ivf_at j1 13 rfl
                      have q115 : v57 = v112 := (e113.trans e108.symm).symm
                      subst q115
                      refine fun v116 e117 => ?_
                      refine And.intro (by omega) (fun v118 gv118 e119 => ?_)
                      refine And.intro (fun h120 => ?_) (fun h120 => ?_)
                      · refine fun v121 gv121 e122 => ?_
                        have b123 := ivf_at j1 13 rfl
                        have q124 : v57 = v121 := (e122.trans e113.symm).symm
                        subst q124
                        refine fun v125 e126 => ?_
                        have w129 := wI_rng v125
                        have w130 : wI v125 = v125 := wI_id (by omega)
                        refine fun A127 e128 => ?_
                        have i131 := iva_sf i1 e128 rfl
                        have j132 := ivf_st j1 e128 (And.intro (by omega) trivial)
                        have f133 := frm_sf f1 e128 rfl
                        refine fun v134 gv134 e135 => ?_
                        have b136 := ivf_at j132 13 rfl
                        have q137 : (wI v125) = v134 := (e135.trans (st_v e128)).symm
                        subst q137
                        refine fun v138 e139 => ?_
                        refine fun v140 gv140 e141 => ?_
                        have b142 := ivf_at j132 13 rfl
                        have q143 : (wI v125) = v140 := (e141.trans e135.symm).symm
                        subst q143
                        refine fun v144 e145 => ?_
                        refine And.intro (by omega) (fun v146 gv146 e147 => ?_)
                        refine fun v148 gv148 e149 => ?_
                        have b150 := ivf_at j132 13 rfl
                        have q151 : (wI v125) = v148 := (e149.trans e141.symm).symm
                        subst q151
                        refine And.intro (by omega) (fun v152 gv152 e153 => ?_)
                        refine Exists.intro v19 (Exists.intro v146 (Exists.intro v152 (And.intro rfl (fun r154 g155 => ?_))))
                        refine And.intro (by omega) (fun A156 e157 => ?_)
                        have i158 := iva_st i131 e157 trivial
                        have j159 := ivf_sa j132 e157 rfl
                        have f160 := frm_s f133 e157 rfl
                        refine fun v161 e162 => ?_
                        have w163 := wI_rng v161
                        have w164 : wI v161 = v161 := wI_id (by omega)
                        exact Exists.intro (200 - ((wI v161)) : Int).toNat (And.intro (by omega) (And.intro i158 (And.intro j159 (And.intro f160 (And.intro rfl (And.intro (by omega) (And.intro (by omega) (by omega))))))))
                      · refine And.intro (fun h165 => ?_) (fun h165 => ?_)
                        · exact hK _ i1 j1 f1 _ (by first | exact wI_rng _ | omega | (exact (hA _ _).2 rfl))
                        · refine And.intro (fun h166 => ?_) (fun h166 => ?_)
                          · refine fun v167 gv167 e168 => ?_
                            have b169 := ivf_at j1 13 rfl
                            have q170 : v57 = v167 := (e168.trans e113.symm).symm
                            subst q170
                            refine fun v171 e172 => ?_
                            have w175 := wI_rng v171
                            have w176 : wI v171 = v171 := wI_id (by omega)
                            refine fun A173 e174 => ?_
                            have i177 := iva_sf i1 e174 rfl
                            have j178 := ivf_st j1 e174 (And.intro (by omega) trivial)
                            have f179 := frm_sf f1 e174 rfl
                            refine fun v180 gv180 e181 => ?_
                            have b182 := ivf_at j178 13 rfl
                            have q183 : (wI v171) = v180 := (e181.trans (st_v e174)).symm
                            subst q183
                            refine fun v184 e185 => ?_
                            refine fun v186 gv186 e187 => ?_
                            have b188 := ivf_at j178 13 rfl
                            have q189 : (wI v171) = v186 := (e187.trans e181.symm).symm
                            subst q189
                            refine fun v190 e191 => ?_
                            refine And.intro (by omega) (fun v192 gv192 e193 => ?_)
                            refine fun v194 gv194 e195 => ?_
                            have b196 := ivf_at j178 13 rfl
                            have q197 : (wI v171) = v194 := (e195.trans e187.symm).symm
                            subst q197
                            refine And.intro (by omega) (fun v198 gv198 e199 => ?_)
                            refine Exists.intro v19 (Exists.intro v192 (Exists.intro v198 (And.intro rfl (fun r200 g201 => ?_))))
                            refine And.intro (by omega) (fun A202 e203 => ?_)
                            have i204 := iva_st i177 e203 trivial
                            have j205 := ivf_sa j178 e203 rfl
                            have f206 := frm_s f179 e203 rfl
                            refine fun v207 e208 => ?_
                            have w209 := wI_rng v207
                            have w210 : wI v207 = v207 := wI_id (by omega)
                            exact Exists.intro (200 - ((wI v207)) : Int).toNat (And.intro (by omega) (And.intro i204 (And.intro j205 (And.intro f206 (And.intro rfl (And.intro (by omega) (And.intro (by omega) (by omega))))))))
                          · exact hK _ i1 j1 f1 _ (by first | exact wI_rng _ | omega | (exact (hA _ _).2 rfl))
                  · refine fun v211 gv211 e212 => ?_
                    have b213 := ivf_at j1 13 rfl
                    have q214 : v57 = v211 := (e212.trans e58.symm).symm
                    subst q214
                    refine fun v215 e216 => ?_
                    refine And.intro (by omega) (fun v217 gv217 e218 => ?_)
                    refine And.intro (fun h219 => ?_) (fun h219 => ?_)
                    · refine And.intro (fun h220 => by exfalso; omega) (fun h220 => ?_)
                      refine And.intro (fun h221 => ?_) (fun h221 => by exfalso; omega)
                      refine fun v222 gv222 e223 => ?_
                      have b224 := ivf_at j1 13 rfl
                      have q225 : v57 = v222 := (e223.trans e212.symm).symm
                      subst q225
                      refine fun v226 e227 => ?_
                      have w230 := wI_rng v226
                      have w231 : wI v226 = v226 := wI_id (by omega)
                      refine fun A228 e229 => ?_
                      have i232 := iva_sf i1 e229 rfl
                      have j233 := ivf_st j1 e229 (And.intro (by omega) trivial)
                      have f234 := frm_sf f1 e229 rfl
                      refine fun v235 e236 => ?_
                      have w237 := wI_rng v235
                      have w238 : wI v235 = v235 := wI_id (by omega)
                      exact Exists.intro (200 - ((wI v235)) : Int).toNat (And.intro (by omega) (And.intro i232 (And.intro j233 (And.intro f234 (And.intro rfl (And.intro (by omega) (And.intro (by omega) (by omega))))))))
                    · refine And.intro (fun h239 => by exfalso; omega) (fun h239 => ?_)
                      refine And.intro (fun h240 => by exfalso; omega) (fun h240 => ?_)
                      refine And.intro (by omega) (fun v241 gv241 e242 => ?_)
                      have b243 := iva_at i1 35 rfl (i := k) (by omega) (by omega)
                      refine fun v244 e245 => ?_
                      have w248 := wI_rng v244
                      have w249 : wI v244 = v244 := wI_id (by omega)
                      refine (fun v246 e247 => ?_)
                      refine fun v250 e251 => ?_
                      have w252 := wI_rng v250
                      have w253 : wI v250 = v250 := wI_id (by omega)
                      exact Exists.intro (200 - ((wI v250)) : Int).toNat (And.intro (by omega) (And.intro i1 (And.intro j1 (And.intro f1 (And.intro rfl (And.intro (by omega) (And.intro (by omega) (by omega))))))))
              · refine fun v254 gv254 e255 => ?_
                have b256 := ivf_at j1 13 rfl
                have q257 : v57 = v254 := (e255.trans e58.symm).symm
                subst q257
                refine fun v258 e259 => ?_
                refine fun v260 gv260 e261 => ?_
                have b262 := ivf_at j1 13 rfl
                have q263 : v57 = v260 := (e261.trans e255.symm).symm
                subst q263
                refine fun v264 e265 => ?_
                refine And.intro (by omega) (fun v266 gv266 e267 => ?_)
                refine fun v268 e269 => ?_
                have w272 := wI_rng v268
                refine And.intro (by omega) (fun A270 e271 => ?_)
                have i273 := iva_st i1 e271 trivial
                have j274 := ivf_sa j1 e271 rfl
                have f275 := frm_s f1 e271 rfl
                refine fun v276 e277 => ?_
                have w278 := wI_rng v276
                have w279 : wI v276 = v276 := wI_id (by omega)
                exact Exists.intro (200 - ((wI v276)) : Int).toNat (And.intro (by omega) (And.intro i273 (And.intro j274 (And.intro f275 (And.intro rfl (And.intro (by omega) (And.intro (by omega) (by omega))))))))
            · exact hK _ i1 j1 f1 _ (by first | exact wI_rng _ | omega | (exact (hA _ _).2 rfl))
          · refine fun v280 gv280 e281 => ?_
            have b282 := ivf_at j1 13 rfl
            refine And.intro (fun h283 => ?_) (fun h283 => ?_)
            · refine fun v284 gv284 e285 => ?_
              have b286 := ivf_at j1 13 rfl
              have q287 : v280 = v284 := (e285.trans e281.symm).symm
              subst q287
              refine And.intro (fun h288 => ?_) (fun h288 => by exfalso; omega)
              refine And.intro (by omega) (fun v289 gv289 e290 => ?_)
              have b291 := iva_at i1 35 rfl (i := k) (by omega) (by omega)
              have kk := (KO_fr p5 f1 rfl).2 k (by omega) (by omega)
              refine And.intro (by omega) (fun v292 gv292 e293 => ?_)
              refine And.intro (by omega) (fun A294 e295 => ?_)
              have i296 := iva_st i1 e295 trivial
              have j297 := ivf_sa j1 e295 rfl
              have f298 := frm_s f1 e295 rfl
              refine fun v299 gv299 e300 => ?_
              have b301 := ivf_at j297 13 rfl
              have q302 : v280 = v299 := (e300.trans ((congrFun (st_a e295 rfl) _).trans e285.symm)).symm
              subst q302
              refine fun v303 e304 => ?_
              have w307 := wI_rng v303
              have w308 : wI v303 = v303 := wI_id (by omega)
              refine fun A305 e306 => ?_
              have i309 := iva_sf i296 e306 rfl
              have j310 := ivf_st j297 e306 (And.intro (by omega) trivial)
              have f311 := frm_sf f298 e306 rfl
              refine fun v312 e313 => ?_
              have w314 := wI_rng v312
              have w315 : wI v312 = v312 := wI_id (by omega)
              exact Exists.intro (200 - ((wI v312)) : Int).toNat (And.intro (by omega) (And.intro i309 (And.intro j310 (And.intro f311 (And.intro rfl (And.intro (by omega) (And.intro (by omega) (by omega))))))))
            · exact hK _ i1 j1 f1 _ (by first | exact wI_rng _ | omega | (exact (hA _ _).2 rfl))
  · refine fun A6 e7 => ?_
    have i8 := iva_sf i0 e7 rfl
    have j9 := ivf_st j0 e7 (And.intro (by omega) trivial)
    have f10 := frm_sf f0 e7 rfl
    exact Exists.intro (200 - f : Int).toNat (And.intro i8 (And.intro j9 (And.intro f10 (And.intro rfl (And.intro (by omega) (And.intro (by omega) (by omega)))))))
def sC_answer71 : qS := fun as A K => ∃ w m : Int, as = [rf 71, ni w, ni m, rf 35] ∧ (iva IC A ∧ ivf JC A ∧ 0 ≤ m ∧ m ≤ 1000 ∧ (KO A)) ∧ (∀ A' : qA, iva IC A' → ivf JC A' → frm [78] [(71, 9)] A A' → ∀ r : Int, 0 ≤ r → r ≤ 1000 → (r ≤ m) → K (some (ni r)) A')
theorem okC_answer71 : okM LC 3 76 sC_answer71 := by
  refine qmeth [] false [(77, sC_reckon71)] 53 rfl ⟨okC_reckon71.le (by decide), trivial⟩ ?_
  rintro _ A K hA has ⟨w, m, rfl, ⟨i0, j0, p1, p2, p3⟩, hK⟩
  have rg_w : rng w := has (ni w) (by simp)
  have rg_m : rng m := has (ni m) (by simp)
  have f0 := frm_0 [78] [(71, 9)] A
  refine ⟨Nat.le_of_ble_eq_true rfl, [(2, [(0, 2, 71), (1, 0, 0), (2, 0, 0), (3, 2, 35), (4, 0, 0)], fun zs B nn => match zs with | [l1, l2, i] => iva IC B ∧ ivf JC B ∧ frm [78] [(71, 9)] A B ∧ nn = (14 - i : Int).toNat ∧ (l1 = w) ∧ (l2 = m) ∧ (0 ≤ i) ∧ (i ≤ 14) | _ => False)], ?_, ?_⟩
  · refine ⟨⟨rfl, ?_⟩, trivial⟩
    · refine fun l1 l2 i B mm hB hz hI => ?_
      obtain ⟨i1, j1, f1, hm, c0, c1, c2, c3⟩ := hI
      obtain ⟨hz_l1, hz_l2, hz_i, _⟩ := hz
      refine fun v4 gv4 e5 => ?_
      have b6 := ivf_at j1 11 rfl
      refine And.intro (fun h7 => ?_) (fun h7 => ?_)
      · exact hK _ i1 j1 f1 _ (by omega) (by omega) (by first | assumption | omega | simp_all)
      · refine And.intro (fun h8 => by exfalso; omega) (fun h8 => ?_)
        refine And.intro (by omega) (fun v9 gv9 e10 => ?_)
        refine And.intro (fun h11 => ?_) (fun h11 => ?_)
        · refine fun v12 e13 => ?_
          exact And.intro (by omega) (Exists.intro (14 - v12 : Int).toNat (And.intro (by omega) (And.intro i1 (And.intro j1 (And.intro f1 (And.intro rfl (And.intro (by omega) (And.intro (by omega) (And.intro (by omega) (by omega))))))))))
        · refine And.intro (by omega) (fun v14 gv14 e15 => ?_)
          have b16 := iva_at i1 40 rfl (i := i) (by omega) (by omega)
          refine And.intro (by omega) (fun v17 gv17 e18 => ?_)
          have b19 := iva_at i1 41 rfl (i := i) (by omega) (by omega)
          refine Exists.intro v14 (Exists.intro v17 (And.intro rfl (And.intro (And.intro i1 (And.intro j1 (And.intro (by omega) (And.intro (by omega) (And.intro (by omega) (And.intro (by omega) (KO_fr p3 f1 rfl))))))) (fun A20 i21 j22 f23 r24 g25 => ?_))))
          have f26 := frm_c f1 f23 rfl
          refine And.intro (fun h27 => ?_) (fun h27 => ?_)
          · refine fun v28 e29 => ?_
            exact And.intro (by omega) (Exists.intro (14 - v28 : Int).toNat (And.intro (by omega) (And.intro i21 (And.intro j22 (And.intro f26 (And.intro rfl (And.intro (by omega) (And.intro (by omega) (And.intro (by omega) (by omega))))))))))
          · refine And.intro (by omega) (fun v30 gv30 e31 => ?_)
            have b32 := iva_at i21 39 rfl (i := i) (by omega) (by omega)
            refine And.intro (by omega) (fun v33 gv33 e34 => ?_)
            have b35 := iva_at i21 40 rfl (i := i) (by omega) (by omega)
            have q36 : v14 = v33 := (e34.trans ((congrFun (frm_a f23 rfl) _).trans e15.symm)).symm
            subst q36
            refine Exists.intro v30 (Exists.intro v14 (And.intro rfl (And.intro (And.intro i21 (And.intro j22 (And.intro (by omega) (And.intro (by omega) (And.intro (by omega) (And.intro (by omega) (KO_fr p3 f26 rfl))))))) (fun A37 i38 j39 f40 r41 g42 => ?_))))
            have f43 := frm_c f26 f40 rfl
            refine (fun v44 e45 => ?_)
            refine (fun v46 e47 => ?_)
            exact hK _ i38 j39 f43 _ (by omega) (by omega) (by first | assumption | omega | simp_all)
  · exact Exists.intro (14 - 0 : Int).toNat (And.intro i0 (And.intro j0 (And.intro f0 (And.intro rfl (And.intro (by omega) (And.intro (by omega) (And.intro (by omega) (by omega))))))))
