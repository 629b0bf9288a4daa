/-- which statute is the law, which the draft -/
def LD (A : qA) : Prop := (A 34 (fd 4) = 36 ∧ A 0 (fd 10) = 71) ∨ (A 34 (fd 4) = 71 ∧ A 0 (fd 10) = 36)
def sC_readClause_36 : qS := fun as A K => as = [rf 54] ∧ (iva IC A ∧ ivf JC A ∧ (52 ≤ A 54 (fd 0) ∧ A 54 (fd 0) ≤ 52) ∧ (36 ≤ A 54 (fd 1) ∧ A 54 (fd 1) ≤ 36) ∧ (KO A) ∧ (A 36 (fd 8) ≤ A 54 (fd 3))) ∧ (∀ A' : qA, iva IC A' → ivf JC A' → frm [37, 38, 39, 40, 41, 42] [(36, 7), (36, 8), (54, 3), (54, 4)] A A' → ∀ r : Int, 0 ≤ r → r ≤ 1 → (KO A') → (PF 36 A A') → (A 36 (fd 8) ≤ A' 36 (fd 8)) → (A' 36 (fd 8) + A 54 (fd 3) ≤ A 36 (fd 8) + A' 54 (fd 3)) → K (some (ni r)) A')
theorem okC_readClause_36 : okM LC 25 51 sC_readClause_36 := by
  refine qmeth [(54, 0, 52), (54, 1, 36)] false [(46, sC_look_36), (57, sC_readSum0_36), (48, sC_expect_36), (52, sC_readCondition1_36), (47, sC_fail_36)] 93 rfl ⟨okC_look_36.le (by decide), ⟨okC_readSum0_36.le (by decide), ⟨okC_expect_36.le (by decide), ⟨okC_readCondition1_36.le (by decide), ⟨okC_fail_36.le (by decide), trivial⟩⟩⟩⟩⟩ ?_
  rintro _ A K hA has ⟨rfl, ⟨i0, j0, p1, p2, p3, p4⟩, hK⟩
  have f0 := frm_0 [37, 38, 39, 40, 41, 42] [(36, 7), (36, 8), (54, 3), (54, 4)] A
  obtain ⟨v5, e6⟩ : ∃ v, v = A 54 (fd 0) := ⟨_, rfl⟩
  rw [← e6] at p1
  obtain ⟨v7, e8⟩ : ∃ v, v = A 54 (fd 1) := ⟨_, rfl⟩
  rw [← e8] at p2
  have pf0 := PF_rf 36 A
  have hb_36_8 := ivf_at j0 9 rfl
  have hb_54_3 := ivf_at j0 1 rfl
  have hb_54_2 := ivf_at j0 0 rfl
  refine ⟨Nat.le_of_ble_eq_true rfl, [], trivial, ?_⟩
  obtain ⟨v9, e10⟩ : ∃ v, v = A 54 (fd 0) := ⟨_, rfl⟩
  have q11 : v5 = v9 := (e10.trans e6.symm).symm
  subst q11
  obtain ⟨v12, e13⟩ : ∃ v, v = A 54 (fd 1) := ⟨_, rfl⟩
  have q14 : v7 = v12 := (e13.trans e8.symm).symm
  subst q14
  refine And.intro rfl (And.intro (And.intro i0 (And.intro j0 (And.intro (by rw [← e10]; omega) (by rw [← e13]; omega)))) (fun r15 g17 g18 g16 => ?_))
  refine fun v19 e20 => ?_
  have h21 := qone_bd 1 r15
  rw [← e20] at h21
  have h22 := qone_p (s := 1) (x := r15) (by omega)
  refine And.intro (fun h23 => ?_) (fun h23 => ?_)
  · obtain ⟨v24, e25⟩ : ∃ v, v = A 54 (fd 1) := ⟨_, rfl⟩
    have q26 : v7 = v24 := (e25.trans e13.symm).symm
    subst q26
    refine And.intro (show A 54 (fd 1) = ((36 : Nat) : Int) by omega) ?_
    refine fun v27 gv27 e28 => ?_
    have b29 := ivf_at j0 8 rfl
    refine And.intro (fun h30 => ?_) (fun h30 => ?_)
    · refine fun v31 gv31 e32 => ?_
      have b33 := ivf_at j0 1 rfl
      refine fun v34 e35 => ?_
      refine And.intro (by omega) (fun A36 e37 => ?_)
      have i38 := iva_sf i0 e37 rfl
      have j39 := ivf_st j0 e37 (And.intro (by omega) trivial)
      have f40 := frm_sf f0 e37 rfl
      have t41 : A36 36 (fd 8) = A 36 (fd 8) := (congrFun (st_a e37 rfl) _)
      have t42 := st_v e37
      have t43 : A36 54 (fd 2) = A 54 (fd 2) := (st_f e37 rfl)
      have kk44 := KO_k p3 (st_a e37 rfl) (st_a e37 rfl) (st_a e37 rfl) (st_a e37 rfl)
      have pf45 := PF_k pf0 (st_a e37 rfl)
      obtain ⟨v46, e47⟩ : ∃ v, v = A36 54 (fd 1) := ⟨_, rfl⟩
      have q48 : v7 = v46 := (e47.trans ((st_f e37 rfl).trans e25.symm)).symm
      subst q48
      refine And.intro (show A36 54 (fd 1) = ((36 : Nat) : Int) by omega) ?_
      refine And.intro (by omega) (fun A49 e50 => ?_)
      have i51 := iva_st i38 e50 trivial
      have j52 := ivf_sa j39 e50 rfl
      have f53 := frm_s f40 e50 rfl
      have t54 : A49 36 (fd 8) = A36 36 (fd 8) := (congrFun (st_a e50 rfl) _)
      have t55 : A49 54 (fd 3) = A36 54 (fd 3) := (congrFun (st_a e50 rfl) _)
      have t56 : A49 54 (fd 2) = A36 54 (fd 2) := (congrFun (st_a e50 rfl) _)
      have kk57 := KO_k kk44 (st_a e50 rfl) (st_a e50 rfl) (st_a e50 rfl) (st_a e50 rfl)
      have pf58 := PF_k pf45 (st_a e50 rfl)
      obtain ⟨v59, e60⟩ : ∃ v, v = A49 54 (fd 1) := ⟨_, rfl⟩
      have q61 : v7 = v59 := (e60.trans ((congrFun (st_a e50 rfl) _).trans e47.symm)).symm
      subst q61
      refine And.intro (show A49 54 (fd 1) = ((36 : Nat) : Int) by omega) ?_
      obtain ⟨v62, e63⟩ : ∃ v, v = A49 54 (fd 1) := ⟨_, rfl⟩
      have q64 : v7 = v62 := (e63.trans e60.symm).symm
      subst q64
      refine And.intro (show A49 54 (fd 1) = ((36 : Nat) : Int) by omega) ?_
      refine fun v65 gv65 e66 => ?_
      have b67 := ivf_at j52 9 rfl
      refine And.intro (by omega) (fun A68 e69 => ?_)
      have i70 := iva_st i51 e69 (And.intro (by omega) trivial)
      have j71 := ivf_sa j52 e69 rfl
      have f72 := frm_s f53 e69 rfl
      have t73 : A68 36 (fd 8) = A49 36 (fd 8) := (congrFun (st_a e69 rfl) _)
      have t74 : A68 54 (fd 3) = A49 54 (fd 3) := (congrFun (st_a e69 rfl) _)
      have t75 : A68 54 (fd 2) = A49 54 (fd 2) := (congrFun (st_a e69 rfl) _)
      have kk76 := KO_k kk57 (st_a e69 rfl) (st_a e69 rfl) (st_a e69 rfl) (st_a e69 rfl)
      have pf77 := PF_k pf58 (st_a e69 rfl)
      obtain ⟨v78, e79⟩ : ∃ v, v = A68 54 (fd 0) := ⟨_, rfl⟩
      have q80 : v5 = v78 := (e79.trans ((Eq.trans (Eq.trans (congrFun (st_a e69 rfl) _) (congrFun (st_a e50 rfl) _)) (st_f e37 rfl)).trans e10.symm)).symm
      subst q80
      obtain ⟨v81, e82⟩ : ∃ v, v = A68 54 (fd 1) := ⟨_, rfl⟩
      have q83 : v7 = v81 := (e82.trans ((congrFun (st_a e69 rfl) _).trans e63.symm)).symm
      subst q83
      refine Exists.intro 0 (And.intro rfl (And.intro (And.intro i70 (And.intro j71 (And.intro (by omega) (And.intro (by omega) (And.intro (by rw [← e79]; omega) (And.intro (by rw [← e82]; omega) (And.intro kk76 (by first | assumption | omega | simp_all)))))))) (fun A84 i85 j86 f87 r88 g93 g94 g89 g90 g91 g92 => ?_)))
      have f95 := frm_c f72 f87 rfl
      have t96 := ivf_at j86 9 rfl
      have t97 := ivf_at j86 1 rfl
      have t98 : A84 54 (fd 2) = A68 54 (fd 2) := (frm_f f87 rfl)
      have pf99 := PF_tr pf77 g90 (by omega)
      refine And.intro (fun h100 => ?_) (fun h100 => ?_)
      · exact And.intro (by omega) (hK _ i85 j86 f95 _ (by omega) (by omega) g89 pf99 (by first | assumption | omega | simp_all) (by first | assumption | omega | simp_all))
      · obtain ⟨v101, e102⟩ : ∃ v, v = A84 54 (fd 0) := ⟨_, rfl⟩
        have q103 : v5 = v101 := (e102.trans ((frm_f f87 rfl).trans e79.symm)).symm
        subst q103
        obtain ⟨v104, e105⟩ : ∃ v, v = A84 54 (fd 1) := ⟨_, rfl⟩
        have q106 : v7 = v104 := (e105.trans ((frm_f f87 rfl).trans e82.symm)).symm
        subst q106
        refine Exists.intro 40 (And.intro rfl (And.intro (And.intro i85 (And.intro j86 (And.intro (by omega) (And.intro (by omega) (And.intro (by rw [← e102]; omega) (And.intro (by rw [← e105]; omega) (And.intro g89 (by first | assumption | omega | simp_all)))))))) (fun A107 i108 j109 f110 r111 g113 g114 g112 => ?_)))
        have f115 := frm_c f95 f110 rfl
        have t116 : A107 36 (fd 8) = A84 36 (fd 8) := (frm_f f110 rfl)
        have t117 := ivf_at j109 1 rfl
        have t118 : A107 54 (fd 2) = A84 54 (fd 2) := (frm_f f110 rfl)
        have kk119 := KO_fr g89 f110 rfl
        have pf120 := PF_k pf99 (frm_a f110 rfl)
        refine And.intro (fun h121 => ?_) (fun h121 => ?_)
        · obtain ⟨v122, e123⟩ : ∃ v, v = A107 54 (fd 1) := ⟨_, rfl⟩
          have q124 : v7 = v122 := (e123.trans ((frm_f f110 rfl).trans e105.symm)).symm
          subst q124
          refine And.intro (show A107 54 (fd 1) = ((36 : Nat) : Int) by omega) ?_
          obtain ⟨v125, e126⟩ : ∃ v, v = A107 54 (fd 1) := ⟨_, rfl⟩
          have q127 : v7 = v125 := (e126.trans e123.symm).symm
          subst q127
          refine And.intro (show A107 54 (fd 1) = ((36 : Nat) : Int) by omega) ?_
          refine fun v128 gv128 e129 => ?_
          have b130 := ivf_at j109 9 rfl
          refine And.intro (by omega) (fun A131 e132 => ?_)
          have i133 := iva_st i108 e132 (And.intro (by omega) trivial)
          have j134 := ivf_sa j109 e132 rfl
          have f135 := frm_s f115 e132 rfl
          have t136 : A131 36 (fd 8) = A107 36 (fd 8) := (congrFun (st_a e132 rfl) _)
          have t137 : A131 54 (fd 3) = A107 54 (fd 3) := (congrFun (st_a e132 rfl) _)
          have t138 : A131 54 (fd 2) = A107 54 (fd 2) := (congrFun (st_a e132 rfl) _)
          have kk139 := KO_k kk119 (st_a e132 rfl) (st_a e132 rfl) (st_a e132 rfl) (st_a e132 rfl)
          have pf140 := PF_k pf120 (st_a e132 rfl)
          obtain ⟨v141, e142⟩ : ∃ v, v = A131 54 (fd 0) := ⟨_, rfl⟩
          have q143 : v5 = v141 := (e142.trans ((Eq.trans (congrFun (st_a e132 rfl) _) (frm_f f110 rfl)).trans e102.symm)).symm
          subst q143
          obtain ⟨v144, e145⟩ : ∃ v, v = A131 54 (fd 1) := ⟨_, rfl⟩
          have q146 : v7 = v144 := (e145.trans ((congrFun (st_a e132 rfl) _).trans e126.symm)).symm
          subst q146
          refine Exists.intro 1 (And.intro rfl (And.intro (And.intro i133 (And.intro j134 (And.intro (by omega) (And.intro (by omega) (And.intro (by rw [← e142]; omega) (And.intro (by rw [← e145]; omega) (And.intro kk139 (by first | assumption | omega | simp_all)))))))) (fun A147 i148 j149 f150 r151 g156 g157 g152 g153 g154 g155 => ?_)))
          have f158 := frm_c f135 f150 rfl
          have t159 := ivf_at j149 9 rfl
          have t160 := ivf_at j149 1 rfl
          have t161 : A147 54 (fd 2) = A131 54 (fd 2) := (frm_f f150 rfl)
          have pf162 := PF_tr pf140 g153 (by omega)
          refine And.intro (fun h163 => ?_) (fun h163 => ?_)
          · exact And.intro (by omega) (hK _ i148 j149 f158 _ (by omega) (by omega) g152 pf162 (by first | assumption | omega | simp_all) (by first | assumption | omega | simp_all))
          · obtain ⟨v164, e165⟩ : ∃ v, v = A147 54 (fd 0) := ⟨_, rfl⟩
            have q166 : v5 = v164 := (e165.trans ((frm_f f150 rfl).trans e142.symm)).symm
            subst q166
            obtain ⟨v167, e168⟩ : ∃ v, v = A147 54 (fd 1) := ⟨_, rfl⟩
            have q169 : v7 = v167 := (e168.trans ((frm_f f150 rfl).trans e145.symm)).symm
            subst q169
            refine Exists.intro 41 (And.intro rfl (And.intro (And.intro i148 (And.intro j149 (And.intro (by omega) (And.intro (by omega) (And.intro (by rw [← e165]; omega) (And.intro (by rw [← e168]; omega) (And.intro g152 (by first | assumption | omega | simp_all)))))))) (fun A170 i171 j172 f173 r174 g176 g177 g175 => ?_)))
            have f178 := frm_c f158 f173 rfl
            have t179 : A170 36 (fd 8) = A147 36 (fd 8) := (frm_f f173 rfl)
            have t180 := ivf_at j172 1 rfl
            have t181 : A170 54 (fd 2) = A147 54 (fd 2) := (frm_f f173 rfl)
            have kk182 := KO_fr g152 f173 rfl
            have pf183 := PF_k pf162 (frm_a f173 rfl)
            refine And.intro (fun h184 => ?_) (fun h184 => ?_)
            · obtain ⟨v185, e186⟩ : ∃ v, v = A170 54 (fd 1) := ⟨_, rfl⟩
              have q187 : v7 = v185 := (e186.trans ((frm_f f173 rfl).trans e168.symm)).symm
              subst q187
              refine And.intro (show A170 54 (fd 1) = ((36 : Nat) : Int) by omega) ?_
              obtain ⟨v188, e189⟩ : ∃ v, v = A170 54 (fd 1) := ⟨_, rfl⟩
              have q190 : v7 = v188 := (e189.trans e186.symm).symm
              subst q190
              refine And.intro (show A170 54 (fd 1) = ((36 : Nat) : Int) by omega) ?_
              refine fun v191 gv191 e192 => ?_
              have b193 := ivf_at j172 9 rfl
              refine And.intro (by omega) (fun A194 e195 => ?_)
              have i196 := iva_st i171 e195 (And.intro (by omega) trivial)
              have j197 := ivf_sa j172 e195 rfl
              have f198 := frm_s f178 e195 rfl
              have t199 : A194 36 (fd 8) = A170 36 (fd 8) := (congrFun (st_a e195 rfl) _)
              have t200 : A194 54 (fd 3) = A170 54 (fd 3) := (congrFun (st_a e195 rfl) _)
              have t201 : A194 54 (fd 2) = A170 54 (fd 2) := (congrFun (st_a e195 rfl) _)
              have kk202 := KO_k kk182 (st_a e195 rfl) (st_a e195 rfl) (st_a e195 rfl) (st_a e195 rfl)
              have pf203 := PF_k pf183 (st_a e195 rfl)
              obtain ⟨v204, e205⟩ : ∃ v, v = A194 54 (fd 1) := ⟨_, rfl⟩
              have q206 : v7 = v204 := (e205.trans ((congrFun (st_a e195 rfl) _).trans e189.symm)).symm
              subst q206
              refine And.intro (show A194 54 (fd 1) = ((36 : Nat) : Int) by omega) ?_
              refine fun v207 gv207 e208 => ?_
              have b209 := ivf_at j197 8 rfl
              have q210 : v27 = v207 := (e208.trans ((Eq.trans (Eq.trans (Eq.trans (Eq.trans (Eq.trans (Eq.trans (Eq.trans (Eq.trans (congrFun (st_a e195 rfl) _) (frm_f f173 rfl)) (frm_f f150 rfl)) (congrFun (st_a e132 rfl) _)) (frm_f f110 rfl)) (frm_f f87 rfl)) (congrFun (st_a e69 rfl) _)) (congrFun (st_a e50 rfl) _)) (congrFun (st_a e37 rfl) _)).trans e28.symm)).symm
              subst q210
              refine fun v211 e212 => ?_
              refine And.intro (by omega) (fun A213 e214 => ?_)
              have i215 := iva_sf i196 e214 rfl
              have j216 := ivf_st j197 e214 (And.intro (by omega) trivial)
              have f217 := frm_sf f198 e214 rfl
              have t218 : A213 36 (fd 8) = A194 36 (fd 8) := (st_f e214 rfl)
              have t219 : A213 54 (fd 3) = A194 54 (fd 3) := (congrFun (st_a e214 rfl) _)
              have t220 : A213 54 (fd 2) = A194 54 (fd 2) := (congrFun (st_a e214 rfl) _)
              have kk221 := KO_k kk202 (st_a e214 rfl) (st_a e214 rfl) (st_a e214 rfl) (st_a e214 rfl)
              have pf222 := PF_k pf203 (st_a e214 rfl)
              exact And.intro (by omega) (hK _ i215 j216 f217 _ (by omega) (by omega) kk221 pf222 (by first | assumption | omega | simp_all) (by first | assumption | omega | simp_all))
            · exact And.intro (by omega) (hK _ i171 j172 f178 _ (by omega) (by omega) kk182 pf183 (by first | assumption | omega | simp_all) (by first | assumption | omega | simp_all))
        · exact And.intro (by omega) (hK _ i108 j109 f115 _ (by omega) (by omega) kk119 pf120 (by first | assumption | omega | simp_all) (by first | assumption | omega | simp_all))
    · obtain ⟨v223, e224⟩ : ∃ v, v = A 54 (fd 0) := ⟨_, rfl⟩
      have q225 : v5 = v223 := (e224.trans e10.symm).symm
      subst q225
      obtain ⟨v226, e227⟩ : ∃ v, v = A 54 (fd 1) := ⟨_, rfl⟩
      have q228 : v7 = v226 := (e227.trans e25.symm).symm
      subst q228
      refine Exists.intro 4 (And.intro rfl (And.intro (And.intro i0 (And.intro j0 (And.intro (by omega) (And.intro (by omega) (And.intro (by rw [← e224]; omega) (by rw [← e227]; omega)))))) (fun A229 i230 j231 f232 => (fun h233 => ?_))))
      · have f234 := frm_c f0 f232 rfl
        have t235 : A229 36 (fd 8) = A 36 (fd 8) := (frm_f f232 rfl)
        have t236 : A229 54 (fd 3) = A 54 (fd 3) := (frm_f f232 rfl)
        have t237 : A229 54 (fd 2) = A 54 (fd 2) := (frm_f f232 rfl)
        have kk238 := KO_fr p3 f232 rfl
        have pf239 := PF_k pf0 (frm_a f232 rfl)
        exact And.intro (by omega) (hK _ i230 j231 f234 _ (by omega) (by omega) kk238 pf239 (by first | assumption | omega | simp_all) (by first | assumption | omega | simp_all))
  · obtain ⟨v240, e241⟩ : ∃ v, v = A 54 (fd 0) := ⟨_, rfl⟩
    have q242 : v5 = v240 := (e241.trans e10.symm).symm
    subst q242
    obtain ⟨v243, e244⟩ : ∃ v, v = A 54 (fd 1) := ⟨_, rfl⟩
    have q245 : v7 = v243 := (e244.trans e13.symm).symm
    subst q245
    refine Exists.intro 1 (And.intro rfl (And.intro (And.intro i0 (And.intro j0 (And.intro (by omega) (And.intro (by omega) (And.intro (by rw [← e241]; omega) (by rw [← e244]; omega)))))) (fun A246 i247 j248 f249 => (fun h250 => ?_))))
    · have f251 := frm_c f0 f249 rfl
      have t252 : A246 36 (fd 8) = A 36 (fd 8) := (frm_f f249 rfl)
      have t253 : A246 54 (fd 3) = A 54 (fd 3) := (frm_f f249 rfl)
      have t254 : A246 54 (fd 2) = A 54 (fd 2) := (frm_f f249 rfl)
      have kk255 := KO_fr p3 f249 rfl
      have pf256 := PF_k pf0 (frm_a f249 rfl)
      exact And.intro (by omega) (hK _ i247 j248 f251 _ (by omega) (by omega) kk255 pf256 (by first | assumption | omega | simp_all) (by first | assumption | omega | simp_all))
def sC_read_36 : qS := fun as A K => ∃ n : Int, as = [rf 54, rf 52, ni n, rf 36] ∧ (iva IC A ∧ ivf JC A ∧ 0 ≤ n ∧ n ≤ 200 ∧ (KO A)) ∧ (∀ A' : qA, iva IC A' → ivf JC A' → frm [37, 38, 39, 40, 41, 42] [(36, 7), (36, 8), (54, 3), (54, 4), (54, 0), (54, 1), (54, 2)] A A' → ∀ r : Int, rng r → (KO A') → K (some (ni r)) A')
theorem okC_read_36 : okM LC 26 45 sC_read_36 := by
  refine qmeth [(54, 0, 52), (54, 1, 36)] false [(51, sC_readClause_36), (46, sC_look_36), (48, sC_expect_36)] 54 rfl ⟨okC_readClause_36.le (by decide), ⟨okC_look_36.le (by decide), ⟨okC_expect_36.le (by decide), trivial⟩⟩⟩ ?_
  rintro _ A K hA has ⟨n, rfl, ⟨i0, j0, p1, p2, p3⟩, hK⟩
  have rg_n : rng n := has (ni n) (by simp)
  have f0 := frm_0 [37, 38, 39, 40, 41, 42] [(36, 7), (36, 8), (54, 3), (54, 4), (54, 0), (54, 1), (54, 2)] A
  have pf0 := PF_rf 36 A
  have hb_36_8 := ivf_at j0 9 rfl
  have hb_54_3 := ivf_at j0 1 rfl
  have hb_54_2 := ivf_at j0 0 rfl
  refine ⟨Nat.le_of_ble_eq_true rfl, [(23, [(0, 2, 54), (3, 2, 36), (4, 0, 0)], fun zs B nn => match zs with | [i] => iva IC B ∧ ivf JC B ∧ frm [37, 38, 39, 40, 41, 42] [(36, 7), (36, 8), (54, 3), (54, 4), (54, 0), (54, 1), (54, 2)] A B ∧ nn = (15 - i : Int).toNat ∧ (52 ≤ B 54 (fd 0) ∧ B 54 (fd 0) ≤ 52) ∧ (36 ≤ B 54 (fd 1) ∧ B 54 (fd 1) ≤ 36) ∧ (0 ≤ i) ∧ (i ≤ 15) ∧ (KO B) ∧ (B 36 (fd 8) ≤ B 54 (fd 3)) | _ => False)], ?_, ?_⟩
  · refine ⟨⟨rfl, ?_⟩, trivial⟩
    · refine fun i B mm hB hz hI => ?_
      obtain ⟨i1, j1, f1, hm, d0, d1, c0, c1, c2, c3⟩ := hI
      obtain ⟨hz_i, _⟩ := hz
      obtain ⟨v73, e74⟩ : ∃ v, v = B 54 (fd 0) := ⟨_, rfl⟩
      rw [← e74] at d0
      obtain ⟨v75, e76⟩ : ∃ v, v = B 54 (fd 1) := ⟨_, rfl⟩
      rw [← e76] at d1
      have hc_36_8 := ivf_at j1 9 rfl
      have hc_54_3 := ivf_at j1 1 rfl
      have hc_54_2 := ivf_at j1 0 rfl
      have hc_w : B 53 = A 53 := frm_a f1 rfl
      refine And.intro (fun h77 => ?_) (fun h77 => ?_)
      · refine fun v78 gv78 e79 => ?_
        exact hK _ i1 j1 f1 _ (by first | exact wI_rng _ | omega | (exact (hA _ _).2 rfl)) c2
      · obtain ⟨v80, e81⟩ : ∃ v, v = B 54 (fd 0) := ⟨_, rfl⟩
        have q82 : v73 = v80 := (e81.trans e74.symm).symm
        subst q82
        obtain ⟨v83, e84⟩ : ∃ v, v = B 54 (fd 1) := ⟨_, rfl⟩
        have q85 : v75 = v83 := (e84.trans e76.symm).symm
        subst q85
        refine And.intro rfl (And.intro (And.intro i1 (And.intro j1 (And.intro (by rw [← e81]; omega) (And.intro (by rw [← e84]; omega) (And.intro c2 (by first | assumption | omega | simp_all)))))) (fun A86 i87 j88 f89 r90 g95 g96 g91 g92 g93 g94 => ?_))
        have f97 := frm_c f1 f89 rfl
        have t98 := ivf_at j88 9 rfl
        have t99 := ivf_at j88 1 rfl
        have t100 : A86 54 (fd 2) = B 54 (fd 2) := (frm_f f89 rfl)
        refine And.intro (fun h101 => ?_) (fun h101 => ?_)
        · refine fun v102 gv102 e103 => ?_
          exact hK _ i87 j88 f97 _ (by first | exact wI_rng _ | omega | (exact (hA _ _).2 rfl)) g91
        · obtain ⟨v104, e105⟩ : ∃ v, v = A86 54 (fd 0) := ⟨_, rfl⟩
          have q106 : v73 = v104 := (e105.trans ((frm_f f89 rfl).trans e81.symm)).symm
          subst q106
          obtain ⟨v107, e108⟩ : ∃ v, v = A86 54 (fd 1) := ⟨_, rfl⟩
          have q109 : v75 = v107 := (e108.trans ((frm_f f89 rfl).trans e84.symm)).symm
          subst q109
          refine And.intro rfl (And.intro (And.intro i87 (And.intro j88 (And.intro (by rw [← e105]; omega) (by rw [← e108]; omega)))) (fun r110 g112 g113 g111 => ?_))
          refine And.intro (fun h114 => ?_) (fun h114 => ?_)
          · obtain ⟨v115, e116⟩ : ∃ v, v = A86 54 (fd 0) := ⟨_, rfl⟩
            have q117 : v73 = v115 := (e116.trans e105.symm).symm
            subst q117
            obtain ⟨v118, e119⟩ : ∃ v, v = A86 54 (fd 1) := ⟨_, rfl⟩
            have q120 : v75 = v118 := (e119.trans e108.symm).symm
            subst q120
            refine Exists.intro 59 (And.intro rfl (And.intro (And.intro i87 (And.intro j88 (And.intro (by omega) (And.intro (by omega) (And.intro (by rw [← e116]; omega) (And.intro (by rw [← e119]; omega) (And.intro g91 (by first | assumption | omega | simp_all)))))))) (fun A121 i122 j123 f124 r125 g127 g128 g126 => ?_)))
            have f129 := frm_c f97 f124 rfl
            have t130 : A121 36 (fd 8) = A86 36 (fd 8) := (frm_f f124 rfl)
            have t131 := ivf_at j123 1 rfl
            have t132 : A121 54 (fd 2) = A86 54 (fd 2) := (frm_f f124 rfl)
            have kk133 := KO_fr g91 f124 rfl
            refine And.intro (fun h134 => ?_) (fun h134 => ?_)
            · refine fun v135 e136 => ?_
              obtain ⟨v137, e138⟩ : ∃ v, v = A121 54 (fd 0) := ⟨_, rfl⟩
              have q139 : v73 = v137 := (e138.trans ((frm_f f124 rfl).trans e116.symm)).symm
              subst q139
              obtain ⟨v140, e141⟩ : ∃ v, v = A121 54 (fd 1) := ⟨_, rfl⟩
              have q142 : v75 = v140 := (e141.trans ((frm_f f124 rfl).trans e119.symm)).symm
              subst q142
              exact And.intro (by omega) (Exists.intro (15 - v135 : Int).toNat (And.intro (by omega) (And.intro i122 (And.intro j123 (And.intro f129 (And.intro rfl (And.intro (by rw [← e138]; omega) (And.intro (by rw [← e141]; omega) (And.intro (by omega) (And.intro (by omega) (And.intro kk133 (by omega))))))))))))
            · refine fun v143 gv143 e144 => ?_
              exact hK _ i122 j123 f129 _ (by first | exact wI_rng _ | omega | (exact (hA _ _).2 rfl)) kk133
          · refine fun v145 gv145 e146 => ?_
            have b147 := ivf_at j88 8 rfl
            exact hK _ i87 j88 f97 _ (by first | exact wI_rng _ | omega | (exact (hA _ _).2 rfl)) g91
  · refine fun A4 e5 => ?_
    have i6 := iva_sf i0 e5 rfl
    have j7 := ivf_st j0 e5 trivial
    have f8 := frm_sf f0 e5 rfl
    have t9 : A4 36 (fd 8) = A 36 (fd 8) := (congrFun (st_a e5 rfl) _)
    have t10 : A4 54 (fd 3) = A 54 (fd 3) := (st_f e5 rfl)
    have t11 : A4 54 (fd 2) = A 54 (fd 2) := (st_f e5 rfl)
    have kk12 := KO_k p3 (st_a e5 rfl) (st_a e5 rfl) (st_a e5 rfl) (st_a e5 rfl)
    refine fun A13 e14 => ?_
    have i15 := iva_sf i6 e14 rfl
    have j16 := ivf_st j7 e14 trivial
    have f17 := frm_sf f8 e14 rfl
    have t18 : A13 36 (fd 8) = A4 36 (fd 8) := (congrFun (st_a e14 rfl) _)
    have t19 : A13 54 (fd 3) = A4 54 (fd 3) := (st_f e14 rfl)
    have t20 : A13 54 (fd 2) = A4 54 (fd 2) := (st_f e14 rfl)
    have kk21 := KO_k kk12 (st_a e14 rfl) (st_a e14 rfl) (st_a e14 rfl) (st_a e14 rfl)
    refine fun A22 e23 => ?_
    have i24 := iva_sf i15 e23 rfl
    have j25 := ivf_st j16 e23 (And.intro (by omega) trivial)
    have f26 := frm_sf f17 e23 rfl
    have t27 : A22 36 (fd 8) = A13 36 (fd 8) := (congrFun (st_a e23 rfl) _)
    have t28 : A22 54 (fd 3) = A13 54 (fd 3) := (st_f e23 rfl)
    have t29 := st_v e23
    have kk30 := KO_k kk21 (st_a e23 rfl) (st_a e23 rfl) (st_a e23 rfl) (st_a e23 rfl)
    refine fun A31 e32 => ?_
    have i33 := iva_sf i24 e32 rfl
    have j34 := ivf_st j25 e32 (And.intro (by omega) trivial)
    have f35 := frm_sf f26 e32 rfl
    have t36 : A31 36 (fd 8) = A22 36 (fd 8) := (congrFun (st_a e32 rfl) _)
    have t37 := st_v e32
    have t38 : A31 54 (fd 2) = A22 54 (fd 2) := (st_f e32 rfl)
    have kk39 := KO_k kk30 (st_a e32 rfl) (st_a e32 rfl) (st_a e32 rfl) (st_a e32 rfl)
    refine fun A40 e41 => ?_
    have i42 := iva_sf i33 e41 rfl
    have j43 := ivf_st j34 e41 trivial
    have f44 := frm_sf f35 e41 rfl
    have t45 : A40 36 (fd 8) = A31 36 (fd 8) := (congrFun (st_a e41 rfl) _)
    have t46 : A40 54 (fd 3) = A31 54 (fd 3) := (st_f e41 rfl)
    have t47 : A40 54 (fd 2) = A31 54 (fd 2) := (st_f e41 rfl)
    have kk48 := KO_k kk39 (st_a e41 rfl) (st_a e41 rfl) (st_a e41 rfl) (st_a e41 rfl)
    refine fun A49 e50 => ?_
    have i51 := iva_sf i42 e50 rfl
    have j52 := ivf_st j43 e50 (And.intro (by omega) trivial)
    have f53 := frm_sf f44 e50 rfl
    have t54 : A49 36 (fd 8) = A40 36 (fd 8) := (st_f e50 rfl)
    have t55 : A49 54 (fd 3) = A40 54 (fd 3) := (congrFun (st_a e50 rfl) _)
    have t56 : A49 54 (fd 2) = A40 54 (fd 2) := (congrFun (st_a e50 rfl) _)
    have kk57 := KO_k kk48 (st_a e50 rfl) (st_a e50 rfl) (st_a e50 rfl) (st_a e50 rfl)
    refine fun A58 e59 => ?_
    have i60 := iva_sf i51 e59 rfl
    have j61 := ivf_st j52 e59 (And.intro (by omega) trivial)
    have f62 := frm_sf f53 e59 rfl
    have t63 := st_v e59
    have t64 : A58 54 (fd 3) = A49 54 (fd 3) := (congrFun (st_a e59 rfl) _)
    have t65 : A58 54 (fd 2) = A49 54 (fd 2) := (congrFun (st_a e59 rfl) _)
    have kk66 := KO_k kk57 (st_a e59 rfl) (st_a e59 rfl) (st_a e59 rfl) (st_a e59 rfl)
    obtain ⟨v67, e68⟩ : ∃ v, v = A58 54 (fd 0) := ⟨_, rfl⟩
    have q69 : (52 : Int) = v67 := (e68.trans ((Eq.trans (Eq.trans (Eq.trans (Eq.trans (Eq.trans (congrFun (st_a e59 rfl) _) (congrFun (st_a e50 rfl) _)) (st_f e41 rfl)) (st_f e32 rfl)) (st_f e23 rfl)) (st_f e14 rfl)).trans (st_v e5))).symm
    subst q69
    obtain ⟨v70, e71⟩ : ∃ v, v = A58 54 (fd 1) := ⟨_, rfl⟩
    have q72 : (36 : Int) = v70 := (e71.trans ((Eq.trans (Eq.trans (Eq.trans (Eq.trans (congrFun (st_a e59 rfl) _) (congrFun (st_a e50 rfl) _)) (st_f e41 rfl)) (st_f e32 rfl)) (st_f e23 rfl)).trans (st_v e14))).symm
    subst q72
    exact Exists.intro (15 - 0 : Int).toNat (And.intro i60 (And.intro j61 (And.intro f62 (And.intro rfl (And.intro (by rw [← e68]; omega) (And.intro (by rw [← e71]; omega) (And.intro (by omega) (And.intro (by omega) (And.intro kk66 (by omega))))))))))
def sC_law_36 : qS := fun as A K => ∃ n : Int, as = [rf 0, ni n] ∧ (iva IC A ∧ ivf JC A ∧ (36 ≤ A 0 (fd 10) ∧ A 0 (fd 10) ≤ 36) ∧ (71 ≤ A 34 (fd 4) ∧ A 34 (fd 4) ≤ 71) ∧ (KO A)) ∧ (∀ A' : qA, iva IC A' → ivf JC A' → frm [37, 38, 39, 40, 41, 42] [(36, 7), (36, 8), (54, 3), (54, 4), (54, 0), (54, 1), (54, 2), (52, 1), (0, 10), (34, 4)] A A' → ∀ r : Int, rng r → (KO A') → (LD A') → K (some (ni r)) A')
theorem okC_law_36 : okM LC 27 104 sC_law_36 := by
  refine qmeth [(54, 0, 52), (54, 1, 36), (0, 10, 36), (34, 4, 71)] false [(45, sC_read_36)] 48 rfl ⟨okC_read_36.le (by decide), trivial⟩ ?_
  rintro _ A K hA has ⟨n, rfl, ⟨i0, j0, p1, p2, p3⟩, hK⟩
  have rg_n : rng n := has (ni n) (by simp)
  have f0 := frm_0 [37, 38, 39, 40, 41, 42] [(36, 7), (36, 8), (54, 3), (54, 4), (54, 0), (54, 1), (54, 2), (52, 1), (0, 10), (34, 4)] A
  obtain ⟨v4, e5⟩ : ∃ v, v = A 0 (fd 10) := ⟨_, rfl⟩
  rw [← e5] at p1
  obtain ⟨v6, e7⟩ : ∃ v, v = A 34 (fd 4) := ⟨_, rfl⟩
  rw [← e7] at p2
  have pf0 := PF_rf 36 A
  have hb_36_8 := ivf_at j0 9 rfl
  have hb_54_3 := ivf_at j0 1 rfl
  have hb_54_2 := ivf_at j0 0 rfl
  refine ⟨Nat.le_of_ble_eq_true rfl, [], trivial, ?_⟩
  refine And.intro (fun h8 => ?_) (fun h8 => ?_)
  · obtain ⟨v9, e10⟩ : ∃ v, v = A 34 (fd 4) := ⟨_, rfl⟩
    have q11 : v6 = v9 := (e10.trans e7.symm).symm
    subst q11
    obtain ⟨v12, e13⟩ : ∃ v, v = A 0 (fd 10) := ⟨_, rfl⟩
    have q14 : v4 = v12 := (e13.trans e5.symm).symm
    subst q14
    exact hK _ i0 j0 f0 _ (by first | exact wI_rng _ | omega | (exact (hA _ _).2 rfl)) p3 (by first | assumption | (unfold LD; omega))
  · refine And.intro (fun h15 => ?_) (fun h15 => ?_)
    · obtain ⟨v16, e17⟩ : ∃ v, v = A 34 (fd 4) := ⟨_, rfl⟩
      have q18 : v6 = v16 := (e17.trans e7.symm).symm
      subst q18
      obtain ⟨v19, e20⟩ : ∃ v, v = A 0 (fd 10) := ⟨_, rfl⟩
      have q21 : v4 = v19 := (e20.trans e5.symm).symm
      subst q21
      exact hK _ i0 j0 f0 _ (by first | exact wI_rng _ | omega | (exact (hA _ _).2 rfl)) p3 (by first | assumption | (unfold LD; omega))
    · refine fun v22 gv22 e23 => ?_
      have b24 := ivf_at j0 3 rfl
      refine And.intro (fun h25 => ?_) (fun h25 => ?_)
      · obtain ⟨v26, e27⟩ : ∃ v, v = A 0 (fd 10) := ⟨_, rfl⟩
        have q28 : v4 = v26 := (e27.trans e5.symm).symm
        subst q28
        refine And.intro (show A 0 (fd 10) = ((36 : Nat) : Int) by omega) ?_
        refine Exists.intro n (And.intro rfl (And.intro (And.intro i0 (And.intro j0 (And.intro (by omega) (And.intro (by omega) p3)))) (fun A29 i30 j31 f32 r33 g35 g34 => ?_)))
        have f36 := frm_c f0 f32 rfl
        have t37 := ivf_at j31 9 rfl
        have t38 := ivf_at j31 1 rfl
        have t39 := ivf_at j31 0 rfl
        refine fun A40 e41 => ?_
        have i42 := iva_sf i30 e41 rfl
        have j43 := ivf_st j31 e41 (And.intro (by omega) trivial)
        have f44 := frm_sf f36 e41 rfl
        have t45 : A40 36 (fd 8) = A29 36 (fd 8) := (congrFun (st_a e41 rfl) _)
        have t46 : A40 54 (fd 3) = A29 54 (fd 3) := (congrFun (st_a e41 rfl) _)
        have t47 : A40 54 (fd 2) = A29 54 (fd 2) := (congrFun (st_a e41 rfl) _)
        have kk48 := KO_k g34 (st_a e41 rfl) (st_a e41 rfl) (st_a e41 rfl) (st_a e41 rfl)
        refine And.intro (fun h49 => ?_) (fun h49 => ?_)
        · obtain ⟨v50, e51⟩ : ∃ v, v = A40 34 (fd 4) := ⟨_, rfl⟩
          have q52 : v6 = v50 := (e51.trans ((Eq.trans (congrFun (st_a e41 rfl) _) (frm_f f32 rfl)).trans e7.symm)).symm
          subst q52
          obtain ⟨v53, e54⟩ : ∃ v, v = A40 0 (fd 10) := ⟨_, rfl⟩
          have q55 : v4 = v53 := (e54.trans ((Eq.trans (congrFun (st_a e41 rfl) _) (frm_f f32 rfl)).trans e27.symm)).symm
          subst q55
          exact hK _ i42 j43 f44 _ (by first | exact wI_rng _ | omega | (exact (hA _ _).2 rfl)) kk48 (by first | assumption | (unfold LD; omega))
        · obtain ⟨v56, e57⟩ : ∃ v, v = A40 34 (fd 4) := ⟨_, rfl⟩
          have q58 : v6 = v56 := (e57.trans ((Eq.trans (congrFun (st_a e41 rfl) _) (frm_f f32 rfl)).trans e7.symm)).symm
          subst q58
          refine And.intro (show A40 34 (fd 4) = ((71 : Nat) : Int) by omega) ?_
          obtain ⟨v59, e60⟩ : ∃ v, v = A40 0 (fd 10) := ⟨_, rfl⟩
          have q61 : v4 = v59 := (e60.trans ((Eq.trans (congrFun (st_a e41 rfl) _) (frm_f f32 rfl)).trans e27.symm)).symm
          subst q61
          refine And.intro (show A40 0 (fd 10) = ((36 : Nat) : Int) by omega) ?_
          refine fun A62 e63 => ?_
          have i64 := iva_sf i42 e63 rfl
          have j65 := ivf_st j43 e63 trivial
          have f66 := frm_sf f44 e63 rfl
          have t67 : A62 36 (fd 8) = A40 36 (fd 8) := (congrFun (st_a e63 rfl) _)
          have t68 : A62 54 (fd 3) = A40 54 (fd 3) := (congrFun (st_a e63 rfl) _)
          have t69 : A62 54 (fd 2) = A40 54 (fd 2) := (congrFun (st_a e63 rfl) _)
          have kk70 := KO_k kk48 (st_a e63 rfl) (st_a e63 rfl) (st_a e63 rfl) (st_a e63 rfl)
          refine fun A71 e72 => ?_
          have i73 := iva_sf i64 e72 rfl
          have j74 := ivf_st j65 e72 trivial
          have f75 := frm_sf f66 e72 rfl
          have t76 : A71 36 (fd 8) = A62 36 (fd 8) := (congrFun (st_a e72 rfl) _)
          have t77 : A71 54 (fd 3) = A62 54 (fd 3) := (congrFun (st_a e72 rfl) _)
          have t78 : A71 54 (fd 2) = A62 54 (fd 2) := (congrFun (st_a e72 rfl) _)
          have kk79 := KO_k kk70 (st_a e72 rfl) (st_a e72 rfl) (st_a e72 rfl) (st_a e72 rfl)
          obtain ⟨v80, e81⟩ : ∃ v, v = A71 34 (fd 4) := ⟨_, rfl⟩
          have q82 : (36 : Int) = v80 := (e81.trans ((congrFun (st_a e72 rfl) _).trans (st_v e63))).symm
          subst q82
          obtain ⟨v83, e84⟩ : ∃ v, v = A71 0 (fd 10) := ⟨_, rfl⟩
          have q85 : (71 : Int) = v83 := (e84.trans (st_v e72)).symm
          subst q85
          exact hK _ i73 j74 f75 _ (by first | exact wI_rng _ | omega | (exact (hA _ _).2 rfl)) kk79 (by first | assumption | (unfold LD; omega))
      · obtain ⟨v86, e87⟩ : ∃ v, v = A 34 (fd 4) := ⟨_, rfl⟩
        have q88 : v6 = v86 := (e87.trans e7.symm).symm
        subst q88
        obtain ⟨v89, e90⟩ : ∃ v, v = A 0 (fd 10) := ⟨_, rfl⟩
        have q91 : v4 = v89 := (e90.trans e5.symm).symm
        subst q91
        exact hK _ i0 j0 f0 _ (by first | exact wI_rng _ | omega | (exact (hA _ _).2 rfl)) p3 (by first | assumption | (unfold LD; omega))
def sC_readClause_71 : qS := fun as A K => as = [rf 54] ∧ (iva IC A ∧ ivf JC A ∧ (52 ≤ A 54 (fd 0) ∧ A 54 (fd 0) ≤ 52) ∧ (71 ≤ A 54 (fd 1) ∧ A 54 (fd 1) ≤ 71) ∧ (KO A) ∧ (A 71 (fd 8) ≤ A 54 (fd 3))) ∧ (∀ A' : qA, iva IC A' → ivf JC A' → frm [72, 73, 74, 75, 76, 77] [(71, 7), (71, 8), (54, 3), (54, 4)] A A' → ∀ r : Int, 0 ≤ r → r ≤ 1 → (KO A') → (PF 71 A A') → (A 71 (fd 8) ≤ A' 71 (fd 8)) → (A' 71 (fd 8) + A 54 (fd 3) ≤ A 71 (fd 8) + A' 54 (fd 3)) → K (some (ni r)) A')
theorem okC_readClause_71 : okM LC 25 51 sC_readClause_71 := by
  refine qmeth [(54, 0, 52), (54, 1, 71)] false [(46, sC_look_71), (57, sC_readSum0_71), (48, sC_expect_71), (52, sC_readCondition1_71), (47, sC_fail_71)] 93 rfl ⟨okC_look_71.le (by decide), ⟨okC_readSum0_71.le (by decide), ⟨okC_expect_71.le (by decide), ⟨okC_readCondition1_71.le (by decide), ⟨okC_fail_71.le (by decide), trivial⟩⟩⟩⟩⟩ ?_
  rintro _ A K hA has ⟨rfl, ⟨i0, j0, p1, p2, p3, p4⟩, hK⟩
  have f0 := frm_0 [72, 73, 74, 75, 76, 77] [(71, 7), (71, 8), (54, 3), (54, 4)] A
  obtain ⟨v5, e6⟩ : ∃ v, v = A 54 (fd 0) := ⟨_, rfl⟩
  rw [← e6] at p1
  obtain ⟨v7, e8⟩ : ∃ v, v = A 54 (fd 1) := ⟨_, rfl⟩
  rw [← e8] at p2
  have pf0 := PF_rf 71 A
  have hb_71_8 := ivf_at j0 12 rfl
  have hb_54_3 := ivf_at j0 1 rfl
  have hb_54_2 := ivf_at j0 0 rfl
  refine ⟨Nat.le_of_ble_eq_true rfl, [], trivial, ?_⟩
  obtain ⟨v9, e10⟩ : ∃ v, v = A 54 (fd 0) := ⟨_, rfl⟩
  have q11 : v5 = v9 := (e10.trans e6.symm).symm
  subst q11
  obtain ⟨v12, e13⟩ : ∃ v, v = A 54 (fd 1) := ⟨_, rfl⟩
  have q14 : v7 = v12 := (e13.trans e8.symm).symm
  subst q14
  refine And.intro rfl (And.intro (And.intro i0 (And.intro j0 (And.intro (by rw [← e10]; omega) (by rw [← e13]; omega)))) (fun r15 g17 g18 g16 => ?_))
  refine fun v19 e20 => ?_
  have h21 := qone_bd 1 r15
  rw [← e20] at h21
  have h22 := qone_p (s := 1) (x := r15) (by omega)
  refine And.intro (fun h23 => ?_) (fun h23 => ?_)
  · obtain ⟨v24, e25⟩ : ∃ v, v = A 54 (fd 1) := ⟨_, rfl⟩
    have q26 : v7 = v24 := (e25.trans e13.symm).symm
    subst q26
    refine And.intro (show A 54 (fd 1) = ((71 : Nat) : Int) by omega) ?_
    refine fun v27 gv27 e28 => ?_
    have b29 := ivf_at j0 11 rfl
    refine And.intro (fun h30 => ?_) (fun h30 => ?_)
    · refine fun v31 gv31 e32 => ?_
      have b33 := ivf_at j0 1 rfl
      refine fun v34 e35 => ?_
      refine And.intro (by omega) (fun A36 e37 => ?_)
      have i38 := iva_sf i0 e37 rfl
      have j39 := ivf_st j0 e37 (And.intro (by omega) trivial)
      have f40 := frm_sf f0 e37 rfl
      have t41 : A36 71 (fd 8) = A 71 (fd 8) := (congrFun (st_a e37 rfl) _)
      have t42 := st_v e37
      have t43 : A36 54 (fd 2) = A 54 (fd 2) := (st_f e37 rfl)
      have kk44 := KO_k p3 (st_a e37 rfl) (st_a e37 rfl) (st_a e37 rfl) (st_a e37 rfl)
      have pf45 := PF_k pf0 (st_a e37 rfl)
      obtain ⟨v46, e47⟩ : ∃ v, v = A36 54 (fd 1) := ⟨_, rfl⟩
      have q48 : v7 = v46 := (e47.trans ((st_f e37 rfl).trans e25.symm)).symm
      subst q48
      refine And.intro (show A36 54 (fd 1) = ((71 : Nat) : Int) by omega) ?_
      refine And.intro (by omega) (fun A49 e50 => ?_)
      have i51 := iva_st i38 e50 trivial
      have j52 := ivf_sa j39 e50 rfl
      have f53 := frm_s f40 e50 rfl
      have t54 : A49 71 (fd 8) = A36 71 (fd 8) := (congrFun (st_a e50 rfl) _)
      have t55 : A49 54 (fd 3) = A36 54 (fd 3) := (congrFun (st_a e50 rfl) _)
      have t56 : A49 54 (fd 2) = A36 54 (fd 2) := (congrFun (st_a e50 rfl) _)
      have kk57 := KO_k kk44 (st_a e50 rfl) (st_a e50 rfl) (st_a e50 rfl) (st_a e50 rfl)
      have pf58 := PF_k pf45 (st_a e50 rfl)
      obtain ⟨v59, e60⟩ : ∃ v, v = A49 54 (fd 1) := ⟨_, rfl⟩
      have q61 : v7 = v59 := (e60.trans ((congrFun (st_a e50 rfl) _).trans e47.symm)).symm
      subst q61
      refine And.intro (show A49 54 (fd 1) = ((71 : Nat) : Int) by omega) ?_
      obtain ⟨v62, e63⟩ : ∃ v, v = A49 54 (fd 1) := ⟨_, rfl⟩
      have q64 : v7 = v62 := (e63.trans e60.symm).symm
      subst q64
      refine And.intro (show A49 54 (fd 1) = ((71 : Nat) : Int) by omega) ?_
      refine fun v65 gv65 e66 => ?_
      have b67 := ivf_at j52 12 rfl
      refine And.intro (by omega) (fun A68 e69 => ?_)
      have i70 := iva_st i51 e69 (And.intro (by omega) trivial)
      have j71 := ivf_sa j52 e69 rfl
      have f72 := frm_s f53 e69 rfl
      have t73 : A68 71 (fd 8) = A49 71 (fd 8) := (congrFun (st_a e69 rfl) _)
      have t74 : A68 54 (fd 3) = A49 54 (fd 3) := (congrFun (st_a e69 rfl) _)
      have t75 : A68 54 (fd 2) = A49 54 (fd 2) := (congrFun (st_a e69 rfl) _)
      have kk76 := KO_k kk57 (st_a e69 rfl) (st_a e69 rfl) (st_a e69 rfl) (st_a e69 rfl)
      have pf77 := PF_k pf58 (st_a e69 rfl)
      obtain ⟨v78, e79⟩ : ∃ v, v = A68 54 (fd 0) := ⟨_, rfl⟩
      have q80 : v5 = v78 := (e79.trans ((Eq.trans (Eq.trans (congrFun (st_a e69 rfl) _) (congrFun (st_a e50 rfl) _)) (st_f e37 rfl)).trans e10.symm)).symm
      subst q80
      obtain ⟨v81, e82⟩ : ∃ v, v = A68 54 (fd 1) := ⟨_, rfl⟩
      have q83 : v7 = v81 := (e82.trans ((congrFun (st_a e69 rfl) _).trans e63.symm)).symm
      subst q83
      refine Exists.intro 0 (And.intro rfl (And.intro (And.intro i70 (And.intro j71 (And.intro (by omega) (And.intro (by omega) (And.intro (by rw [← e79]; omega) (And.intro (by rw [← e82]; omega) (And.intro kk76 (by first | assumption | omega | simp_all)))))))) (fun A84 i85 j86 f87 r88 g93 g94 g89 g90 g91 g92 => ?_)))
      have f95 := frm_c f72 f87 rfl
      have t96 := ivf_at j86 12 rfl
      have t97 := ivf_at j86 1 rfl
      have t98 : A84 54 (fd 2) = A68 54 (fd 2) := (frm_f f87 rfl)
      have pf99 := PF_tr pf77 g90 (by omega)
      refine And.intro (fun h100 => ?_) (fun h100 => ?_)
      · exact And.intro (by omega) (hK _ i85 j86 f95 _ (by omega) (by omega) g89 pf99 (by first | assumption | omega | simp_all) (by first | assumption | omega | simp_all))
      · obtain ⟨v101, e102⟩ : ∃ v, v = A84 54 (fd 0) := ⟨_, rfl⟩
        have q103 : v5 = v101 := (e102.trans ((frm_f f87 rfl).trans e79.symm)).symm
        subst q103
        obtain ⟨v104, e105⟩ : ∃ v, v = A84 54 (fd 1) := ⟨_, rfl⟩
        have q106 : v7 = v104 := (e105.trans ((frm_f f87 rfl).trans e82.symm)).symm
        subst q106
        refine Exists.intro 40 (And.intro rfl (And.intro (And.intro i85 (And.intro j86 (And.intro (by omega) (And.intro (by omega) (And.intro (by rw [← e102]; omega) (And.intro (by rw [← e105]; omega) (And.intro g89 (by first | assumption | omega | simp_all)))))))) (fun A107 i108 j109 f110 r111 g113 g114 g112 => ?_)))
        have f115 := frm_c f95 f110 rfl
        have t116 : A107 71 (fd 8) = A84 71 (fd 8) := (frm_f f110 rfl)
        have t117 := ivf_at j109 1 rfl
        have t118 : A107 54 (fd 2) = A84 54 (fd 2) := (frm_f f110 rfl)
        have kk119 := KO_fr g89 f110 rfl
        have pf120 := PF_k pf99 (frm_a f110 rfl)
        refine And.intro (fun h121 => ?_) (fun h121 => ?_)
        · obtain ⟨v122, e123⟩ : ∃ v, v = A107 54 (fd 1) := ⟨_, rfl⟩
          have q124 : v7 = v122 := (e123.trans ((frm_f f110 rfl).trans e105.symm)).symm
          subst q124
          refine And.intro (show A107 54 (fd 1) = ((71 : Nat) : Int) by omega) ?_
          obtain ⟨v125, e126⟩ : ∃ v, v = A107 54 (fd 1) := ⟨_, rfl⟩
          have q127 : v7 = v125 := (e126.trans e123.symm).symm
          subst q127
          refine And.intro (show A107 54 (fd 1) = ((71 : Nat) : Int) by omega) ?_
          refine fun v128 gv128 e129 => ?_
          have b130 := ivf_at j109 12 rfl
          refine And.intro (by omega) (fun A131 e132 => ?_)
          have i133 := iva_st i108 e132 (And.intro (by omega) trivial)
          have j134 := ivf_sa j109 e132 rfl
          have f135 := frm_s f115 e132 rfl
          have t136 : A131 71 (fd 8) = A107 71 (fd 8) := (congrFun (st_a e132 rfl) _)
          have t137 : A131 54 (fd 3) = A107 54 (fd 3) := (congrFun (st_a e132 rfl) _)
          have t138 : A131 54 (fd 2) = A107 54 (fd 2) := (congrFun (st_a e132 rfl) _)
          have kk139 := KO_k kk119 (st_a e132 rfl) (st_a e132 rfl) (st_a e132 rfl) (st_a e132 rfl)
          have pf140 := PF_k pf120 (st_a e132 rfl)
          obtain ⟨v141, e142⟩ : ∃ v, v = A131 54 (fd 0) := ⟨_, rfl⟩
          have q143 : v5 = v141 := (e142.trans ((Eq.trans (congrFun (st_a e132 rfl) _) (frm_f f110 rfl)).trans e102.symm)).symm
          subst q143
          obtain ⟨v144, e145⟩ : ∃ v, v = A131 54 (fd 1) := ⟨_, rfl⟩
          have q146 : v7 = v144 := (e145.trans ((congrFun (st_a e132 rfl) _).trans e126.symm)).symm
          subst q146
          refine Exists.intro 1 (And.intro rfl (And.intro (And.intro i133 (And.intro j134 (And.intro (by omega) (And.intro (by omega) (And.intro (by rw [← e142]; omega) (And.intro (by rw [← e145]; omega) (And.intro kk139 (by first | assumption | omega | simp_all)))))))) (fun A147 i148 j149 f150 r151 g156 g157 g152 g153 g154 g155 => ?_)))
          have f158 := frm_c f135 f150 rfl
          have t159 := ivf_at j149 12 rfl
          have t160 := ivf_at j149 1 rfl
          have t161 : A147 54 (fd 2) = A131 54 (fd 2) := (frm_f f150 rfl)
          have pf162 := PF_tr pf140 g153 (by omega)
          refine And.intro (fun h163 => ?_) (fun h163 => ?_)
          · exact And.intro (by omega) (hK _ i148 j149 f158 _ (by omega) (by omega) g152 pf162 (by first | assumption | omega | simp_all) (by first | assumption | omega | simp_all))
          · obtain ⟨v164, e165⟩ : ∃ v, v = A147 54 (fd 0) := ⟨_, rfl⟩
            have q166 : v5 = v164 := (e165.trans ((frm_f f150 rfl).trans e142.symm)).symm
            subst q166
            obtain ⟨v167, e168⟩ : ∃ v, v = A147 54 (fd 1) := ⟨_, rfl⟩
            have q169 : v7 = v167 := (e168.trans ((frm_f f150 rfl).trans e145.symm)).symm
            subst q169
            refine Exists.intro 41 (And.intro rfl (And.intro (And.intro i148 (And.intro j149 (And.intro (by omega) (And.intro (by omega) (And.intro (by rw [← e165]; omega) (And.intro (by rw [← e168]; omega) (And.intro g152 (by first | assumption | omega | simp_all)))))))) (fun A170 i171 j172 f173 r174 g176 g177 g175 => ?_)))
            have f178 := frm_c f158 f173 rfl
            have t179 : A170 71 (fd 8) = A147 71 (fd 8) := (frm_f f173 rfl)
            have t180 := ivf_at j172 1 rfl
            have t181 : A170 54 (fd 2) = A147 54 (fd 2) := (frm_f f173 rfl)
            have kk182 := KO_fr g152 f173 rfl
            have pf183 := PF_k pf162 (frm_a f173 rfl)
            refine And.intro (fun h184 => ?_) (fun h184 => ?_)
            · obtain ⟨v185, e186⟩ : ∃ v, v = A170 54 (fd 1) := ⟨_, rfl⟩
              have q187 : v7 = v185 := (e186.trans ((frm_f f173 rfl).trans e168.symm)).symm
              subst q187
              refine And.intro (show A170 54 (fd 1) = ((71 : Nat) : Int) by omega) ?_
              obtain ⟨v188, e189⟩ : ∃ v, v = A170 54 (fd 1) := ⟨_, rfl⟩
              have q190 : v7 = v188 := (e189.trans e186.symm).symm
              subst q190
              refine And.intro (show A170 54 (fd 1) = ((71 : Nat) : Int) by omega) ?_
              refine fun v191 gv191 e192 => ?_
              have b193 := ivf_at j172 12 rfl
              refine And.intro (by omega) (fun A194 e195 => ?_)
              have i196 := iva_st i171 e195 (And.intro (by omega) trivial)
              have j197 := ivf_sa j172 e195 rfl
              have f198 := frm_s f178 e195 rfl
              have t199 : A194 71 (fd 8) = A170 71 (fd 8) := (congrFun (st_a e195 rfl) _)
              have t200 : A194 54 (fd 3) = A170 54 (fd 3) := (congrFun (st_a e195 rfl) _)
              have t201 : A194 54 (fd 2) = A170 54 (fd 2) := (congrFun (st_a e195 rfl) _)
              have kk202 := KO_k kk182 (st_a e195 rfl) (st_a e195 rfl) (st_a e195 rfl) (st_a e195 rfl)
              have pf203 := PF_k pf183 (st_a e195 rfl)
              obtain ⟨v204, e205⟩ : ∃ v, v = A194 54 (fd 1) := ⟨_, rfl⟩
              have q206 : v7 = v204 := (e205.trans ((congrFun (st_a e195 rfl) _).trans e189.symm)).symm
              subst q206
              refine And.intro (show A194 54 (fd 1) = ((71 : Nat) : Int) by omega) ?_
              refine fun v207 gv207 e208 => ?_
              have b209 := ivf_at j197 11 rfl
              have q210 : v27 = v207 := (e208.trans ((Eq.trans (Eq.trans (Eq.trans (Eq.trans (Eq.trans (Eq.trans (Eq.trans (Eq.trans (congrFun (st_a e195 rfl) _) (frm_f f173 rfl)) (frm_f f150 rfl)) (congrFun (st_a e132 rfl) _)) (frm_f f110 rfl)) (frm_f f87 rfl)) (congrFun (st_a e69 rfl) _)) (congrFun (st_a e50 rfl) _)) (congrFun (st_a e37 rfl) _)).trans e28.symm)).symm
              subst q210
              refine fun v211 e212 => ?_
              refine And.intro (by omega) (fun A213 e214 => ?_)
              have i215 := iva_sf i196 e214 rfl
              have j216 := ivf_st j197 e214 (And.intro (by omega) trivial)
              have f217 := frm_sf f198 e214 rfl
              have t218 : A213 71 (fd 8) = A194 71 (fd 8) := (st_f e214 rfl)
              have t219 : A213 54 (fd 3) = A194 54 (fd 3) := (congrFun (st_a e214 rfl) _)
              have t220 : A213 54 (fd 2) = A194 54 (fd 2) := (congrFun (st_a e214 rfl) _)
              have kk221 := KO_k kk202 (st_a e214 rfl) (st_a e214 rfl) (st_a e214 rfl) (st_a e214 rfl)
              have pf222 := PF_k pf203 (st_a e214 rfl)
              exact And.intro (by omega) (hK _ i215 j216 f217 _ (by omega) (by omega) kk221 pf222 (by first | assumption | omega | simp_all) (by first | assumption | omega | simp_all))
            · exact And.intro (by omega) (hK _ i171 j172 f178 _ (by omega) (by omega) kk182 pf183 (by first | assumption | omega | simp_all) (by first | assumption | omega | simp_all))
        · exact And.intro (by omega) (hK _ i108 j109 f115 _ (by omega) (by omega) kk119 pf120 (by first | assumption | omega | simp_all) (by first | assumption | omega | simp_all))
    · obtain ⟨v223, e224⟩ : ∃ v, v = A 54 (fd 0) := ⟨_, rfl⟩
      have q225 : v5 = v223 := (e224.trans e10.symm).symm
      subst q225
      obtain ⟨v226, e227⟩ : ∃ v, v = A 54 (fd 1) := ⟨_, rfl⟩
      have q228 : v7 = v226 := (e227.trans e25.symm).symm
      subst q228
      refine Exists.intro 4 (And.intro rfl (And.intro (And.intro i0 (And.intro j0 (And.intro (by omega) (And.intro (by omega) (And.intro (by rw [← e224]; omega) (by rw [← e227]; omega)))))) (fun A229 i230 j231 f232 => (fun h233 => ?_))))
      · have f234 := frm_c f0 f232 rfl
        have t235 : A229 71 (fd 8) = A 71 (fd 8) := (frm_f f232 rfl)
        have t236 : A229 54 (fd 3) = A 54 (fd 3) := (frm_f f232 rfl)
        have t237 : A229 54 (fd 2) = A 54 (fd 2) := (frm_f f232 rfl)
        have kk238 := KO_fr p3 f232 rfl
        have pf239 := PF_k pf0 (frm_a f232 rfl)
        exact And.intro (by omega) (hK _ i230 j231 f234 _ (by omega) (by omega) kk238 pf239 (by first | assumption | omega | simp_all) (by first | assumption | omega | simp_all))
  · obtain ⟨v240, e241⟩ : ∃ v, v = A 54 (fd 0) := ⟨_, rfl⟩
    have q242 : v5 = v240 := (e241.trans e10.symm).symm
    subst q242
    obtain ⟨v243, e244⟩ : ∃ v, v = A 54 (fd 1) := ⟨_, rfl⟩
    have q245 : v7 = v243 := (e244.trans e13.symm).symm
    subst q245
    refine Exists.intro 1 (And.intro rfl (And.intro (And.intro i0 (And.intro j0 (And.intro (by omega) (And.intro (by omega) (And.intro (by rw [← e241]; omega) (by rw [← e244]; omega)))))) (fun A246 i247 j248 f249 => (fun h250 => ?_))))
    · have f251 := frm_c f0 f249 rfl
      have t252 : A246 71 (fd 8) = A 71 (fd 8) := (frm_f f249 rfl)
      have t253 : A246 54 (fd 3) = A 54 (fd 3) := (frm_f f249 rfl)
      have t254 : A246 54 (fd 2) = A 54 (fd 2) := (frm_f f249 rfl)
      have kk255 := KO_fr p3 f249 rfl
      have pf256 := PF_k pf0 (frm_a f249 rfl)
      exact And.intro (by omega) (hK _ i247 j248 f251 _ (by omega) (by omega) kk255 pf256 (by first | assumption | omega | simp_all) (by first | assumption | omega | simp_all))
def sC_read_71 : qS := fun as A K => ∃ n : Int, as = [rf 54, rf 52, ni n, rf 71] ∧ (iva IC A ∧ ivf JC A ∧ 0 ≤ n ∧ n ≤ 200 ∧ (KO A)) ∧ (∀ A' : qA, iva IC A' → ivf JC A' → frm [72, 73, 74, 75, 76, 77] [(71, 7), (71, 8), (54, 3), (54, 4), (54, 0), (54, 1), (54, 2)] A A' → ∀ r : Int, rng r → (KO A') → K (some (ni r)) A')
theorem okC_read_71 : okM LC 26 45 sC_read_71 := by
  refine qmeth [(54, 0, 52), (54, 1, 71)] false [(51, sC_readClause_71), (46, sC_look_71), (48, sC_expect_71)] 54 rfl ⟨okC_readClause_71.le (by decide), ⟨okC_look_71.le (by decide), ⟨okC_expect_71.le (by decide), trivial⟩⟩⟩ ?_
  rintro _ A K hA has ⟨n, rfl, ⟨i0, j0, p1, p2, p3⟩, hK⟩
  have rg_n : rng n := has (ni n) (by simp)
  have f0 := frm_0 [72, 73, 74, 75, 76, 77] [(71, 7), (71, 8), (54, 3), (54, 4), (54, 0), (54, 1), (54, 2)] A
  have pf0 := PF_rf 71 A
  have hb_71_8 := ivf_at j0 12 rfl
  have hb_54_3 := ivf_at j0 1 rfl
  have hb_54_2 := ivf_at j0 0 rfl
  refine ⟨Nat.le_of_ble_eq_true rfl, [(23, [(0, 2, 54), (3, 2, 71), (4, 0, 0)], fun zs B nn => match zs with | [i] => iva IC B ∧ ivf JC B ∧ frm [72, 73, 74, 75, 76, 77] [(71, 7), (71, 8), (54, 3), (54, 4), (54, 0), (54, 1), (54, 2)] A B ∧ nn = (15 - i : Int).toNat ∧ (52 ≤ B 54 (fd 0) ∧ B 54 (fd 0) ≤ 52) ∧ (71 ≤ B 54 (fd 1) ∧ B 54 (fd 1) ≤ 71) ∧ (0 ≤ i) ∧ (i ≤ 15) ∧ (KO B) ∧ (B 71 (fd 8) ≤ B 54 (fd 3)) | _ => False)], ?_, ?_⟩
  · refine ⟨⟨rfl, ?_⟩, trivial⟩
    · refine fun i B mm hB hz hI => ?_
      obtain ⟨i1, j1, f1, hm, d0, d1, c0, c1, c2, c3⟩ := hI
      obtain ⟨hz_i, _⟩ := hz
      obtain ⟨v73, e74⟩ : ∃ v, v = B 54 (fd 0) := ⟨_, rfl⟩
      rw [← e74] at d0
      obtain ⟨v75, e76⟩ : ∃ v, v = B 54 (fd 1) := ⟨_, rfl⟩
      rw [← e76] at d1
      have hc_71_8 := ivf_at j1 12 rfl
      have hc_54_3 := ivf_at j1 1 rfl
      have hc_54_2 := ivf_at j1 0 rfl
      have hc_w : B 53 = A 53 := frm_a f1 rfl
      refine And.intro (fun h77 => ?_) (fun h77 => ?_)
      · refine fun v78 gv78 e79 => ?_
        exact hK _ i1 j1 f1 _ (by first | exact wI_rng _ | omega | (exact (hA _ _).2 rfl)) c2
      · obtain ⟨v80, e81⟩ : ∃ v, v = B 54 (fd 0) := ⟨_, rfl⟩
        have q82 : v73 = v80 := (e81.trans e74.symm).symm
        subst q82
        obtain ⟨v83, e84⟩ : ∃ v, v = B 54 (fd 1) := ⟨_, rfl⟩
        have q85 : v75 = v83 := (e84.trans e76.symm).symm
        subst q85
        refine And.intro rfl (And.intro (And.intro i1 (And.intro j1 (And.intro (by rw [← e81]; omega) (And.intro (by rw [← e84]; omega) (And.intro c2 (by first | assumption | omega | simp_all)))))) (fun A86 i87 j88 f89 r90 g95 g96 g91 g92 g93 g94 => ?_))
        have f97 := frm_c f1 f89 rfl
        have t98 := ivf_at j88 12 rfl
        have t99 := ivf_at j88 1 rfl
        have t100 : A86 54 (fd 2) = B 54 (fd 2) := (frm_f f89 rfl)
        refine And.intro (fun h101 => ?_) (fun h101 => ?_)
        · refine fun v102 gv102 e103 => ?_
          exact hK _ i87 j88 f97 _ (by first | exact wI_rng _ | omega | (exact (hA _ _).2 rfl)) g91
        · obtain ⟨v104, e105⟩ : ∃ v, v = A86 54 (fd 0) := ⟨_, rfl⟩
          have q106 : v73 = v104 := (e105.trans ((frm_f f89 rfl).trans e81.symm)).symm
          subst q106
          obtain ⟨v107, e108⟩ : ∃ v, v = A86 54 (fd 1) := ⟨_, rfl⟩
          have q109 : v75 = v107 := (e108.trans ((frm_f f89 rfl).trans e84.symm)).symm
          subst q109
          refine And.intro rfl (And.intro (And.intro i87 (And.intro j88 (And.intro (by rw [← e105]; omega) (by rw [← e108]; omega)))) (fun r110 g112 g113 g111 => ?_))
          refine And.intro (fun h114 => ?_) (fun h114 => ?_)
          · obtain ⟨v115, e116⟩ : ∃ v, v = A86 54 (fd 0) := ⟨_, rfl⟩
            have q117 : v73 = v115 := (e116.trans e105.symm).symm
            subst q117
            obtain ⟨v118, e119⟩ : ∃ v, v = A86 54 (fd 1) := ⟨_, rfl⟩
            have q120 : v75 = v118 := (e119.trans e108.symm).symm
            subst q120
            refine Exists.intro 59 (And.intro rfl (And.intro (And.intro i87 (And.intro j88 (And.intro (by omega) (And.intro (by omega) (And.intro (by rw [← e116]; omega) (And.intro (by rw [← e119]; omega) (And.intro g91 (by first | assumption | omega | simp_all)))))))) (fun A121 i122 j123 f124 r125 g127 g128 g126 => ?_)))
            have f129 := frm_c f97 f124 rfl
            have t130 : A121 71 (fd 8) = A86 71 (fd 8) := (frm_f f124 rfl)
            have t131 := ivf_at j123 1 rfl
            have t132 : A121 54 (fd 2) = A86 54 (fd 2) := (frm_f f124 rfl)
            have kk133 := KO_fr g91 f124 rfl
            refine And.intro (fun h134 => ?_) (fun h134 => ?_)
            · refine fun v135 e136 => ?_
              obtain ⟨v137, e138⟩ : ∃ v, v = A121 54 (fd 0) := ⟨_, rfl⟩
              have q139 : v73 = v137 := (e138.trans ((frm_f f124 rfl).trans e116.symm)).symm
              subst q139
              obtain ⟨v140, e141⟩ : ∃ v, v = A121 54 (fd 1) := ⟨_, rfl⟩
              have q142 : v75 = v140 := (e141.trans ((frm_f f124 rfl).trans e119.symm)).symm
              subst q142
              exact And.intro (by omega) (Exists.intro (15 - v135 : Int).toNat (And.intro (by omega) (And.intro i122 (And.intro j123 (And.intro f129 (And.intro rfl (And.intro (by rw [← e138]; omega) (And.intro (by rw [← e141]; omega) (And.intro (by omega) (And.intro (by omega) (And.intro kk133 (by omega))))))))))))
            · refine fun v143 gv143 e144 => ?_
              exact hK _ i122 j123 f129 _ (by first | exact wI_rng _ | omega | (exact (hA _ _).2 rfl)) kk133
          · refine fun v145 gv145 e146 => ?_
            have b147 := ivf_at j88 11 rfl
            exact hK _ i87 j88 f97 _ (by first | exact wI_rng _ | omega | (exact (hA _ _).2 rfl)) g91
  · refine fun A4 e5 => ?_
    have i6 := iva_sf i0 e5 rfl
    have j7 := ivf_st j0 e5 trivial
    have f8 := frm_sf f0 e5 rfl
    have t9 : A4 71 (fd 8) = A 71 (fd 8) := (congrFun (st_a e5 rfl) _)
    have t10 : A4 54 (fd 3) = A 54 (fd 3) := (st_f e5 rfl)
    have t11 : A4 54 (fd 2) = A 54 (fd 2) := (st_f e5 rfl)
    have kk12 := KO_k p3 (st_a e5 rfl) (st_a e5 rfl) (st_a e5 rfl) (st_a e5 rfl)
    refine fun A13 e14 => ?_
    have i15 := iva_sf i6 e14 rfl
    have j16 := ivf_st j7 e14 trivial
    have f17 := frm_sf f8 e14 rfl
    have t18 : A13 71 (fd 8) = A4 71 (fd 8) := (congrFun (st_a e14 rfl) _)
    have t19 : A13 54 (fd 3) = A4 54 (fd 3) := (st_f e14 rfl)
    have t20 : A13 54 (fd 2) = A4 54 (fd 2) := (st_f e14 rfl)
    have kk21 := KO_k kk12 (st_a e14 rfl) (st_a e14 rfl) (st_a e14 rfl) (st_a e14 rfl)
    refine fun A22 e23 => ?_
    have i24 := iva_sf i15 e23 rfl
    have j25 := ivf_st j16 e23 (And.intro (by omega) trivial)
    have f26 := frm_sf f17 e23 rfl
    have t27 : A22 71 (fd 8) = A13 71 (fd 8) := (congrFun (st_a e23 rfl) _)
    have t28 : A22 54 (fd 3) = A13 54 (fd 3) := (st_f e23 rfl)
    have t29 := st_v e23
    have kk30 := KO_k kk21 (st_a e23 rfl) (st_a e23 rfl) (st_a e23 rfl) (st_a e23 rfl)
    refine fun A31 e32 => ?_
    have i33 := iva_sf i24 e32 rfl
    have j34 := ivf_st j25 e32 (And.intro (by omega) trivial)
    have f35 := frm_sf f26 e32 rfl
    have t36 : A31 71 (fd 8) = A22 71 (fd 8) := (congrFun (st_a e32 rfl) _)
    have t37 := st_v e32
    have t38 : A31 54 (fd 2) = A22 54 (fd 2) := (st_f e32 rfl)
    have kk39 := KO_k kk30 (st_a e32 rfl) (st_a e32 rfl) (st_a e32 rfl) (st_a e32 rfl)
    refine fun A40 e41 => ?_
    have i42 := iva_sf i33 e41 rfl
    have j43 := ivf_st j34 e41 trivial
    have f44 := frm_sf f35 e41 rfl
    have t45 : A40 71 (fd 8) = A31 71 (fd 8) := (congrFun (st_a e41 rfl) _)
    have t46 : A40 54 (fd 3) = A31 54 (fd 3) := (st_f e41 rfl)
    have t47 : A40 54 (fd 2) = A31 54 (fd 2) := (st_f e41 rfl)
    have kk48 := KO_k kk39 (st_a e41 rfl) (st_a e41 rfl) (st_a e41 rfl) (st_a e41 rfl)
    refine fun A49 e50 => ?_
    have i51 := iva_sf i42 e50 rfl
    have j52 := ivf_st j43 e50 (And.intro (by omega) trivial)
    have f53 := frm_sf f44 e50 rfl
    have t54 : A49 71 (fd 8) = A40 71 (fd 8) := (st_f e50 rfl)
    have t55 : A49 54 (fd 3) = A40 54 (fd 3) := (congrFun (st_a e50 rfl) _)
    have t56 : A49 54 (fd 2) = A40 54 (fd 2) := (congrFun (st_a e50 rfl) _)
    have kk57 := KO_k kk48 (st_a e50 rfl) (st_a e50 rfl) (st_a e50 rfl) (st_a e50 rfl)
    refine fun A58 e59 => ?_
    have i60 := iva_sf i51 e59 rfl
    have j61 := ivf_st j52 e59 (And.intro (by omega) trivial)
    have f62 := frm_sf f53 e59 rfl
    have t63 := st_v e59
    have t64 : A58 54 (fd 3) = A49 54 (fd 3) := (congrFun (st_a e59 rfl) _)
    have t65 : A58 54 (fd 2) = A49 54 (fd 2) := (congrFun (st_a e59 rfl) _)
    have kk66 := KO_k kk57 (st_a e59 rfl) (st_a e59 rfl) (st_a e59 rfl) (st_a e59 rfl)
    obtain ⟨v67, e68⟩ : ∃ v, v = A58 54 (fd 0) := ⟨_, rfl⟩
    have q69 : (52 : Int) = v67 := (e68.trans ((Eq.trans (Eq.trans (Eq.trans (Eq.trans (Eq.trans (congrFun (st_a e59 rfl) _) (congrFun (st_a e50 rfl) _)) (st_f e41 rfl)) (st_f e32 rfl)) (st_f e23 rfl)) (st_f e14 rfl)).trans (st_v e5))).symm
    subst q69
    obtain ⟨v70, e71⟩ : ∃ v, v = A58 54 (fd 1) := ⟨_, rfl⟩
    have q72 : (71 : Int) = v70 := (e71.trans ((Eq.trans (Eq.trans (Eq.trans (Eq.trans (congrFun (st_a e59 rfl) _) (congrFun (st_a e50 rfl) _)) (st_f e41 rfl)) (st_f e32 rfl)) (st_f e23 rfl)).trans (st_v e14))).symm
    subst q72
    exact Exists.intro (15 - 0 : Int).toNat (And.intro i60 (And.intro j61 (And.intro f62 (And.intro rfl (And.intro (by rw [← e68]; omega) (And.intro (by rw [← e71]; omega) (And.intro (by omega) (And.intro (by omega) (And.intro kk66 (by omega))))))))))
def sC_law_71 : qS := fun as A K => ∃ n : Int, as = [rf 0, ni n] ∧ (iva IC A ∧ ivf JC A ∧ (71 ≤ A 0 (fd 10) ∧ A 0 (fd 10) ≤ 71) ∧ (36 ≤ A 34 (fd 4) ∧ A 34 (fd 4) ≤ 36) ∧ (KO A)) ∧ (∀ A' : qA, iva IC A' → ivf JC A' → frm [72, 73, 74, 75, 76, 77] [(71, 7), (71, 8), (54, 3), (54, 4), (54, 0), (54, 1), (54, 2), (52, 1), (0, 10), (34, 4)] A A' → ∀ r : Int, rng r → (KO A') → (LD A') → K (some (ni r)) A')
theorem okC_law_71 : okM LC 27 104 sC_law_71 := by
  refine qmeth [(54, 0, 52), (54, 1, 71), (0, 10, 71), (34, 4, 36)] false [(45, sC_read_71)] 48 rfl ⟨okC_read_71.le (by decide), trivial⟩ ?_
  rintro _ A K hA has ⟨n, rfl, ⟨i0, j0, p1, p2, p3⟩, hK⟩
  have rg_n : rng n := has (ni n) (by simp)
  have f0 := frm_0 [72, 73, 74, 75, 76, 77] [(71, 7), (71, 8), (54, 3), (54, 4), (54, 0), (54, 1), (54, 2), (52, 1), (0, 10), (34, 4)] A
  obtain ⟨v4, e5⟩ : ∃ v, v = A 0 (fd 10) := ⟨_, rfl⟩
  rw [← e5] at p1
  obtain ⟨v6, e7⟩ : ∃ v, v = A 34 (fd 4) := ⟨_, rfl⟩
  rw [← e7] at p2
  have pf0 := PF_rf 71 A
  have hb_71_8 := ivf_at j0 12 rfl
  have hb_54_3 := ivf_at j0 1 rfl
  have hb_54_2 := ivf_at j0 0 rfl
  refine ⟨Nat.le_of_ble_eq_true rfl, [], trivial, ?_⟩
  refine And.intro (fun h8 => ?_) (fun h8 => ?_)
  · obtain ⟨v9, e10⟩ : ∃ v, v = A 34 (fd 4) := ⟨_, rfl⟩
    have q11 : v6 = v9 := (e10.trans e7.symm).symm
    subst q11
    obtain ⟨v12, e13⟩ : ∃ v, v = A 0 (fd 10) := ⟨_, rfl⟩
    have q14 : v4 = v12 := (e13.trans e5.symm).symm
    subst q14
    exact hK _ i0 j0 f0 _ (by first | exact wI_rng _ | omega | (exact (hA _ _).2 rfl)) p3 (by first | assumption | (unfold LD; omega))
  · refine And.intro (fun h15 => ?_) (fun h15 => ?_)
    · obtain ⟨v16, e17⟩ : ∃ v, v = A 34 (fd 4) := ⟨_, rfl⟩
      have q18 : v6 = v16 := (e17.trans e7.symm).symm
      subst q18
      obtain ⟨v19, e20⟩ : ∃ v, v = A 0 (fd 10) := ⟨_, rfl⟩
      have q21 : v4 = v19 := (e20.trans e5.symm).symm
      subst q21
      exact hK _ i0 j0 f0 _ (by first | exact wI_rng _ | omega | (exact (hA _ _).2 rfl)) p3 (by first | assumption | (unfold LD; omega))
    · refine fun v22 gv22 e23 => ?_
      have b24 := ivf_at j0 3 rfl
      refine And.intro (fun h25 => ?_) (fun h25 => ?_)
      · obtain ⟨v26, e27⟩ : ∃ v, v = A 0 (fd 10) := ⟨_, rfl⟩
        have q28 : v4 = v26 := (e27.trans e5.symm).symm
        subst q28
        refine And.intro (show A 0 (fd 10) = ((71 : Nat) : Int) by omega) ?_
        refine Exists.intro n (And.intro rfl (And.intro (And.intro i0 (And.intro j0 (And.intro (by omega) (And.intro (by omega) p3)))) (fun A29 i30 j31 f32 r33 g35 g34 => ?_)))
        have f36 := frm_c f0 f32 rfl
        have t37 := ivf_at j31 12 rfl
        have t38 := ivf_at j31 1 rfl
        have t39 := ivf_at j31 0 rfl
        refine fun A40 e41 => ?_
        have i42 := iva_sf i30 e41 rfl
        have j43 := ivf_st j31 e41 (And.intro (by omega) trivial)
        have f44 := frm_sf f36 e41 rfl
        have t45 : A40 71 (fd 8) = A29 71 (fd 8) := (congrFun (st_a e41 rfl) _)
        have t46 : A40 54 (fd 3) = A29 54 (fd 3) := (congrFun (st_a e41 rfl) _)
        have t47 : A40 54 (fd 2) = A29 54 (fd 2) := (congrFun (st_a e41 rfl) _)
        have kk48 := KO_k g34 (st_a e41 rfl) (st_a e41 rfl) (st_a e41 rfl) (st_a e41 rfl)
        refine And.intro (fun h49 => ?_) (fun h49 => ?_)
        · obtain ⟨v50, e51⟩ : ∃ v, v = A40 34 (fd 4) := ⟨_, rfl⟩
          have q52 : v6 = v50 := (e51.trans ((Eq.trans (congrFun (st_a e41 rfl) _) (frm_f f32 rfl)).trans e7.symm)).symm
          subst q52
          obtain ⟨v53, e54⟩ : ∃ v, v = A40 0 (fd 10) := ⟨_, rfl⟩
          have q55 : v4 = v53 := (e54.trans ((Eq.trans (congrFun (st_a e41 rfl) _) (frm_f f32 rfl)).trans e27.symm)).symm
          subst q55
          exact hK _ i42 j43 f44 _ (by first | exact wI_rng _ | omega | (exact (hA _ _).2 rfl)) kk48 (by first | assumption | (unfold LD; omega))
        · obtain ⟨v56, e57⟩ : ∃ v, v = A40 34 (fd 4) := ⟨_, rfl⟩
          have q58 : v6 = v56 := (e57.trans ((Eq.trans (congrFun (st_a e41 rfl) _) (frm_f f32 rfl)).trans e7.symm)).symm
          subst q58
          refine And.intro (show A40 34 (fd 4) = ((36 : Nat) : Int) by omega) ?_
          obtain ⟨v59, e60⟩ : ∃ v, v = A40 0 (fd 10) := ⟨_, rfl⟩
          have q61 : v4 = v59 := (e60.trans ((Eq.trans (congrFun (st_a e41 rfl) _) (frm_f f32 rfl)).trans e27.symm)).symm
          subst q61
          refine And.intro (show A40 0 (fd 10) = ((71 : Nat) : Int) by omega) ?_
          refine fun A62 e63 => ?_
          have i64 := iva_sf i42 e63 rfl
          have j65 := ivf_st j43 e63 trivial
          have f66 := frm_sf f44 e63 rfl
          have t67 : A62 71 (fd 8) = A40 71 (fd 8) := (congrFun (st_a e63 rfl) _)
          have t68 : A62 54 (fd 3) = A40 54 (fd 3) := (congrFun (st_a e63 rfl) _)
          have t69 : A62 54 (fd 2) = A40 54 (fd 2) := (congrFun (st_a e63 rfl) _)
          have kk70 := KO_k kk48 (st_a e63 rfl) (st_a e63 rfl) (st_a e63 rfl) (st_a e63 rfl)
          refine fun A71 e72 => ?_
          have i73 := iva_sf i64 e72 rfl
          have j74 := ivf_st j65 e72 trivial
          have f75 := frm_sf f66 e72 rfl
          have t76 : A71 71 (fd 8) = A62 71 (fd 8) := (congrFun (st_a e72 rfl) _)
          have t77 : A71 54 (fd 3) = A62 54 (fd 3) := (congrFun (st_a e72 rfl) _)
          have t78 : A71 54 (fd 2) = A62 54 (fd 2) := (congrFun (st_a e72 rfl) _)
          have kk79 := KO_k kk70 (st_a e72 rfl) (st_a e72 rfl) (st_a e72 rfl) (st_a e72 rfl)
          obtain ⟨v80, e81⟩ : ∃ v, v = A71 34 (fd 4) := ⟨_, rfl⟩
          have q82 : (71 : Int) = v80 := (e81.trans ((congrFun (st_a e72 rfl) _).trans (st_v e63))).symm
          subst q82
          obtain ⟨v83, e84⟩ : ∃ v, v = A71 0 (fd 10) := ⟨_, rfl⟩
          have q85 : (36 : Int) = v83 := (e84.trans (st_v e72)).symm
          subst q85
          exact hK _ i73 j74 f75 _ (by first | exact wI_rng _ | omega | (exact (hA _ _).2 rfl)) kk79 (by first | assumption | (unfold LD; omega))
      · obtain ⟨v86, e87⟩ : ∃ v, v = A 34 (fd 4) := ⟨_, rfl⟩
        have q88 : v6 = v86 := (e87.trans e7.symm).symm
        subst q88
        obtain ⟨v89, e90⟩ : ∃ v, v = A 0 (fd 10) := ⟨_, rfl⟩
        have q91 : v4 = v89 := (e90.trans e5.symm).symm
        subst q91
        exact hK _ i0 j0 f0 _ (by first | exact wI_rng _ | omega | (exact (hA _ _).2 rfl)) p3 (by first | assumption | (unfold LD; omega))
