/-- which statute is the law, which the draft -/
def LD (A : qA) : Prop := (A 34 (fd 4) = 36 ∧ A 0 (fd 10) = 71) ∨ (A 34 (fd 4) = 71 ∧ A 0 (fd 10) = 36)
def fC_readClause_36 (A : qA) : Int × qA := qlet (fC_look_36 A) fun r15 => qlet (qone 1 r15) fun v20 => (if v20 = 0 then qlet (fC_fail_36 1 A) fun A256 => (0, A256) else qlet (A 36 (fd 7)) fun v28 => (if v28 < 14 then qlet (A 54 (fd 3)) fun v32 => qlet (v32 + 1) fun v35 => qlet (qu A 54 (fd 3) v35) fun A37 => qlet (qu A37 39 v28 r15) fun A50 => qlet (A50 36 (fd 8)) fun v66 => qlet (qu A50 40 v28 v66) fun A69 => qlp (fC_readSum_36 6 0 A69) fun r89 A85 => (if r89 = 0 then (0, A85) else qlp (fC_expect_36 40 A85) fun r114 A110 => (if r114 = 0 then (0, A110) else qlet (A110 36 (fd 8)) fun v133 => qlet (qu A110 41 v28 v133) fun A136 => qlp (fC_readCondition_36 5 1 A136) fun r156 A152 => (if r156 = 0 then (0, A152) else qlp (fC_expect_36 41 A152) fun r181 A177 => (if r181 = 0 then (0, A177) else qlet (A177 36 (fd 8)) fun v200 => qlet (qu A177 42 v28 v200) fun A203 => qlet (A203 36 (fd 7)) fun v216 => qlet (v28 + 1) fun v220 => qlet (qu A203 36 (fd 7) v220) fun A222 => (1, A222))))) else qlet (fC_fail_36 4 A) fun A238 => (0, A238)))
def sC_readClause_36 : qS := fun as A K => as = [rf 54] ∧ (iva IC A ∧ ivf JC A ∧ (52 ≤ A 54 (fd 0) ∧ A 54 (fd 0) ≤ 52) ∧ (36 ≤ A 54 (fd 1) ∧ A 54 (fd 1) ≤ 36) ∧ (KO A) ∧ (A 36 (fd 8) ≤ A 54 (fd 3))) ∧ (∀ A' : qA, iva IC A' → ivf JC A' → frm [37, 38, 39, 40, 41, 42] [(36, 7), (36, 8), (54, 3), (54, 4)] A A' → ∀ r : Int, 0 ≤ r → r ≤ 1 → (KO A') → (PF 36 A A') → (A 36 (fd 8) ≤ A' 36 (fd 8)) → (A' 36 (fd 8) + A 54 (fd 3) ≤ A 36 (fd 8) + A' 54 (fd 3)) → (r = (fC_readClause_36 A).1) → (A' = (fC_readClause_36 A).2) → K (some (ni r)) A')
theorem okC_readClause_36 : okM LC 44 51 sC_readClause_36 := by
  refine qmeth [(54, 0, 52), (54, 1, 36)] false [(46, sC_look_36), (57, sC_readSum_36 6), (48, sC_expect_36), (52, sC_readCondition_36 5), (47, sC_fail_36)] 93 rfl ⟨okC_look_36.le (by decide), ⟨okC_readSum_36_6.le (by decide), ⟨okC_expect_36.le (by decide), ⟨okC_readCondition_36_5.le (by decide), ⟨okC_fail_36.le (by decide), trivial⟩⟩⟩⟩⟩ ?_
  rintro _ A K hA has ⟨rfl, ⟨i0, j0, p1, p2, p3, p4⟩, hK⟩
  have f0 := frm_0 [37, 38, 39, 40, 41, 42] [(36, 7), (36, 8), (54, 3), (54, 4)] A
  obtain ⟨v5, e6⟩ : ∃ v, v = A 54 (fd 0) := ⟨_, rfl⟩
  rw [← e6] at p1
  obtain ⟨v7, e8⟩ : ∃ v, v = A 54 (fd 1) := ⟨_, rfl⟩
  rw [← e8] at p2
  have pf0 := PF_rf 36 A
  have hb_36_8 := ivf_at j0 9 rfl
  have hb_54_3 := ivf_at j0 1 rfl
  have hb_54_2 := ivf_at j0 0 rfl
  have hT : _ = fC_readClause_36 A := (fC_readClause_36.eq_1 A).symm
  refine ⟨Nat.le_of_ble_eq_true rfl, [], trivial, ?_⟩
  obtain ⟨v9, e10⟩ : ∃ v, v = A 54 (fd 0) := ⟨_, rfl⟩
  have q11 : v5 = v9 := (e10.trans e6.symm).symm
  subst q11
  obtain ⟨v12, e13⟩ : ∃ v, v = A 54 (fd 1) := ⟨_, rfl⟩
  have q14 : v7 = v12 := (e13.trans e8.symm).symm
  subst q14
  refine And.intro rfl (And.intro (And.intro i0 (And.intro j0 (And.intro (by rw [← e10]; omega) (by rw [← e13]; omega)))) (fun r15 g18 g19 g16 g17 => ?_))
  replace hT := qlc g17 hT
  clear g17
  refine fun v20 e21 => ?_
  replace hT := qlc e21 hT
  have h22 := qone_bd 1 r15
  rw [← e21] at h22
  have h23 := qone_p (s := 1) (x := r15) (by (first | (clear hm hnf; omega) | omega))
  refine And.intro (fun h24 => ?_) (fun h24 => ?_)
  · replace hT := (if_neg h24).symm.trans hT
    obtain ⟨v25, e26⟩ : ∃ v, v = A 54 (fd 1) := ⟨_, rfl⟩
    have q27 : v7 = v25 := (e26.trans e13.symm).symm
    subst q27
    refine And.intro (show A 54 (fd 1) = ((36 : Nat) : Int) by (first | (clear hm hnf; omega) | omega)) ?_
    refine fun v28 gv28 e29 => ?_
    replace hT := qlc e29 hT
    have b30 := ivf_at j0 8 rfl
    refine And.intro (fun h31 => ?_) (fun h31 => ?_)
    · replace hT := (if_pos h31).symm.trans hT
      refine fun v32 gv32 e33 => ?_
      replace hT := qlc e33 hT
      have b34 := ivf_at j0 1 rfl
      refine fun v35 e36 => ?_
      replace hT := qlc e36 hT
      refine And.intro (by (first | (clear hm hnf; omega) | omega)) (fun A37 e38 => ?_)
      replace hT := qlc e38 hT
      have i39 := iva_sf i0 e38 rfl
      have j40 := ivf_st j0 e38 (And.intro (by (first | (clear hm hnf; omega) | omega)) trivial)
      have f41 := frm_sf f0 e38 rfl
      have t42 : A37 36 (fd 8) = A 36 (fd 8) := (congrFun (st_a e38 rfl) _)
      have t43 := st_v e38
      have t44 : A37 54 (fd 2) = A 54 (fd 2) := (st_f e38 rfl)
      have kk45 := KO_k p3 (st_a e38 rfl) (st_a e38 rfl) (st_a e38 rfl) (st_a e38 rfl)
      have pf46 := PF_k pf0 (st_a e38 rfl)
      obtain ⟨v47, e48⟩ : ∃ v, v = A37 54 (fd 1) := ⟨_, rfl⟩
      have q49 : v7 = v47 := (e48.trans ((st_f e38 rfl).trans e26.symm)).symm
      subst q49
      refine And.intro (show A37 54 (fd 1) = ((36 : Nat) : Int) by (first | (clear hm hnf; omega) | omega)) ?_
      refine And.intro (by (first | (clear hm hnf; omega) | omega)) (fun A50 e51 => ?_)
      replace hT := qlc e51 hT
      have i52 := iva_st i39 e51 trivial
      have j53 := ivf_sa j40 e51 rfl
      have f54 := frm_s f41 e51 rfl
      have t55 : A50 36 (fd 8) = A37 36 (fd 8) := (congrFun (st_a e51 rfl) _)
      have t56 : A50 54 (fd 3) = A37 54 (fd 3) := (congrFun (st_a e51 rfl) _)
      have t57 : A50 54 (fd 2) = A37 54 (fd 2) := (congrFun (st_a e51 rfl) _)
      have kk58 := KO_k kk45 (st_a e51 rfl) (st_a e51 rfl) (st_a e51 rfl) (st_a e51 rfl)
      have pf59 := PF_k pf46 (st_a e51 rfl)
      obtain ⟨v60, e61⟩ : ∃ v, v = A50 54 (fd 1) := ⟨_, rfl⟩
      have q62 : v7 = v60 := (e61.trans ((congrFun (st_a e51 rfl) _).trans e48.symm)).symm
      subst q62
      refine And.intro (show A50 54 (fd 1) = ((36 : Nat) : Int) by (first | (clear hm hnf; omega) | omega)) ?_
      obtain ⟨v63, e64⟩ : ∃ v, v = A50 54 (fd 1) := ⟨_, rfl⟩
      have q65 : v7 = v63 := (e64.trans e61.symm).symm
      subst q65
      refine And.intro (show A50 54 (fd 1) = ((36 : Nat) : Int) by (first | (clear hm hnf; omega) | omega)) ?_
      refine fun v66 gv66 e67 => ?_
      replace hT := qlc e67 hT
      have b68 := ivf_at j53 9 rfl
      refine And.intro (by (first | (clear hm hnf; omega) | omega)) (fun A69 e70 => ?_)
      replace hT := qlc e70 hT
      have i71 := iva_st i52 e70 (And.intro (by (first | (clear hm hnf; omega) | omega)) trivial)
      have j72 := ivf_sa j53 e70 rfl
      have f73 := frm_s f54 e70 rfl
      have t74 : A69 36 (fd 8) = A50 36 (fd 8) := (congrFun (st_a e70 rfl) _)
      have t75 : A69 54 (fd 3) = A50 54 (fd 3) := (congrFun (st_a e70 rfl) _)
      have t76 : A69 54 (fd 2) = A50 54 (fd 2) := (congrFun (st_a e70 rfl) _)
      have kk77 := KO_k kk58 (st_a e70 rfl) (st_a e70 rfl) (st_a e70 rfl) (st_a e70 rfl)
      have pf78 := PF_k pf59 (st_a e70 rfl)
      obtain ⟨v79, e80⟩ : ∃ v, v = A69 54 (fd 0) := ⟨_, rfl⟩
      have q81 : v5 = v79 := (e80.trans ((Eq.trans (Eq.trans (congrFun (st_a e70 rfl) _) (congrFun (st_a e51 rfl) _)) (st_f e38 rfl)).trans e10.symm)).symm
      subst q81
      obtain ⟨v82, e83⟩ : ∃ v, v = A69 54 (fd 1) := ⟨_, rfl⟩
      have q84 : v7 = v82 := (e83.trans ((congrFun (st_a e70 rfl) _).trans e64.symm)).symm
      subst q84
      refine Exists.intro 0 (And.intro rfl (And.intro (And.intro i71 (And.intro j72 (And.intro (by (first | (clear hm hnf; omega) | omega)) (And.intro (by (first | (clear hm hnf; omega) | omega)) (And.intro (by rw [← e80]; omega) (And.intro (by rw [← e83]; omega) (And.intro kk77 (And.intro (by first | assumption | omega | simp_all) (by (first | (clear hm hnf; omega) | omega)))))))))) (fun A85 i86 j87 f88 r89 g96 g97 g90 g91 g92 g93 g94 g95 => ?_)))
      replace hT := qlpc g94 g95 hT
      clear g94 g95
      have f98 := frm_c f73 f88 rfl
      have t99 := ivf_at j87 9 rfl
      have t100 := ivf_at j87 1 rfl
      have t101 : A85 54 (fd 2) = A69 54 (fd 2) := (frm_f f88 rfl)
      have pf102 := PF_tr pf78 g91 (by (first | (clear hm hnf; omega) | omega))
      refine And.intro (fun h103 => ?_) (fun h103 => ?_)
      · replace hT := (if_pos h103).symm.trans hT
        exact And.intro (by (first | (clear hm hnf; omega) | omega)) (hK _ i86 j87 f98 _ (by (first | (clear hm hnf; omega) | omega)) (by (first | (clear hm hnf; omega) | omega)) g90 pf102 (by first | assumption | omega | simp_all) (by first | assumption | omega | simp_all) (congrArg Prod.fst hT) (congrArg Prod.snd hT))
      · replace hT := (if_neg h103).symm.trans hT
        obtain ⟨v104, e105⟩ : ∃ v, v = A85 54 (fd 0) := ⟨_, rfl⟩
        have q106 : v5 = v104 := (e105.trans ((frm_f f88 rfl).trans e80.symm)).symm
        subst q106
        obtain ⟨v107, e108⟩ : ∃ v, v = A85 54 (fd 1) := ⟨_, rfl⟩
        have q109 : v7 = v107 := (e108.trans ((frm_f f88 rfl).trans e83.symm)).symm
        subst q109
        refine Exists.intro 40 (And.intro rfl (And.intro (And.intro i86 (And.intro j87 (And.intro (by (first | (clear hm hnf; omega) | omega)) (And.intro (by (first | (clear hm hnf; omega) | omega)) (And.intro (by rw [← e105]; omega) (And.intro (by rw [← e108]; omega) (And.intro g90 (by first | assumption | omega | simp_all)))))))) (fun A110 i111 j112 f113 r114 g118 g119 g115 g116 g117 => ?_)))
        replace hT := qlpc g116 g117 hT
        clear g116 g117
        have f120 := frm_c f98 f113 rfl
        have t121 : A110 36 (fd 8) = A85 36 (fd 8) := (frm_f f113 rfl)
        have t122 := ivf_at j112 1 rfl
        have t123 : A110 54 (fd 2) = A85 54 (fd 2) := (frm_f f113 rfl)
        have kk124 := KO_fr g90 f113 rfl
        have pf125 := PF_k pf102 (frm_a f113 rfl)
        refine And.intro (fun h126 => ?_) (fun h126 => ?_)
        · replace hT := (if_neg h126).symm.trans hT
          obtain ⟨v127, e128⟩ : ∃ v, v = A110 54 (fd 1) := ⟨_, rfl⟩
          have q129 : v7 = v127 := (e128.trans ((frm_f f113 rfl).trans e108.symm)).symm
          subst q129
          refine And.intro (show A110 54 (fd 1) = ((36 : Nat) : Int) by (first | (clear hm hnf; omega) | omega)) ?_
          obtain ⟨v130, e131⟩ : ∃ v, v = A110 54 (fd 1) := ⟨_, rfl⟩
          have q132 : v7 = v130 := (e131.trans e128.symm).symm
          subst q132
          refine And.intro (show A110 54 (fd 1) = ((36 : Nat) : Int) by (first | (clear hm hnf; omega) | omega)) ?_
          refine fun v133 gv133 e134 => ?_
          replace hT := qlc e134 hT
          have b135 := ivf_at j112 9 rfl
          refine And.intro (by (first | (clear hm hnf; omega) | omega)) (fun A136 e137 => ?_)
          replace hT := qlc e137 hT
          have i138 := iva_st i111 e137 (And.intro (by (first | (clear hm hnf; omega) | omega)) trivial)
          have j139 := ivf_sa j112 e137 rfl
          have f140 := frm_s f120 e137 rfl
          have t141 : A136 36 (fd 8) = A110 36 (fd 8) := (congrFun (st_a e137 rfl) _)
          have t142 : A136 54 (fd 3) = A110 54 (fd 3) := (congrFun (st_a e137 rfl) _)
          have t143 : A136 54 (fd 2) = A110 54 (fd 2) := (congrFun (st_a e137 rfl) _)
          have kk144 := KO_k kk124 (st_a e137 rfl) (st_a e137 rfl) (st_a e137 rfl) (st_a e137 rfl)
          have pf145 := PF_k pf125 (st_a e137 rfl)
          obtain ⟨v146, e147⟩ : ∃ v, v = A136 54 (fd 0) := ⟨_, rfl⟩
          have q148 : v5 = v146 := (e147.trans ((Eq.trans (congrFun (st_a e137 rfl) _) (frm_f f113 rfl)).trans e105.symm)).symm
          subst q148
          obtain ⟨v149, e150⟩ : ∃ v, v = A136 54 (fd 1) := ⟨_, rfl⟩
          have q151 : v7 = v149 := (e150.trans ((congrFun (st_a e137 rfl) _).trans e131.symm)).symm
          subst q151
          refine Exists.intro 1 (And.intro rfl (And.intro (And.intro i138 (And.intro j139 (And.intro (by (first | (clear hm hnf; omega) | omega)) (And.intro (by (first | (clear hm hnf; omega) | omega)) (And.intro (by rw [← e147]; omega) (And.intro (by rw [← e150]; omega) (And.intro kk144 (And.intro (by first | assumption | omega | simp_all) (by (first | (clear hm hnf; omega) | omega)))))))))) (fun A152 i153 j154 f155 r156 g163 g164 g157 g158 g159 g160 g161 g162 => ?_)))
          replace hT := qlpc g161 g162 hT
          clear g161 g162
          have f165 := frm_c f140 f155 rfl
          have t166 := ivf_at j154 9 rfl
          have t167 := ivf_at j154 1 rfl
          have t168 : A152 54 (fd 2) = A136 54 (fd 2) := (frm_f f155 rfl)
          have pf169 := PF_tr pf145 g158 (by (first | (clear hm hnf; omega) | omega))
          refine And.intro (fun h170 => ?_) (fun h170 => ?_)
          · replace hT := (if_pos h170).symm.trans hT
            exact And.intro (by (first | (clear hm hnf; omega) | omega)) (hK _ i153 j154 f165 _ (by (first | (clear hm hnf; omega) | omega)) (by (first | (clear hm hnf; omega) | omega)) g157 pf169 (by first | assumption | omega | simp_all) (by first | assumption | omega | simp_all) (congrArg Prod.fst hT) (congrArg Prod.snd hT))
          · replace hT := (if_neg h170).symm.trans hT
            obtain ⟨v171, e172⟩ : ∃ v, v = A152 54 (fd 0) := ⟨_, rfl⟩
            have q173 : v5 = v171 := (e172.trans ((frm_f f155 rfl).trans e147.symm)).symm
            subst q173
            obtain ⟨v174, e175⟩ : ∃ v, v = A152 54 (fd 1) := ⟨_, rfl⟩
            have q176 : v7 = v174 := (e175.trans ((frm_f f155 rfl).trans e150.symm)).symm
            subst q176
            refine Exists.intro 41 (And.intro rfl (And.intro (And.intro i153 (And.intro j154 (And.intro (by (first | (clear hm hnf; omega) | omega)) (And.intro (by (first | (clear hm hnf; omega) | omega)) (And.intro (by rw [← e172]; omega) (And.intro (by rw [← e175]; omega) (And.intro g157 (by first | assumption | omega | simp_all)))))))) (fun A177 i178 j179 f180 r181 g185 g186 g182 g183 g184 => ?_)))
            replace hT := qlpc g183 g184 hT
            clear g183 g184
            have f187 := frm_c f165 f180 rfl
            have t188 : A177 36 (fd 8) = A152 36 (fd 8) := (frm_f f180 rfl)
            have t189 := ivf_at j179 1 rfl
            have t190 : A177 54 (fd 2) = A152 54 (fd 2) := (frm_f f180 rfl)
            have kk191 := KO_fr g157 f180 rfl
            have pf192 := PF_k pf169 (frm_a f180 rfl)
            refine And.intro (fun h193 => ?_) (fun h193 => ?_)
            · replace hT := (if_neg h193).symm.trans hT
              obtain ⟨v194, e195⟩ : ∃ v, v = A177 54 (fd 1) := ⟨_, rfl⟩
              have q196 : v7 = v194 := (e195.trans ((frm_f f180 rfl).trans e175.symm)).symm
              subst q196
              refine And.intro (show A177 54 (fd 1) = ((36 : Nat) : Int) by (first | (clear hm hnf; omega) | omega)) ?_
              obtain ⟨v197, e198⟩ : ∃ v, v = A177 54 (fd 1) := ⟨_, rfl⟩
              have q199 : v7 = v197 := (e198.trans e195.symm).symm
              subst q199
              refine And.intro (show A177 54 (fd 1) = ((36 : Nat) : Int) by (first | (clear hm hnf; omega) | omega)) ?_
              refine fun v200 gv200 e201 => ?_
              replace hT := qlc e201 hT
              have b202 := ivf_at j179 9 rfl
              refine And.intro (by (first | (clear hm hnf; omega) | omega)) (fun A203 e204 => ?_)
              replace hT := qlc e204 hT
              have i205 := iva_st i178 e204 (And.intro (by (first | (clear hm hnf; omega) | omega)) trivial)
              have j206 := ivf_sa j179 e204 rfl
              have f207 := frm_s f187 e204 rfl
              have t208 : A203 36 (fd 8) = A177 36 (fd 8) := (congrFun (st_a e204 rfl) _)
              have t209 : A203 54 (fd 3) = A177 54 (fd 3) := (congrFun (st_a e204 rfl) _)
              have t210 : A203 54 (fd 2) = A177 54 (fd 2) := (congrFun (st_a e204 rfl) _)
              have kk211 := KO_k kk191 (st_a e204 rfl) (st_a e204 rfl) (st_a e204 rfl) (st_a e204 rfl)
              have pf212 := PF_k pf192 (st_a e204 rfl)
              obtain ⟨v213, e214⟩ : ∃ v, v = A203 54 (fd 1) := ⟨_, rfl⟩
              have q215 : v7 = v213 := (e214.trans ((congrFun (st_a e204 rfl) _).trans e198.symm)).symm
              subst q215
              refine And.intro (show A203 54 (fd 1) = ((36 : Nat) : Int) by (first | (clear hm hnf; omega) | omega)) ?_
              refine fun v216 gv216 e217 => ?_
              replace hT := qlc e217 hT
              have b218 := ivf_at j206 8 rfl
              have q219 : v28 = v216 := (e217.trans ((Eq.trans (Eq.trans (Eq.trans (Eq.trans (Eq.trans (Eq.trans (Eq.trans (Eq.trans (congrFun (st_a e204 rfl) _) (frm_f f180 rfl)) (frm_f f155 rfl)) (congrFun (st_a e137 rfl) _)) (frm_f f113 rfl)) (frm_f f88 rfl)) (congrFun (st_a e70 rfl) _)) (congrFun (st_a e51 rfl) _)) (congrFun (st_a e38 rfl) _)).trans e29.symm)).symm
              subst q219
              refine fun v220 e221 => ?_
              replace hT := qlc e221 hT
              refine And.intro (by (first | (clear hm hnf; omega) | omega)) (fun A222 e223 => ?_)
              replace hT := qlc e223 hT
              have i224 := iva_sf i205 e223 rfl
              have j225 := ivf_st j206 e223 (And.intro (by (first | (clear hm hnf; omega) | omega)) trivial)
              have f226 := frm_sf f207 e223 rfl
              have t227 : A222 36 (fd 8) = A203 36 (fd 8) := (st_f e223 rfl)
              have t228 : A222 54 (fd 3) = A203 54 (fd 3) := (congrFun (st_a e223 rfl) _)
              have t229 : A222 54 (fd 2) = A203 54 (fd 2) := (congrFun (st_a e223 rfl) _)
              have kk230 := KO_k kk211 (st_a e223 rfl) (st_a e223 rfl) (st_a e223 rfl) (st_a e223 rfl)
              have pf231 := PF_k pf212 (st_a e223 rfl)
              exact And.intro (by (first | (clear hm hnf; omega) | omega)) (hK _ i224 j225 f226 _ (by (first | (clear hm hnf; omega) | omega)) (by (first | (clear hm hnf; omega) | omega)) kk230 pf231 (by first | assumption | omega | simp_all) (by first | assumption | omega | simp_all) (congrArg Prod.fst hT) (congrArg Prod.snd hT))
            · replace hT := (if_pos h193).symm.trans hT
              exact And.intro (by (first | (clear hm hnf; omega) | omega)) (hK _ i178 j179 f187 _ (by (first | (clear hm hnf; omega) | omega)) (by (first | (clear hm hnf; omega) | omega)) kk191 pf192 (by first | assumption | omega | simp_all) (by first | assumption | omega | simp_all) (congrArg Prod.fst hT) (congrArg Prod.snd hT))
        · replace hT := (if_pos h126).symm.trans hT
          exact And.intro (by (first | (clear hm hnf; omega) | omega)) (hK _ i111 j112 f120 _ (by (first | (clear hm hnf; omega) | omega)) (by (first | (clear hm hnf; omega) | omega)) kk124 pf125 (by first | assumption | omega | simp_all) (by first | assumption | omega | simp_all) (congrArg Prod.fst hT) (congrArg Prod.snd hT))
    · replace hT := (if_neg (Int.not_lt.mpr h31)).symm.trans hT
      obtain ⟨v232, e233⟩ : ∃ v, v = A 54 (fd 0) := ⟨_, rfl⟩
      have q234 : v5 = v232 := (e233.trans e10.symm).symm
      subst q234
      obtain ⟨v235, e236⟩ : ∃ v, v = A 54 (fd 1) := ⟨_, rfl⟩
      have q237 : v7 = v235 := (e236.trans e26.symm).symm
      subst q237
      refine Exists.intro 4 (And.intro rfl (And.intro (And.intro i0 (And.intro j0 (And.intro (by (first | (clear hm hnf; omega) | omega)) (And.intro (by (first | (clear hm hnf; omega) | omega)) (And.intro (by rw [← e233]; omega) (by rw [← e236]; omega)))))) (fun A238 i239 j240 f241 g242 => (fun h243 => ?_))))
      · replace hT := qlc g242 hT
        have f244 := frm_c f0 f241 rfl
        have t245 : A238 36 (fd 8) = A 36 (fd 8) := (frm_f f241 rfl)
        have t246 : A238 54 (fd 3) = A 54 (fd 3) := (frm_f f241 rfl)
        have t247 : A238 54 (fd 2) = A 54 (fd 2) := (frm_f f241 rfl)
        have kk248 := KO_fr p3 f241 rfl
        have pf249 := PF_k pf0 (frm_a f241 rfl)
        exact And.intro (by (first | (clear hm hnf; omega) | omega)) (hK _ i239 j240 f244 _ (by (first | (clear hm hnf; omega) | omega)) (by (first | (clear hm hnf; omega) | omega)) kk248 pf249 (by first | assumption | omega | simp_all) (by first | assumption | omega | simp_all) (congrArg Prod.fst hT) (congrArg Prod.snd hT))
  · replace hT := (if_pos h24).symm.trans hT
    obtain ⟨v250, e251⟩ : ∃ v, v = A 54 (fd 0) := ⟨_, rfl⟩
    have q252 : v5 = v250 := (e251.trans e10.symm).symm
    subst q252
    obtain ⟨v253, e254⟩ : ∃ v, v = A 54 (fd 1) := ⟨_, rfl⟩
    have q255 : v7 = v253 := (e254.trans e13.symm).symm
    subst q255
    refine Exists.intro 1 (And.intro rfl (And.intro (And.intro i0 (And.intro j0 (And.intro (by (first | (clear hm hnf; omega) | omega)) (And.intro (by (first | (clear hm hnf; omega) | omega)) (And.intro (by rw [← e251]; omega) (by rw [← e254]; omega)))))) (fun A256 i257 j258 f259 g260 => (fun h261 => ?_))))
    · replace hT := qlc g260 hT
      have f262 := frm_c f0 f259 rfl
      have t263 : A256 36 (fd 8) = A 36 (fd 8) := (frm_f f259 rfl)
      have t264 : A256 54 (fd 3) = A 54 (fd 3) := (frm_f f259 rfl)
      have t265 : A256 54 (fd 2) = A 54 (fd 2) := (frm_f f259 rfl)
      have kk266 := KO_fr p3 f259 rfl
      have pf267 := PF_k pf0 (frm_a f259 rfl)
      exact And.intro (by (first | (clear hm hnf; omega) | omega)) (hK _ i257 j258 f262 _ (by (first | (clear hm hnf; omega) | omega)) (by (first | (clear hm hnf; omega) | omega)) kk266 pf267 (by first | assumption | omega | simp_all) (by first | assumption | omega | simp_all) (congrArg Prod.fst hT) (congrArg Prod.snd hT))
theorem pC_readClause_36 {A : qA} (hA : qokA LC A) (p0 : iva IC A) (p1 : ivf JC A) (p2 : (52 ≤ A 54 (fd 0) ∧ A 54 (fd 0) ≤ 52)) (p3 : (36 ≤ A 54 (fd 1) ∧ A 54 (fd 1) ≤ 36)) (p4 : KO A) (p5 : A 36 (fd 8) ≤ A 54 (fd 3)) : qokA LC (fC_readClause_36 A).2 ∧ iva IC (fC_readClause_36 A).2 ∧ ivf JC (fC_readClause_36 A).2 ∧ frm [37, 38, 39, 40, 41, 42] [(36, 7), (36, 8), (54, 3), (54, 4)] A (fC_readClause_36 A).2 ∧ (0 ≤ (fC_readClause_36 A).1 ∧ (fC_readClause_36 A).1 ≤ 1) ∧ (KO (fC_readClause_36 A).2) ∧ (PF 36 A (fC_readClause_36 A).2) ∧ (A 36 (fd 8) ≤ (fC_readClause_36 A).2 36 (fd 8)) ∧ ((fC_readClause_36 A).2 36 (fd 8) + A 54 (fd 3) ≤ A 36 (fd 8) + (fC_readClause_36 A).2 54 (fd 3)) := by
  obtain ⟨r, B, hB, _, hk⟩ := okM_ex okC_readClause_36 (as := [rf 54]) (K := fun _ B => B = (fC_readClause_36 A).2 ∧ iva IC (fC_readClause_36 A).2 ∧ ivf JC (fC_readClause_36 A).2 ∧ frm [37, 38, 39, 40, 41, 42] [(36, 7), (36, 8), (54, 3), (54, 4)] A (fC_readClause_36 A).2 ∧ (0 ≤ (fC_readClause_36 A).1 ∧ (fC_readClause_36 A).1 ≤ 1) ∧ (KO (fC_readClause_36 A).2) ∧ (PF 36 A (fC_readClause_36 A).2) ∧ (A 36 (fd 8) ≤ (fC_readClause_36 A).2 36 (fd 8)) ∧ ((fC_readClause_36 A).2 36 (fd 8) + A 54 (fd 3) ≤ A 36 (fd 8) + (fC_readClause_36 A).2 54 (fd 3))) hA (qoks_c (show qok (rf _) from trivial) qoks_n) ⟨rfl, ⟨p0, p1, p2, p3, p4, p5⟩, fun A9 i9 j9 f9 r9 g8 g9 x0 x1 x2 x3 x4 x5 => (by rw [← x5]; (try rw [← x4]); exact ⟨rfl, i9, j9, f9, ⟨g8, g9⟩, x0, x1, x2, x3⟩)⟩
  exact ⟨hk.1 ▸ hB, hk.2⟩
def fC_read_36_c23 (rec : Nat → List Int → qA → Int × qA) (i : Int) (B : qA) : Int × qA := (if 14 < i then qlet (B 54 (fd 4)) fun v78 => (v78, B) else qlp (fC_readClause_36 B) fun r90 A86 => (if r90 = 0 then qlet (A86 54 (fd 4)) fun v104 => (v104, A86) else qlet (fC_look_36 A86) fun r112 => (if r112 = (-1) then qlet (A86 36 (fd 7)) fun v150 => (v150, A86) else qlp (fC_expect_36 59 A86) fun r128 A124 => (if r128 = 0 then qlet (A124 54 (fd 4)) fun v148 => (v148, A124) else qlet (i + 1) fun v140 => rec 23 [v140] A124))))
def fC_read_36_L : Nat → Nat → List Int → qA → Int × qA
  | 0 => fun _ _ B => (0, B)
  | nF + 1 => fun k zs B => bif Nat.beq k 23 then (match zs with | [i] => fC_read_36_c23 (fC_read_36_L nF) i B | _ => (0, B)) else (0, B)
theorem fC_read_36_L23 (nF : Nat) (i : Int) (B : qA) : fC_read_36_L (nF + 1) 23 [i] B = fC_read_36_c23 (fC_read_36_L nF) i B := (congrFun (congrFun (congrFun (fC_read_36_L.eq_2 nF) 23) [i]) B).trans (qL1 rfl rfl)
def fC_read_36 (n : Int) (A : qA) : Int × qA := qlet (qu A 54 (fd 0) (52 : Int)) fun A4 => qlet (qu A4 54 (fd 1) (36 : Int)) fun A13 => qlet (qu A13 54 (fd 2) n) fun A22 => qlet (qu A22 54 (fd 3) 0) fun A31 => qlet (qu A31 54 (fd 4) 0) fun A40 => qlet (qu A40 36 (fd 7) 0) fun A49 => qlet (qu A49 36 (fd 8) 0) fun A58 => (fC_read_36_L 100000) 23 [0] A58
def sC_read_36 : qS := fun as A K => ∃ n : Int, as = [rf 54, rf 52, ni n, rf 36] ∧ (iva IC A ∧ ivf JC A ∧ 0 ≤ n ∧ n ≤ 200 ∧ (KO A)) ∧ (∀ A' : qA, iva IC A' → ivf JC A' → frm [37, 38, 39, 40, 41, 42] [(36, 7), (36, 8), (54, 3), (54, 4), (54, 0), (54, 1), (54, 2)] A A' → ∀ r : Int, rng r → (KO A') → (r = (fC_read_36 n A).1) → (A' = (fC_read_36 n A).2) → K (some (ni r)) A')
theorem okC_read_36 : okM LC 45 45 sC_read_36 := by
  refine qmeth [(54, 0, 52), (54, 1, 36)] false [(51, sC_readClause_36), (46, sC_look_36), (48, sC_expect_36)] 54 rfl ⟨okC_readClause_36.le (by decide), ⟨okC_look_36.le (by decide), ⟨okC_expect_36.le (by decide), trivial⟩⟩⟩ ?_
  rintro _ A K hA has ⟨n, rfl, ⟨i0, j0, p1, p2, p3⟩, hK⟩
  have rg_n : rng n := has (ni n) (by simp)
  have f0 := frm_0 [37, 38, 39, 40, 41, 42] [(36, 7), (36, 8), (54, 3), (54, 4), (54, 0), (54, 1), (54, 2)] A
  have pf0 := PF_rf 36 A
  have hb_36_8 := ivf_at j0 9 rfl
  have hb_54_3 := ivf_at j0 1 rfl
  have hb_54_2 := ivf_at j0 0 rfl
  have hT : _ = fC_read_36 n A := (fC_read_36.eq_1 n A).symm
  refine ⟨Nat.le_of_ble_eq_true rfl, [(23, [(0, 2, 54), (3, 2, 36), (4, 0, 0)], fun zs B nn => match zs with | [i] => iva IC B ∧ ivf JC B ∧ frm [37, 38, 39, 40, 41, 42] [(36, 7), (36, 8), (54, 3), (54, 4), (54, 0), (54, 1), (54, 2)] A B ∧ nn = (15 - i : Int).toNat ∧ (52 ≤ B 54 (fd 0) ∧ B 54 (fd 0) ≤ 52) ∧ (36 ≤ B 54 (fd 1) ∧ B 54 (fd 1) ≤ 36) ∧ (0 ≤ i) ∧ (i ≤ 15) ∧ (KO B) ∧ (B 36 (fd 8) ≤ B 54 (fd 3)) ∧ (∃ nf : Nat, nn < nf ∧ fC_read_36_L nf 23 [i] B = fC_read_36 n A) | _ => False)], ?_, ?_⟩
  · refine ⟨⟨rfl, ?_⟩, trivial⟩
    · refine fun i B mm hB hz hI => ?_
      obtain ⟨i1, j1, f1, hm, d0, d1, c0, c1, c2, c3, ⟨nf, hnf, hT⟩⟩ := hI
      obtain ⟨hz_i, _⟩ := hz
      obtain ⟨ng, rfl⟩ : ∃ k, nf = k + 1 := ⟨nf - 1, by omega⟩
      replace hT := (fC_read_36_c23.eq_1 (fC_read_36_L ng) i B).symm.trans ((fC_read_36_L23 ng i B).symm.trans hT)
      obtain ⟨v73, e74⟩ : ∃ v, v = B 54 (fd 0) := ⟨_, rfl⟩
      rw [← e74] at d0
      obtain ⟨v75, e76⟩ : ∃ v, v = B 54 (fd 1) := ⟨_, rfl⟩
      rw [← e76] at d1
      have hc_36_8 := ivf_at j1 9 rfl
      have hc_54_3 := ivf_at j1 1 rfl
      have hc_54_2 := ivf_at j1 0 rfl
      have hc_w : B 53 = A 53 := frm_a f1 rfl
      refine And.intro (fun h77 => ?_) (fun h77 => ?_)
      · replace hT := (if_pos h77).symm.trans hT
        refine fun v78 gv78 e79 => ?_
        replace hT := qlc e79 hT
        exact hK _ i1 j1 f1 _ (by first | assumption | exact wI_rng _ | exact ⟨by (first | (clear hm hnf; omega) | omega), by (first | (clear hm hnf; omega) | omega)⟩ | exact i_rng _ | (subst_vars; exact i_rng _) | exact (hA _ _).2 rfl) c2 (congrArg Prod.fst hT) (congrArg Prod.snd hT)
      · replace hT := (if_neg (Int.not_lt.mpr h77)).symm.trans hT
        obtain ⟨v80, e81⟩ : ∃ v, v = B 54 (fd 0) := ⟨_, rfl⟩
        have q82 : v73 = v80 := (e81.trans e74.symm).symm
        subst q82
        obtain ⟨v83, e84⟩ : ∃ v, v = B 54 (fd 1) := ⟨_, rfl⟩
        have q85 : v75 = v83 := (e84.trans e76.symm).symm
        subst q85
        refine And.intro rfl (And.intro (And.intro i1 (And.intro j1 (And.intro (by rw [← e81]; omega) (And.intro (by rw [← e84]; omega) (And.intro c2 (by first | assumption | omega | simp_all)))))) (fun A86 i87 j88 f89 r90 g97 g98 g91 g92 g93 g94 g95 g96 => ?_))
        replace hT := qlpc g95 g96 hT
        clear g95 g96
        have f99 := frm_c f1 f89 rfl
        have t100 := ivf_at j88 9 rfl
        have t101 := ivf_at j88 1 rfl
        have t102 : A86 54 (fd 2) = B 54 (fd 2) := (frm_f f89 rfl)
        refine And.intro (fun h103 => ?_) (fun h103 => ?_)
        · replace hT := (if_pos h103).symm.trans hT
          refine fun v104 gv104 e105 => ?_
          replace hT := qlc e105 hT
          exact hK _ i87 j88 f99 _ (by first | assumption | exact wI_rng _ | exact ⟨by (first | (clear hm hnf; omega) | omega), by (first | (clear hm hnf; omega) | omega)⟩ | exact i_rng _ | (subst_vars; exact i_rng _) | exact (hA _ _).2 rfl) g91 (congrArg Prod.fst hT) (congrArg Prod.snd hT)
        · replace hT := (if_neg h103).symm.trans hT
          obtain ⟨v106, e107⟩ : ∃ v, v = A86 54 (fd 0) := ⟨_, rfl⟩
          have q108 : v73 = v106 := (e107.trans ((frm_f f89 rfl).trans e81.symm)).symm
          subst q108
          obtain ⟨v109, e110⟩ : ∃ v, v = A86 54 (fd 1) := ⟨_, rfl⟩
          have q111 : v75 = v109 := (e110.trans ((frm_f f89 rfl).trans e84.symm)).symm
          subst q111
          refine And.intro rfl (And.intro (And.intro i87 (And.intro j88 (And.intro (by rw [← e107]; omega) (by rw [← e110]; omega)))) (fun r112 g115 g116 g113 g114 => ?_))
          replace hT := qlc g114 hT
          clear g114
          refine And.intro (fun h117 => ?_) (fun h117 => ?_)
          · replace hT := (if_neg h117).symm.trans hT
            obtain ⟨v118, e119⟩ : ∃ v, v = A86 54 (fd 0) := ⟨_, rfl⟩
            have q120 : v73 = v118 := (e119.trans e107.symm).symm
            subst q120
            obtain ⟨v121, e122⟩ : ∃ v, v = A86 54 (fd 1) := ⟨_, rfl⟩
            have q123 : v75 = v121 := (e122.trans e110.symm).symm
            subst q123
            refine Exists.intro 59 (And.intro rfl (And.intro (And.intro i87 (And.intro j88 (And.intro (by (first | (clear hm hnf; omega) | omega)) (And.intro (by (first | (clear hm hnf; omega) | omega)) (And.intro (by rw [← e119]; omega) (And.intro (by rw [← e122]; omega) (And.intro g91 (by first | assumption | omega | simp_all)))))))) (fun A124 i125 j126 f127 r128 g132 g133 g129 g130 g131 => ?_)))
            replace hT := qlpc g130 g131 hT
            clear g130 g131
            have f134 := frm_c f99 f127 rfl
            have t135 : A124 36 (fd 8) = A86 36 (fd 8) := (frm_f f127 rfl)
            have t136 := ivf_at j126 1 rfl
            have t137 : A124 54 (fd 2) = A86 54 (fd 2) := (frm_f f127 rfl)
            have kk138 := KO_fr g91 f127 rfl
            refine And.intro (fun h139 => ?_) (fun h139 => ?_)
            · replace hT := (if_neg h139).symm.trans hT
              refine fun v140 e141 => ?_
              replace hT := qlc e141 hT
              obtain ⟨v142, e143⟩ : ∃ v, v = A124 54 (fd 0) := ⟨_, rfl⟩
              have q144 : v73 = v142 := (e143.trans ((frm_f f127 rfl).trans e119.symm)).symm
              subst q144
              obtain ⟨v145, e146⟩ : ∃ v, v = A124 54 (fd 1) := ⟨_, rfl⟩
              have q147 : v75 = v145 := (e146.trans ((frm_f f127 rfl).trans e122.symm)).symm
              subst q147
              exact And.intro (by (first | (clear hm hnf; omega) | omega)) (Exists.intro (15 - v140 : Int).toNat (And.intro (by first | exact qtn hm (by (try clear hm hnf); omega) | omega) (And.intro i125 (And.intro j126 (And.intro f134 (And.intro rfl (And.intro (by rw [← e143]; omega) (And.intro (by rw [← e146]; omega) (And.intro (by (first | (clear hm hnf; omega) | omega)) (And.intro (by (first | (clear hm hnf; omega) | omega)) (And.intro kk138 (And.intro (by (first | (clear hm hnf; omega) | omega)) (Exists.intro ng (And.intro (by first | exact qtm hm hnf (by (try clear hm hnf); omega) | omega) hT))))))))))))))
            · replace hT := (if_pos h139).symm.trans hT
              refine fun v148 gv148 e149 => ?_
              replace hT := qlc e149 hT
              exact hK _ i125 j126 f134 _ (by first | assumption | exact wI_rng _ | exact ⟨by (first | (clear hm hnf; omega) | omega), by (first | (clear hm hnf; omega) | omega)⟩ | exact i_rng _ | (subst_vars; exact i_rng _) | exact (hA _ _).2 rfl) kk138 (congrArg Prod.fst hT) (congrArg Prod.snd hT)
          · replace hT := (if_pos h117).symm.trans hT
            refine fun v150 gv150 e151 => ?_
            replace hT := qlc e151 hT
            have b152 := ivf_at j88 8 rfl
            exact hK _ i87 j88 f99 _ (by first | assumption | exact wI_rng _ | exact ⟨by (first | (clear hm hnf; omega) | omega), by (first | (clear hm hnf; omega) | omega)⟩ | exact i_rng _ | (subst_vars; exact i_rng _) | exact (hA _ _).2 rfl) g91 (congrArg Prod.fst hT) (congrArg Prod.snd hT)
  · refine fun A4 e5 => ?_
    replace hT := qlc e5 hT
    have i6 := iva_sf i0 e5 rfl
    have j7 := ivf_st j0 e5 trivial
    have f8 := frm_sf f0 e5 rfl
    have t9 : A4 36 (fd 8) = A 36 (fd 8) := (congrFun (st_a e5 rfl) _)
    have t10 : A4 54 (fd 3) = A 54 (fd 3) := (st_f e5 rfl)
    have t11 : A4 54 (fd 2) = A 54 (fd 2) := (st_f e5 rfl)
    have kk12 := KO_k p3 (st_a e5 rfl) (st_a e5 rfl) (st_a e5 rfl) (st_a e5 rfl)
    refine fun A13 e14 => ?_
    replace hT := qlc e14 hT
    have i15 := iva_sf i6 e14 rfl
    have j16 := ivf_st j7 e14 trivial
    have f17 := frm_sf f8 e14 rfl
    have t18 : A13 36 (fd 8) = A4 36 (fd 8) := (congrFun (st_a e14 rfl) _)
    have t19 : A13 54 (fd 3) = A4 54 (fd 3) := (st_f e14 rfl)
    have t20 : A13 54 (fd 2) = A4 54 (fd 2) := (st_f e14 rfl)
    have kk21 := KO_k kk12 (st_a e14 rfl) (st_a e14 rfl) (st_a e14 rfl) (st_a e14 rfl)
    refine fun A22 e23 => ?_
    replace hT := qlc e23 hT
    have i24 := iva_sf i15 e23 rfl
    have j25 := ivf_st j16 e23 (And.intro (by (first | (clear hm hnf; omega) | omega)) trivial)
    have f26 := frm_sf f17 e23 rfl
    have t27 : A22 36 (fd 8) = A13 36 (fd 8) := (congrFun (st_a e23 rfl) _)
    have t28 : A22 54 (fd 3) = A13 54 (fd 3) := (st_f e23 rfl)
    have t29 := st_v e23
    have kk30 := KO_k kk21 (st_a e23 rfl) (st_a e23 rfl) (st_a e23 rfl) (st_a e23 rfl)
    refine fun A31 e32 => ?_
    replace hT := qlc e32 hT
    have i33 := iva_sf i24 e32 rfl
    have j34 := ivf_st j25 e32 (And.intro (by (first | (clear hm hnf; omega) | omega)) trivial)
    have f35 := frm_sf f26 e32 rfl
    have t36 : A31 36 (fd 8) = A22 36 (fd 8) := (congrFun (st_a e32 rfl) _)
    have t37 := st_v e32
    have t38 : A31 54 (fd 2) = A22 54 (fd 2) := (st_f e32 rfl)
    have kk39 := KO_k kk30 (st_a e32 rfl) (st_a e32 rfl) (st_a e32 rfl) (st_a e32 rfl)
    refine fun A40 e41 => ?_
    replace hT := qlc e41 hT
    have i42 := iva_sf i33 e41 rfl
    have j43 := ivf_st j34 e41 trivial
    have f44 := frm_sf f35 e41 rfl
    have t45 : A40 36 (fd 8) = A31 36 (fd 8) := (congrFun (st_a e41 rfl) _)
    have t46 : A40 54 (fd 3) = A31 54 (fd 3) := (st_f e41 rfl)
    have t47 : A40 54 (fd 2) = A31 54 (fd 2) := (st_f e41 rfl)
    have kk48 := KO_k kk39 (st_a e41 rfl) (st_a e41 rfl) (st_a e41 rfl) (st_a e41 rfl)
    refine fun A49 e50 => ?_
    replace hT := qlc e50 hT
    have i51 := iva_sf i42 e50 rfl
    have j52 := ivf_st j43 e50 (And.intro (by (first | (clear hm hnf; omega) | omega)) trivial)
    have f53 := frm_sf f44 e50 rfl
    have t54 : A49 36 (fd 8) = A40 36 (fd 8) := (st_f e50 rfl)
    have t55 : A49 54 (fd 3) = A40 54 (fd 3) := (congrFun (st_a e50 rfl) _)
    have t56 : A49 54 (fd 2) = A40 54 (fd 2) := (congrFun (st_a e50 rfl) _)
    have kk57 := KO_k kk48 (st_a e50 rfl) (st_a e50 rfl) (st_a e50 rfl) (st_a e50 rfl)
    refine fun A58 e59 => ?_
    replace hT := qlc e59 hT
    have i60 := iva_sf i51 e59 rfl
    have j61 := ivf_st j52 e59 (And.intro (by (first | (clear hm hnf; omega) | omega)) trivial)
    have f62 := frm_sf f53 e59 rfl
    have t63 := st_v e59
    have t64 : A58 54 (fd 3) = A49 54 (fd 3) := (congrFun (st_a e59 rfl) _)
    have t65 : A58 54 (fd 2) = A49 54 (fd 2) := (congrFun (st_a e59 rfl) _)
    have kk66 := KO_k kk57 (st_a e59 rfl) (st_a e59 rfl) (st_a e59 rfl) (st_a e59 rfl)
    obtain ⟨v67, e68⟩ : ∃ v, v = A58 54 (fd 0) := ⟨_, rfl⟩
    have q69 : (52 : Int) = v67 := (e68.trans ((Eq.trans (Eq.trans (Eq.trans (Eq.trans (Eq.trans (congrFun (st_a e59 rfl) _) (congrFun (st_a e50 rfl) _)) (st_f e41 rfl)) (st_f e32 rfl)) (st_f e23 rfl)) (st_f e14 rfl)).trans (st_v e5))).symm
    subst q69
    obtain ⟨v70, e71⟩ : ∃ v, v = A58 54 (fd 1) := ⟨_, rfl⟩
    have q72 : (36 : Int) = v70 := (e71.trans ((Eq.trans (Eq.trans (Eq.trans (Eq.trans (congrFun (st_a e59 rfl) _) (congrFun (st_a e50 rfl) _)) (st_f e41 rfl)) (st_f e32 rfl)) (st_f e23 rfl)).trans (st_v e14))).symm
    subst q72
    exact Exists.intro (15 - 0 : Int).toNat (And.intro i60 (And.intro j61 (And.intro f62 (And.intro rfl (And.intro (by rw [← e68]; omega) (And.intro (by rw [← e71]; omega) (And.intro (by (first | (clear hm hnf; omega) | omega)) (And.intro (by (first | (clear hm hnf; omega) | omega)) (And.intro kk66 (And.intro (by (first | (clear hm hnf; omega) | omega)) (Exists.intro 100000 (And.intro (by (first | (clear hm hnf; omega) | omega)) hT))))))))))))
theorem pC_read_36 {n : Int} {A : qA} (hA : qokA LC A) (p0 : iva IC A) (p1 : ivf JC A) (p2 : 0 ≤ n) (p3 : n ≤ 200) (p4 : KO A) : qokA LC (fC_read_36 n A).2 ∧ iva IC (fC_read_36 n A).2 ∧ ivf JC (fC_read_36 n A).2 ∧ frm [37, 38, 39, 40, 41, 42] [(36, 7), (36, 8), (54, 3), (54, 4), (54, 0), (54, 1), (54, 2)] A (fC_read_36 n A).2 ∧ rng (fC_read_36 n A).1 ∧ (KO (fC_read_36 n A).2) := by
  obtain ⟨r, B, hB, _, hk⟩ := okM_ex okC_read_36 (as := [rf 54, rf 52, ni n, rf 36]) (K := fun _ B => B = (fC_read_36 n A).2 ∧ iva IC (fC_read_36 n A).2 ∧ ivf JC (fC_read_36 n A).2 ∧ frm [37, 38, 39, 40, 41, 42] [(36, 7), (36, 8), (54, 3), (54, 4), (54, 0), (54, 1), (54, 2)] A (fC_read_36 n A).2 ∧ rng (fC_read_36 n A).1 ∧ (KO (fC_read_36 n A).2)) hA (qoks_c (show qok (rf _) from trivial) (qoks_c (show qok (rf _) from trivial) (qoks_c (show rng n from ⟨by (first | (clear hm hnf; omega) | omega), by (first | (clear hm hnf; omega) | omega)⟩) (qoks_c (show qok (rf _) from trivial) qoks_n)))) ⟨n, rfl, ⟨p0, p1, p2, p3, p4⟩, fun A9 i9 j9 f9 r9 g9 x0 x1 x2 => (by rw [← x2]; (try rw [← x1]); exact ⟨rfl, i9, j9, f9, g9, x0⟩)⟩
  exact ⟨hk.1 ▸ hB, hk.2⟩
def fC_law_36 (n : Int) (A : qA) : Int × qA := (if n < 1 then ((-1), A) else (if 200 < n then ((-1), A) else qlet (A 52 (fd 1)) fun v22 => (if v22 < n then ((-1), A) else qlp (fC_read_36 n A) fun r33 A29 => qlet (qu A29 52 (fd 1) 0) fun A42 => (if r33 < 0 then (r33, A42) else qlet (qu A42 34 (fd 4) (36 : Int)) fun A64 => qlet (qu A64 0 (fd 10) (71 : Int)) fun A73 => (r33, A73)))))
def sC_law_36 : qS := fun as A K => ∃ n : Int, as = [rf 0, ni n] ∧ (iva IC A ∧ ivf JC A ∧ (36 ≤ A 0 (fd 10) ∧ A 0 (fd 10) ≤ 36) ∧ (71 ≤ A 34 (fd 4) ∧ A 34 (fd 4) ≤ 71) ∧ (KO A)) ∧ (∀ A' : qA, iva IC A' → ivf JC A' → frm [37, 38, 39, 40, 41, 42] [(36, 7), (36, 8), (54, 3), (54, 4), (54, 0), (54, 1), (54, 2), (52, 1), (0, 10), (34, 4)] A A' → ∀ r : Int, rng r → (KO A') → (LD A') → (r = (fC_law_36 n A).1) → (A' = (fC_law_36 n A).2) → K (some (ni r)) A')
theorem okC_law_36 : okM LC 46 104 sC_law_36 := by
  refine qmeth [(54, 0, 52), (54, 1, 36), (0, 10, 36), (34, 4, 71)] false [(45, sC_read_36)] 48 rfl ⟨okC_read_36.le (by decide), trivial⟩ ?_
  rintro _ A K hA has ⟨n, rfl, ⟨i0, j0, p1, p2, p3⟩, hK⟩
  have rg_n : rng n := has (ni n) (by simp)
  have f0 := frm_0 [37, 38, 39, 40, 41, 42] [(36, 7), (36, 8), (54, 3), (54, 4), (54, 0), (54, 1), (54, 2), (52, 1), (0, 10), (34, 4)] A
  obtain ⟨v4, e5⟩ : ∃ v, v = A 0 (fd 10) := ⟨_, rfl⟩
  rw [← e5] at p1
  obtain ⟨v6, e7⟩ : ∃ v, v = A 34 (fd 4) := ⟨_, rfl⟩
  rw [← e7] at p2
  have pf0 := PF_rf 36 A
  have hb_36_8 := ivf_at j0 9 rfl
  have hb_54_3 := ivf_at j0 1 rfl
  have hb_54_2 := ivf_at j0 0 rfl
  have hT : _ = fC_law_36 n A := (fC_law_36.eq_1 n A).symm
  refine ⟨Nat.le_of_ble_eq_true rfl, [], trivial, ?_⟩
  refine And.intro (fun h8 => ?_) (fun h8 => ?_)
  · replace hT := (if_pos h8).symm.trans hT
    obtain ⟨v9, e10⟩ : ∃ v, v = A 34 (fd 4) := ⟨_, rfl⟩
    have q11 : v6 = v9 := (e10.trans e7.symm).symm
    subst q11
    obtain ⟨v12, e13⟩ : ∃ v, v = A 0 (fd 10) := ⟨_, rfl⟩
    have q14 : v4 = v12 := (e13.trans e5.symm).symm
    subst q14
    exact hK _ i0 j0 f0 _ (by first | assumption | exact wI_rng _ | exact ⟨by (first | (clear hm hnf; omega) | omega), by (first | (clear hm hnf; omega) | omega)⟩ | exact i_rng _ | (subst_vars; exact i_rng _) | exact (hA _ _).2 rfl) p3 (by first | assumption | (unfold LD; omega)) (congrArg Prod.fst hT) (congrArg Prod.snd hT)
  · replace hT := (if_neg (Int.not_lt.mpr h8)).symm.trans hT
    refine And.intro (fun h15 => ?_) (fun h15 => ?_)
    · replace hT := (if_pos h15).symm.trans hT
      obtain ⟨v16, e17⟩ : ∃ v, v = A 34 (fd 4) := ⟨_, rfl⟩
      have q18 : v6 = v16 := (e17.trans e7.symm).symm
      subst q18
      obtain ⟨v19, e20⟩ : ∃ v, v = A 0 (fd 10) := ⟨_, rfl⟩
      have q21 : v4 = v19 := (e20.trans e5.symm).symm
      subst q21
      exact hK _ i0 j0 f0 _ (by first | assumption | exact wI_rng _ | exact ⟨by (first | (clear hm hnf; omega) | omega), by (first | (clear hm hnf; omega) | omega)⟩ | exact i_rng _ | (subst_vars; exact i_rng _) | exact (hA _ _).2 rfl) p3 (by first | assumption | (unfold LD; omega)) (congrArg Prod.fst hT) (congrArg Prod.snd hT)
    · replace hT := (if_neg (Int.not_lt.mpr h15)).symm.trans hT
      refine fun v22 gv22 e23 => ?_
      replace hT := qlc e23 hT
      have b24 := ivf_at j0 3 rfl
      refine And.intro (fun h25 => ?_) (fun h25 => ?_)
      · replace hT := (if_neg (Int.not_lt.mpr h25)).symm.trans hT
        obtain ⟨v26, e27⟩ : ∃ v, v = A 0 (fd 10) := ⟨_, rfl⟩
        have q28 : v4 = v26 := (e27.trans e5.symm).symm
        subst q28
        refine And.intro (show A 0 (fd 10) = ((36 : Nat) : Int) by (first | (clear hm hnf; omega) | omega)) ?_
        refine Exists.intro n (And.intro rfl (And.intro (And.intro i0 (And.intro j0 (And.intro (by (first | (clear hm hnf; omega) | omega)) (And.intro (by (first | (clear hm hnf; omega) | omega)) p3)))) (fun A29 i30 j31 f32 r33 g37 g34 g35 g36 => ?_)))
        replace hT := qlpc g35 g36 hT
        clear g35 g36
        have f38 := frm_c f0 f32 rfl
        have t39 := ivf_at j31 9 rfl
        have t40 := ivf_at j31 1 rfl
        have t41 := ivf_at j31 0 rfl
        refine fun A42 e43 => ?_
        replace hT := qlc e43 hT
        have i44 := iva_sf i30 e43 rfl
        have j45 := ivf_st j31 e43 (And.intro (by (first | (clear hm hnf; omega) | omega)) trivial)
        have f46 := frm_sf f38 e43 rfl
        have t47 : A42 36 (fd 8) = A29 36 (fd 8) := (congrFun (st_a e43 rfl) _)
        have t48 : A42 54 (fd 3) = A29 54 (fd 3) := (congrFun (st_a e43 rfl) _)
        have t49 : A42 54 (fd 2) = A29 54 (fd 2) := (congrFun (st_a e43 rfl) _)
        have kk50 := KO_k g34 (st_a e43 rfl) (st_a e43 rfl) (st_a e43 rfl) (st_a e43 rfl)
        refine And.intro (fun h51 => ?_) (fun h51 => ?_)
        · replace hT := (if_pos h51).symm.trans hT
          obtain ⟨v52, e53⟩ : ∃ v, v = A42 34 (fd 4) := ⟨_, rfl⟩
          have q54 : v6 = v52 := (e53.trans ((Eq.trans (congrFun (st_a e43 rfl) _) (frm_f f32 rfl)).trans e7.symm)).symm
          subst q54
          obtain ⟨v55, e56⟩ : ∃ v, v = A42 0 (fd 10) := ⟨_, rfl⟩
          have q57 : v4 = v55 := (e56.trans ((Eq.trans (congrFun (st_a e43 rfl) _) (frm_f f32 rfl)).trans e27.symm)).symm
          subst q57
          exact hK _ i44 j45 f46 _ (by first | assumption | exact wI_rng _ | exact ⟨by (first | (clear hm hnf; omega) | omega), by (first | (clear hm hnf; omega) | omega)⟩ | exact i_rng _ | (subst_vars; exact i_rng _) | exact (hA _ _).2 rfl) kk50 (by first | assumption | (unfold LD; omega)) (congrArg Prod.fst hT) (congrArg Prod.snd hT)
        · replace hT := (if_neg (Int.not_lt.mpr h51)).symm.trans hT
          obtain ⟨v58, e59⟩ : ∃ v, v = A42 34 (fd 4) := ⟨_, rfl⟩
          have q60 : v6 = v58 := (e59.trans ((Eq.trans (congrFun (st_a e43 rfl) _) (frm_f f32 rfl)).trans e7.symm)).symm
          subst q60
          refine And.intro (show A42 34 (fd 4) = ((71 : Nat) : Int) by (first | (clear hm hnf; omega) | omega)) ?_
          obtain ⟨v61, e62⟩ : ∃ v, v = A42 0 (fd 10) := ⟨_, rfl⟩
          have q63 : v4 = v61 := (e62.trans ((Eq.trans (congrFun (st_a e43 rfl) _) (frm_f f32 rfl)).trans e27.symm)).symm
          subst q63
          refine And.intro (show A42 0 (fd 10) = ((36 : Nat) : Int) by (first | (clear hm hnf; omega) | omega)) ?_
          refine fun A64 e65 => ?_
          replace hT := qlc e65 hT
          have i66 := iva_sf i44 e65 rfl
          have j67 := ivf_st j45 e65 trivial
          have f68 := frm_sf f46 e65 rfl
          have t69 : A64 36 (fd 8) = A42 36 (fd 8) := (congrFun (st_a e65 rfl) _)
          have t70 : A64 54 (fd 3) = A42 54 (fd 3) := (congrFun (st_a e65 rfl) _)
          have t71 : A64 54 (fd 2) = A42 54 (fd 2) := (congrFun (st_a e65 rfl) _)
          have kk72 := KO_k kk50 (st_a e65 rfl) (st_a e65 rfl) (st_a e65 rfl) (st_a e65 rfl)
          refine fun A73 e74 => ?_
          replace hT := qlc e74 hT
          have i75 := iva_sf i66 e74 rfl
          have j76 := ivf_st j67 e74 trivial
          have f77 := frm_sf f68 e74 rfl
          have t78 : A73 36 (fd 8) = A64 36 (fd 8) := (congrFun (st_a e74 rfl) _)
          have t79 : A73 54 (fd 3) = A64 54 (fd 3) := (congrFun (st_a e74 rfl) _)
          have t80 : A73 54 (fd 2) = A64 54 (fd 2) := (congrFun (st_a e74 rfl) _)
          have kk81 := KO_k kk72 (st_a e74 rfl) (st_a e74 rfl) (st_a e74 rfl) (st_a e74 rfl)
          obtain ⟨v82, e83⟩ : ∃ v, v = A73 34 (fd 4) := ⟨_, rfl⟩
          have q84 : (36 : Int) = v82 := (e83.trans ((congrFun (st_a e74 rfl) _).trans (st_v e65))).symm
          subst q84
          obtain ⟨v85, e86⟩ : ∃ v, v = A73 0 (fd 10) := ⟨_, rfl⟩
          have q87 : (71 : Int) = v85 := (e86.trans (st_v e74)).symm
          subst q87
          exact hK _ i75 j76 f77 _ (by first | assumption | exact wI_rng _ | exact ⟨by (first | (clear hm hnf; omega) | omega), by (first | (clear hm hnf; omega) | omega)⟩ | exact i_rng _ | (subst_vars; exact i_rng _) | exact (hA _ _).2 rfl) kk81 (by first | assumption | (unfold LD; omega)) (congrArg Prod.fst hT) (congrArg Prod.snd hT)
      · replace hT := (if_pos h25).symm.trans hT
        obtain ⟨v88, e89⟩ : ∃ v, v = A 34 (fd 4) := ⟨_, rfl⟩
        have q90 : v6 = v88 := (e89.trans e7.symm).symm
        subst q90
        obtain ⟨v91, e92⟩ : ∃ v, v = A 0 (fd 10) := ⟨_, rfl⟩
        have q93 : v4 = v91 := (e92.trans e5.symm).symm
        subst q93
        exact hK _ i0 j0 f0 _ (by first | assumption | exact wI_rng _ | exact ⟨by (first | (clear hm hnf; omega) | omega), by (first | (clear hm hnf; omega) | omega)⟩ | exact i_rng _ | (subst_vars; exact i_rng _) | exact (hA _ _).2 rfl) p3 (by first | assumption | (unfold LD; omega)) (congrArg Prod.fst hT) (congrArg Prod.snd hT)
theorem pC_law_36 {n : Int} {A : qA} (hA : qokA LC A) (rg_n : rng n) (p0 : iva IC A) (p1 : ivf JC A) (p2 : (36 ≤ A 0 (fd 10) ∧ A 0 (fd 10) ≤ 36)) (p3 : (71 ≤ A 34 (fd 4) ∧ A 34 (fd 4) ≤ 71)) (p4 : KO A) : qokA LC (fC_law_36 n A).2 ∧ iva IC (fC_law_36 n A).2 ∧ ivf JC (fC_law_36 n A).2 ∧ frm [37, 38, 39, 40, 41, 42] [(36, 7), (36, 8), (54, 3), (54, 4), (54, 0), (54, 1), (54, 2), (52, 1), (0, 10), (34, 4)] A (fC_law_36 n A).2 ∧ rng (fC_law_36 n A).1 ∧ (KO (fC_law_36 n A).2) ∧ (LD (fC_law_36 n A).2) := by
  obtain ⟨r, B, hB, _, hk⟩ := okM_ex okC_law_36 (as := [rf 0, ni n]) (K := fun _ B => B = (fC_law_36 n A).2 ∧ iva IC (fC_law_36 n A).2 ∧ ivf JC (fC_law_36 n A).2 ∧ frm [37, 38, 39, 40, 41, 42] [(36, 7), (36, 8), (54, 3), (54, 4), (54, 0), (54, 1), (54, 2), (52, 1), (0, 10), (34, 4)] A (fC_law_36 n A).2 ∧ rng (fC_law_36 n A).1 ∧ (KO (fC_law_36 n A).2) ∧ (LD (fC_law_36 n A).2)) hA (qoks_c (show qok (rf _) from trivial) (qoks_c (rg_n) qoks_n)) ⟨n, rfl, ⟨p0, p1, p2, p3, p4⟩, fun A9 i9 j9 f9 r9 g9 x0 x1 x2 x3 => (by rw [← x3]; (try rw [← x2]); exact ⟨rfl, i9, j9, f9, g9, x0, x1⟩)⟩
  exact ⟨hk.1 ▸ hB, hk.2⟩
def fC_readClause_71 (A : qA) : Int × qA := qlet (fC_look_71 A) fun r15 => qlet (qone 1 r15) fun v20 => (if v20 = 0 then qlet (fC_fail_71 1 A) fun A256 => (0, A256) else qlet (A 71 (fd 7)) fun v28 => (if v28 < 14 then qlet (A 54 (fd 3)) fun v32 => qlet (v32 + 1) fun v35 => qlet (qu A 54 (fd 3) v35) fun A37 => qlet (qu A37 74 v28 r15) fun A50 => qlet (A50 71 (fd 8)) fun v66 => qlet (qu A50 75 v28 v66) fun A69 => qlp (fC_readSum_71 6 0 A69) fun r89 A85 => (if r89 = 0 then (0, A85) else qlp (fC_expect_71 40 A85) fun r114 A110 => (if r114 = 0 then (0, A110) else qlet (A110 71 (fd 8)) fun v133 => qlet (qu A110 76 v28 v133) fun A136 => qlp (fC_readCondition_71 5 1 A136) fun r156 A152 => (if r156 = 0 then (0, A152) else qlp (fC_expect_71 41 A152) fun r181 A177 => (if r181 = 0 then (0, A177) else qlet (A177 71 (fd 8)) fun v200 => qlet (qu A177 77 v28 v200) fun A203 => qlet (A203 71 (fd 7)) fun v216 => qlet (v28 + 1) fun v220 => qlet (qu A203 71 (fd 7) v220) fun A222 => (1, A222))))) else qlet (fC_fail_71 4 A) fun A238 => (0, A238)))
def sC_readClause_71 : qS := fun as A K => as = [rf 54] ∧ (iva IC A ∧ ivf JC A ∧ (52 ≤ A 54 (fd 0) ∧ A 54 (fd 0) ≤ 52) ∧ (71 ≤ A 54 (fd 1) ∧ A 54 (fd 1) ≤ 71) ∧ (KO A) ∧ (A 71 (fd 8) ≤ A 54 (fd 3))) ∧ (∀ A' : qA, iva IC A' → ivf JC A' → frm [72, 73, 74, 75, 76, 77] [(71, 7), (71, 8), (54, 3), (54, 4)] A A' → ∀ r : Int, 0 ≤ r → r ≤ 1 → (KO A') → (PF 71 A A') → (A 71 (fd 8) ≤ A' 71 (fd 8)) → (A' 71 (fd 8) + A 54 (fd 3) ≤ A 71 (fd 8) + A' 54 (fd 3)) → (r = (fC_readClause_71 A).1) → (A' = (fC_readClause_71 A).2) → K (some (ni r)) A')
theorem okC_readClause_71 : okM LC 44 51 sC_readClause_71 := by
  refine qmeth [(54, 0, 52), (54, 1, 71)] false [(46, sC_look_71), (57, sC_readSum_71 6), (48, sC_expect_71), (52, sC_readCondition_71 5), (47, sC_fail_71)] 93 rfl ⟨okC_look_71.le (by decide), ⟨okC_readSum_71_6.le (by decide), ⟨okC_expect_71.le (by decide), ⟨okC_readCondition_71_5.le (by decide), ⟨okC_fail_71.le (by decide), trivial⟩⟩⟩⟩⟩ ?_
  rintro _ A K hA has ⟨rfl, ⟨i0, j0, p1, p2, p3, p4⟩, hK⟩
  have f0 := frm_0 [72, 73, 74, 75, 76, 77] [(71, 7), (71, 8), (54, 3), (54, 4)] A
  obtain ⟨v5, e6⟩ : ∃ v, v = A 54 (fd 0) := ⟨_, rfl⟩
  rw [← e6] at p1
  obtain ⟨v7, e8⟩ : ∃ v, v = A 54 (fd 1) := ⟨_, rfl⟩
  rw [← e8] at p2
  have pf0 := PF_rf 71 A
  have hb_71_8 := ivf_at j0 12 rfl
  have hb_54_3 := ivf_at j0 1 rfl
  have hb_54_2 := ivf_at j0 0 rfl
  have hT : _ = fC_readClause_71 A := (fC_readClause_71.eq_1 A).symm
  refine ⟨Nat.le_of_ble_eq_true rfl, [], trivial, ?_⟩
  obtain ⟨v9, e10⟩ : ∃ v, v = A 54 (fd 0) := ⟨_, rfl⟩
  have q11 : v5 = v9 := (e10.trans e6.symm).symm
  subst q11
  obtain ⟨v12, e13⟩ : ∃ v, v = A 54 (fd 1) := ⟨_, rfl⟩
  have q14 : v7 = v12 := (e13.trans e8.symm).symm
  subst q14
  refine And.intro rfl (And.intro (And.intro i0 (And.intro j0 (And.intro (by rw [← e10]; omega) (by rw [← e13]; omega)))) (fun r15 g18 g19 g16 g17 => ?_))
  replace hT := qlc g17 hT
  clear g17
  refine fun v20 e21 => ?_
  replace hT := qlc e21 hT
  have h22 := qone_bd 1 r15
  rw [← e21] at h22
  have h23 := qone_p (s := 1) (x := r15) (by (first | (clear hm hnf; omega) | omega))
  refine And.intro (fun h24 => ?_) (fun h24 => ?_)
  · replace hT := (if_neg h24).symm.trans hT
    obtain ⟨v25, e26⟩ : ∃ v, v = A 54 (fd 1) := ⟨_, rfl⟩
    have q27 : v7 = v25 := (e26.trans e13.symm).symm
    subst q27
    refine And.intro (show A 54 (fd 1) = ((71 : Nat) : Int) by (first | (clear hm hnf; omega) | omega)) ?_
    refine fun v28 gv28 e29 => ?_
    replace hT := qlc e29 hT
    have b30 := ivf_at j0 11 rfl
    refine And.intro (fun h31 => ?_) (fun h31 => ?_)
    · replace hT := (if_pos h31).symm.trans hT
      refine fun v32 gv32 e33 => ?_
      replace hT := qlc e33 hT
      have b34 := ivf_at j0 1 rfl
      refine fun v35 e36 => ?_
      replace hT := qlc e36 hT
      refine And.intro (by (first | (clear hm hnf; omega) | omega)) (fun A37 e38 => ?_)
      replace hT := qlc e38 hT
      have i39 := iva_sf i0 e38 rfl
      have j40 := ivf_st j0 e38 (And.intro (by (first | (clear hm hnf; omega) | omega)) trivial)
      have f41 := frm_sf f0 e38 rfl
      have t42 : A37 71 (fd 8) = A 71 (fd 8) := (congrFun (st_a e38 rfl) _)
      have t43 := st_v e38
      have t44 : A37 54 (fd 2) = A 54 (fd 2) := (st_f e38 rfl)
      have kk45 := KO_k p3 (st_a e38 rfl) (st_a e38 rfl) (st_a e38 rfl) (st_a e38 rfl)
      have pf46 := PF_k pf0 (st_a e38 rfl)
      obtain ⟨v47, e48⟩ : ∃ v, v = A37 54 (fd 1) := ⟨_, rfl⟩
      have q49 : v7 = v47 := (e48.trans ((st_f e38 rfl).trans e26.symm)).symm
      subst q49
      refine And.intro (show A37 54 (fd 1) = ((71 : Nat) : Int) by (first | (clear hm hnf; omega) | omega)) ?_
      refine And.intro (by (first | (clear hm hnf; omega) | omega)) (fun A50 e51 => ?_)
      replace hT := qlc e51 hT
      have i52 := iva_st i39 e51 trivial
      have j53 := ivf_sa j40 e51 rfl
      have f54 := frm_s f41 e51 rfl
      have t55 : A50 71 (fd 8) = A37 71 (fd 8) := (congrFun (st_a e51 rfl) _)
      have t56 : A50 54 (fd 3) = A37 54 (fd 3) := (congrFun (st_a e51 rfl) _)
      have t57 : A50 54 (fd 2) = A37 54 (fd 2) := (congrFun (st_a e51 rfl) _)
      have kk58 := KO_k kk45 (st_a e51 rfl) (st_a e51 rfl) (st_a e51 rfl) (st_a e51 rfl)
      have pf59 := PF_k pf46 (st_a e51 rfl)
      obtain ⟨v60, e61⟩ : ∃ v, v = A50 54 (fd 1) := ⟨_, rfl⟩
      have q62 : v7 = v60 := (e61.trans ((congrFun (st_a e51 rfl) _).trans e48.symm)).symm
      subst q62
      refine And.intro (show A50 54 (fd 1) = ((71 : Nat) : Int) by (first | (clear hm hnf; omega) | omega)) ?_
      obtain ⟨v63, e64⟩ : ∃ v, v = A50 54 (fd 1) := ⟨_, rfl⟩
      have q65 : v7 = v63 := (e64.trans e61.symm).symm
      subst q65
      refine And.intro (show A50 54 (fd 1) = ((71 : Nat) : Int) by (first | (clear hm hnf; omega) | omega)) ?_
      refine fun v66 gv66 e67 => ?_
      replace hT := qlc e67 hT
      have b68 := ivf_at j53 12 rfl
      refine And.intro (by (first | (clear hm hnf; omega) | omega)) (fun A69 e70 => ?_)
      replace hT := qlc e70 hT
      have i71 := iva_st i52 e70 (And.intro (by (first | (clear hm hnf; omega) | omega)) trivial)
      have j72 := ivf_sa j53 e70 rfl
      have f73 := frm_s f54 e70 rfl
      have t74 : A69 71 (fd 8) = A50 71 (fd 8) := (congrFun (st_a e70 rfl) _)
      have t75 : A69 54 (fd 3) = A50 54 (fd 3) := (congrFun (st_a e70 rfl) _)
      have t76 : A69 54 (fd 2) = A50 54 (fd 2) := (congrFun (st_a e70 rfl) _)
      have kk77 := KO_k kk58 (st_a e70 rfl) (st_a e70 rfl) (st_a e70 rfl) (st_a e70 rfl)
      have pf78 := PF_k pf59 (st_a e70 rfl)
      obtain ⟨v79, e80⟩ : ∃ v, v = A69 54 (fd 0) := ⟨_, rfl⟩
      have q81 : v5 = v79 := (e80.trans ((Eq.trans (Eq.trans (congrFun (st_a e70 rfl) _) (congrFun (st_a e51 rfl) _)) (st_f e38 rfl)).trans e10.symm)).symm
      subst q81
      obtain ⟨v82, e83⟩ : ∃ v, v = A69 54 (fd 1) := ⟨_, rfl⟩
      have q84 : v7 = v82 := (e83.trans ((congrFun (st_a e70 rfl) _).trans e64.symm)).symm
      subst q84
      refine Exists.intro 0 (And.intro rfl (And.intro (And.intro i71 (And.intro j72 (And.intro (by (first | (clear hm hnf; omega) | omega)) (And.intro (by (first | (clear hm hnf; omega) | omega)) (And.intro (by rw [← e80]; omega) (And.intro (by rw [← e83]; omega) (And.intro kk77 (And.intro (by first | assumption | omega | simp_all) (by (first | (clear hm hnf; omega) | omega)))))))))) (fun A85 i86 j87 f88 r89 g96 g97 g90 g91 g92 g93 g94 g95 => ?_)))
      replace hT := qlpc g94 g95 hT
      clear g94 g95
      have f98 := frm_c f73 f88 rfl
      have t99 := ivf_at j87 12 rfl
      have t100 := ivf_at j87 1 rfl
      have t101 : A85 54 (fd 2) = A69 54 (fd 2) := (frm_f f88 rfl)
      have pf102 := PF_tr pf78 g91 (by (first | (clear hm hnf; omega) | omega))
      refine And.intro (fun h103 => ?_) (fun h103 => ?_)
      · replace hT := (if_pos h103).symm.trans hT
        exact And.intro (by (first | (clear hm hnf; omega) | omega)) (hK _ i86 j87 f98 _ (by (first | (clear hm hnf; omega) | omega)) (by (first | (clear hm hnf; omega) | omega)) g90 pf102 (by first | assumption | omega | simp_all) (by first | assumption | omega | simp_all) (congrArg Prod.fst hT) (congrArg Prod.snd hT))
      · replace hT := (if_neg h103).symm.trans hT
        obtain ⟨v104, e105⟩ : ∃ v, v = A85 54 (fd 0) := ⟨_, rfl⟩
        have q106 : v5 = v104 := (e105.trans ((frm_f f88 rfl).trans e80.symm)).symm
        subst q106
        obtain ⟨v107, e108⟩ : ∃ v, v = A85 54 (fd 1) := ⟨_, rfl⟩
        have q109 : v7 = v107 := (e108.trans ((frm_f f88 rfl).trans e83.symm)).symm
        subst q109
        refine Exists.intro 40 (And.intro rfl (And.intro (And.intro i86 (And.intro j87 (And.intro (by (first | (clear hm hnf; omega) | omega)) (And.intro (by (first | (clear hm hnf; omega) | omega)) (And.intro (by rw [← e105]; omega) (And.intro (by rw [← e108]; omega) (And.intro g90 (by first | assumption | omega | simp_all)))))))) (fun A110 i111 j112 f113 r114 g118 g119 g115 g116 g117 => ?_)))
        replace hT := qlpc g116 g117 hT
        clear g116 g117
        have f120 := frm_c f98 f113 rfl
        have t121 : A110 71 (fd 8) = A85 71 (fd 8) := (frm_f f113 rfl)
        have t122 := ivf_at j112 1 rfl
        have t123 : A110 54 (fd 2) = A85 54 (fd 2) := (frm_f f113 rfl)
        have kk124 := KO_fr g90 f113 rfl
        have pf125 := PF_k pf102 (frm_a f113 rfl)
        refine And.intro (fun h126 => ?_) (fun h126 => ?_)
        · replace hT := (if_neg h126).symm.trans hT
          obtain ⟨v127, e128⟩ : ∃ v, v = A110 54 (fd 1) := ⟨_, rfl⟩
          have q129 : v7 = v127 := (e128.trans ((frm_f f113 rfl).trans e108.symm)).symm
          subst q129
          refine And.intro (show A110 54 (fd 1) = ((71 : Nat) : Int) by (first | (clear hm hnf; omega) | omega)) ?_
          obtain ⟨v130, e131⟩ : ∃ v, v = A110 54 (fd 1) := ⟨_, rfl⟩
          have q132 : v7 = v130 := (e131.trans e128.symm).symm
          subst q132
          refine And.intro (show A110 54 (fd 1) = ((71 : Nat) : Int) by (first | (clear hm hnf; omega) | omega)) ?_
          refine fun v133 gv133 e134 => ?_
          replace hT := qlc e134 hT
          have b135 := ivf_at j112 12 rfl
          refine And.intro (by (first | (clear hm hnf; omega) | omega)) (fun A136 e137 => ?_)
          replace hT := qlc e137 hT
          have i138 := iva_st i111 e137 (And.intro (by (first | (clear hm hnf; omega) | omega)) trivial)
          have j139 := ivf_sa j112 e137 rfl
          have f140 := frm_s f120 e137 rfl
          have t141 : A136 71 (fd 8) = A110 71 (fd 8) := (congrFun (st_a e137 rfl) _)
          have t142 : A136 54 (fd 3) = A110 54 (fd 3) := (congrFun (st_a e137 rfl) _)
          have t143 : A136 54 (fd 2) = A110 54 (fd 2) := (congrFun (st_a e137 rfl) _)
          have kk144 := KO_k kk124 (st_a e137 rfl) (st_a e137 rfl) (st_a e137 rfl) (st_a e137 rfl)
          have pf145 := PF_k pf125 (st_a e137 rfl)
          obtain ⟨v146, e147⟩ : ∃ v, v = A136 54 (fd 0) := ⟨_, rfl⟩
          have q148 : v5 = v146 := (e147.trans ((Eq.trans (congrFun (st_a e137 rfl) _) (frm_f f113 rfl)).trans e105.symm)).symm
          subst q148
          obtain ⟨v149, e150⟩ : ∃ v, v = A136 54 (fd 1) := ⟨_, rfl⟩
          have q151 : v7 = v149 := (e150.trans ((congrFun (st_a e137 rfl) _).trans e131.symm)).symm
          subst q151
          refine Exists.intro 1 (And.intro rfl (And.intro (And.intro i138 (And.intro j139 (And.intro (by (first | (clear hm hnf; omega) | omega)) (And.intro (by (first | (clear hm hnf; omega) | omega)) (And.intro (by rw [← e147]; omega) (And.intro (by rw [← e150]; omega) (And.intro kk144 (And.intro (by first | assumption | omega | simp_all) (by (first | (clear hm hnf; omega) | omega)))))))))) (fun A152 i153 j154 f155 r156 g163 g164 g157 g158 g159 g160 g161 g162 => ?_)))
          replace hT := qlpc g161 g162 hT
          clear g161 g162
          have f165 := frm_c f140 f155 rfl
          have t166 := ivf_at j154 12 rfl
          have t167 := ivf_at j154 1 rfl
          have t168 : A152 54 (fd 2) = A136 54 (fd 2) := (frm_f f155 rfl)
          have pf169 := PF_tr pf145 g158 (by (first | (clear hm hnf; omega) | omega))
          refine And.intro (fun h170 => ?_) (fun h170 => ?_)
          · replace hT := (if_pos h170).symm.trans hT
            exact And.intro (by (first | (clear hm hnf; omega) | omega)) (hK _ i153 j154 f165 _ (by (first | (clear hm hnf; omega) | omega)) (by (first | (clear hm hnf; omega) | omega)) g157 pf169 (by first | assumption | omega | simp_all) (by first | assumption | omega | simp_all) (congrArg Prod.fst hT) (congrArg Prod.snd hT))
          · replace hT := (if_neg h170).symm.trans hT
            obtain ⟨v171, e172⟩ : ∃ v, v = A152 54 (fd 0) := ⟨_, rfl⟩
            have q173 : v5 = v171 := (e172.trans ((frm_f f155 rfl).trans e147.symm)).symm
            subst q173
            obtain ⟨v174, e175⟩ : ∃ v, v = A152 54 (fd 1) := ⟨_, rfl⟩
            have q176 : v7 = v174 := (e175.trans ((frm_f f155 rfl).trans e150.symm)).symm
            subst q176
            refine Exists.intro 41 (And.intro rfl (And.intro (And.intro i153 (And.intro j154 (And.intro (by (first | (clear hm hnf; omega) | omega)) (And.intro (by (first | (clear hm hnf; omega) | omega)) (And.intro (by rw [← e172]; omega) (And.intro (by rw [← e175]; omega) (And.intro g157 (by first | assumption | omega | simp_all)))))))) (fun A177 i178 j179 f180 r181 g185 g186 g182 g183 g184 => ?_)))
            replace hT := qlpc g183 g184 hT
            clear g183 g184
            have f187 := frm_c f165 f180 rfl
            have t188 : A177 71 (fd 8) = A152 71 (fd 8) := (frm_f f180 rfl)
            have t189 := ivf_at j179 1 rfl
            have t190 : A177 54 (fd 2) = A152 54 (fd 2) := (frm_f f180 rfl)
            have kk191 := KO_fr g157 f180 rfl
            have pf192 := PF_k pf169 (frm_a f180 rfl)
            refine And.intro (fun h193 => ?_) (fun h193 => ?_)
            · replace hT := (if_neg h193).symm.trans hT
              obtain ⟨v194, e195⟩ : ∃ v, v = A177 54 (fd 1) := ⟨_, rfl⟩
              have q196 : v7 = v194 := (e195.trans ((frm_f f180 rfl).trans e175.symm)).symm
              subst q196
              refine And.intro (show A177 54 (fd 1) = ((71 : Nat) : Int) by (first | (clear hm hnf; omega) | omega)) ?_
              obtain ⟨v197, e198⟩ : ∃ v, v = A177 54 (fd 1) := ⟨_, rfl⟩
              have q199 : v7 = v197 := (e198.trans e195.symm).symm
              subst q199
              refine And.intro (show A177 54 (fd 1) = ((71 : Nat) : Int) by (first | (clear hm hnf; omega) | omega)) ?_
              refine fun v200 gv200 e201 => ?_
              replace hT := qlc e201 hT
              have b202 := ivf_at j179 12 rfl
              refine And.intro (by (first | (clear hm hnf; omega) | omega)) (fun A203 e204 => ?_)
              replace hT := qlc e204 hT
              have i205 := iva_st i178 e204 (And.intro (by (first | (clear hm hnf; omega) | omega)) trivial)
              have j206 := ivf_sa j179 e204 rfl
              have f207 := frm_s f187 e204 rfl
              have t208 : A203 71 (fd 8) = A177 71 (fd 8) := (congrFun (st_a e204 rfl) _)
              have t209 : A203 54 (fd 3) = A177 54 (fd 3) := (congrFun (st_a e204 rfl) _)
              have t210 : A203 54 (fd 2) = A177 54 (fd 2) := (congrFun (st_a e204 rfl) _)
              have kk211 := KO_k kk191 (st_a e204 rfl) (st_a e204 rfl) (st_a e204 rfl) (st_a e204 rfl)
              have pf212 := PF_k pf192 (st_a e204 rfl)
              obtain ⟨v213, e214⟩ : ∃ v, v = A203 54 (fd 1) := ⟨_, rfl⟩
              have q215 : v7 = v213 := (e214.trans ((congrFun (st_a e204 rfl) _).trans e198.symm)).symm
              subst q215
              refine And.intro (show A203 54 (fd 1) = ((71 : Nat) : Int) by (first | (clear hm hnf; omega) | omega)) ?_
              refine fun v216 gv216 e217 => ?_
              replace hT := qlc e217 hT
              have b218 := ivf_at j206 11 rfl
              have q219 : v28 = v216 := (e217.trans ((Eq.trans (Eq.trans (Eq.trans (Eq.trans (Eq.trans (Eq.trans (Eq.trans (Eq.trans (congrFun (st_a e204 rfl) _) (frm_f f180 rfl)) (frm_f f155 rfl)) (congrFun (st_a e137 rfl) _)) (frm_f f113 rfl)) (frm_f f88 rfl)) (congrFun (st_a e70 rfl) _)) (congrFun (st_a e51 rfl) _)) (congrFun (st_a e38 rfl) _)).trans e29.symm)).symm
              subst q219
              refine fun v220 e221 => ?_
              replace hT := qlc e221 hT
              refine And.intro (by (first | (clear hm hnf; omega) | omega)) (fun A222 e223 => ?_)
              replace hT := qlc e223 hT
              have i224 := iva_sf i205 e223 rfl
              have j225 := ivf_st j206 e223 (And.intro (by (first | (clear hm hnf; omega) | omega)) trivial)
              have f226 := frm_sf f207 e223 rfl
              have t227 : A222 71 (fd 8) = A203 71 (fd 8) := (st_f e223 rfl)
              have t228 : A222 54 (fd 3) = A203 54 (fd 3) := (congrFun (st_a e223 rfl) _)
              have t229 : A222 54 (fd 2) = A203 54 (fd 2) := (congrFun (st_a e223 rfl) _)
              have kk230 := KO_k kk211 (st_a e223 rfl) (st_a e223 rfl) (st_a e223 rfl) (st_a e223 rfl)
              have pf231 := PF_k pf212 (st_a e223 rfl)
              exact And.intro (by (first | (clear hm hnf; omega) | omega)) (hK _ i224 j225 f226 _ (by (first | (clear hm hnf; omega) | omega)) (by (first | (clear hm hnf; omega) | omega)) kk230 pf231 (by first | assumption | omega | simp_all) (by first | assumption | omega | simp_all) (congrArg Prod.fst hT) (congrArg Prod.snd hT))
            · replace hT := (if_pos h193).symm.trans hT
              exact And.intro (by (first | (clear hm hnf; omega) | omega)) (hK _ i178 j179 f187 _ (by (first | (clear hm hnf; omega) | omega)) (by (first | (clear hm hnf; omega) | omega)) kk191 pf192 (by first | assumption | omega | simp_all) (by first | assumption | omega | simp_all) (congrArg Prod.fst hT) (congrArg Prod.snd hT))
        · replace hT := (if_pos h126).symm.trans hT
          exact And.intro (by (first | (clear hm hnf; omega) | omega)) (hK _ i111 j112 f120 _ (by (first | (clear hm hnf; omega) | omega)) (by (first | (clear hm hnf; omega) | omega)) kk124 pf125 (by first | assumption | omega | simp_all) (by first | assumption | omega | simp_all) (congrArg Prod.fst hT) (congrArg Prod.snd hT))
    · replace hT := (if_neg (Int.not_lt.mpr h31)).symm.trans hT
      obtain ⟨v232, e233⟩ : ∃ v, v = A 54 (fd 0) := ⟨_, rfl⟩
      have q234 : v5 = v232 := (e233.trans e10.symm).symm
      subst q234
      obtain ⟨v235, e236⟩ : ∃ v, v = A 54 (fd 1) := ⟨_, rfl⟩
      have q237 : v7 = v235 := (e236.trans e26.symm).symm
      subst q237
      refine Exists.intro 4 (And.intro rfl (And.intro (And.intro i0 (And.intro j0 (And.intro (by (first | (clear hm hnf; omega) | omega)) (And.intro (by (first | (clear hm hnf; omega) | omega)) (And.intro (by rw [← e233]; omega) (by rw [← e236]; omega)))))) (fun A238 i239 j240 f241 g242 => (fun h243 => ?_))))
      · replace hT := qlc g242 hT
        have f244 := frm_c f0 f241 rfl
        have t245 : A238 71 (fd 8) = A 71 (fd 8) := (frm_f f241 rfl)
        have t246 : A238 54 (fd 3) = A 54 (fd 3) := (frm_f f241 rfl)
        have t247 : A238 54 (fd 2) = A 54 (fd 2) := (frm_f f241 rfl)
        have kk248 := KO_fr p3 f241 rfl
        have pf249 := PF_k pf0 (frm_a f241 rfl)
        exact And.intro (by (first | (clear hm hnf; omega) | omega)) (hK _ i239 j240 f244 _ (by (first | (clear hm hnf; omega) | omega)) (by (first | (clear hm hnf; omega) | omega)) kk248 pf249 (by first | assumption | omega | simp_all) (by first | assumption | omega | simp_all) (congrArg Prod.fst hT) (congrArg Prod.snd hT))
  · replace hT := (if_pos h24).symm.trans hT
    obtain ⟨v250, e251⟩ : ∃ v, v = A 54 (fd 0) := ⟨_, rfl⟩
    have q252 : v5 = v250 := (e251.trans e10.symm).symm
    subst q252
    obtain ⟨v253, e254⟩ : ∃ v, v = A 54 (fd 1) := ⟨_, rfl⟩
    have q255 : v7 = v253 := (e254.trans e13.symm).symm
    subst q255
    refine Exists.intro 1 (And.intro rfl (And.intro (And.intro i0 (And.intro j0 (And.intro (by (first | (clear hm hnf; omega) | omega)) (And.intro (by (first | (clear hm hnf; omega) | omega)) (And.intro (by rw [← e251]; omega) (by rw [← e254]; omega)))))) (fun A256 i257 j258 f259 g260 => (fun h261 => ?_))))
    · replace hT := qlc g260 hT
      have f262 := frm_c f0 f259 rfl
      have t263 : A256 71 (fd 8) = A 71 (fd 8) := (frm_f f259 rfl)
      have t264 : A256 54 (fd 3) = A 54 (fd 3) := (frm_f f259 rfl)
      have t265 : A256 54 (fd 2) = A 54 (fd 2) := (frm_f f259 rfl)
      have kk266 := KO_fr p3 f259 rfl
      have pf267 := PF_k pf0 (frm_a f259 rfl)
      exact And.intro (by (first | (clear hm hnf; omega) | omega)) (hK _ i257 j258 f262 _ (by (first | (clear hm hnf; omega) | omega)) (by (first | (clear hm hnf; omega) | omega)) kk266 pf267 (by first | assumption | omega | simp_all) (by first | assumption | omega | simp_all) (congrArg Prod.fst hT) (congrArg Prod.snd hT))
theorem pC_readClause_71 {A : qA} (hA : qokA LC A) (p0 : iva IC A) (p1 : ivf JC A) (p2 : (52 ≤ A 54 (fd 0) ∧ A 54 (fd 0) ≤ 52)) (p3 : (71 ≤ A 54 (fd 1) ∧ A 54 (fd 1) ≤ 71)) (p4 : KO A) (p5 : A 71 (fd 8) ≤ A 54 (fd 3)) : qokA LC (fC_readClause_71 A).2 ∧ iva IC (fC_readClause_71 A).2 ∧ ivf JC (fC_readClause_71 A).2 ∧ frm [72, 73, 74, 75, 76, 77] [(71, 7), (71, 8), (54, 3), (54, 4)] A (fC_readClause_71 A).2 ∧ (0 ≤ (fC_readClause_71 A).1 ∧ (fC_readClause_71 A).1 ≤ 1) ∧ (KO (fC_readClause_71 A).2) ∧ (PF 71 A (fC_readClause_71 A).2) ∧ (A 71 (fd 8) ≤ (fC_readClause_71 A).2 71 (fd 8)) ∧ ((fC_readClause_71 A).2 71 (fd 8) + A 54 (fd 3) ≤ A 71 (fd 8) + (fC_readClause_71 A).2 54 (fd 3)) := by
  obtain ⟨r, B, hB, _, hk⟩ := okM_ex okC_readClause_71 (as := [rf 54]) (K := fun _ B => B = (fC_readClause_71 A).2 ∧ iva IC (fC_readClause_71 A).2 ∧ ivf JC (fC_readClause_71 A).2 ∧ frm [72, 73, 74, 75, 76, 77] [(71, 7), (71, 8), (54, 3), (54, 4)] A (fC_readClause_71 A).2 ∧ (0 ≤ (fC_readClause_71 A).1 ∧ (fC_readClause_71 A).1 ≤ 1) ∧ (KO (fC_readClause_71 A).2) ∧ (PF 71 A (fC_readClause_71 A).2) ∧ (A 71 (fd 8) ≤ (fC_readClause_71 A).2 71 (fd 8)) ∧ ((fC_readClause_71 A).2 71 (fd 8) + A 54 (fd 3) ≤ A 71 (fd 8) + (fC_readClause_71 A).2 54 (fd 3))) hA (qoks_c (show qok (rf _) from trivial) qoks_n) ⟨rfl, ⟨p0, p1, p2, p3, p4, p5⟩, fun A9 i9 j9 f9 r9 g8 g9 x0 x1 x2 x3 x4 x5 => (by rw [← x5]; (try rw [← x4]); exact ⟨rfl, i9, j9, f9, ⟨g8, g9⟩, x0, x1, x2, x3⟩)⟩
  exact ⟨hk.1 ▸ hB, hk.2⟩
def fC_read_71_c23 (rec : Nat → List Int → qA → Int × qA) (i : Int) (B : qA) : Int × qA := (if 14 < i then qlet (B 54 (fd 4)) fun v78 => (v78, B) else qlp (fC_readClause_71 B) fun r90 A86 => (if r90 = 0 then qlet (A86 54 (fd 4)) fun v104 => (v104, A86) else qlet (fC_look_71 A86) fun r112 => (if r112 = (-1) then qlet (A86 71 (fd 7)) fun v150 => (v150, A86) else qlp (fC_expect_71 59 A86) fun r128 A124 => (if r128 = 0 then qlet (A124 54 (fd 4)) fun v148 => (v148, A124) else qlet (i + 1) fun v140 => rec 23 [v140] A124))))
def fC_read_71_L : Nat → Nat → List Int → qA → Int × qA
  | 0 => fun _ _ B => (0, B)
  | nF + 1 => fun k zs B => bif Nat.beq k 23 then (match zs with | [i] => fC_read_71_c23 (fC_read_71_L nF) i B | _ => (0, B)) else (0, B)
theorem fC_read_71_L23 (nF : Nat) (i : Int) (B : qA) : fC_read_71_L (nF + 1) 23 [i] B = fC_read_71_c23 (fC_read_71_L nF) i B := (congrFun (congrFun (congrFun (fC_read_71_L.eq_2 nF) 23) [i]) B).trans (qL1 rfl rfl)
def fC_read_71 (n : Int) (A : qA) : Int × qA := qlet (qu A 54 (fd 0) (52 : Int)) fun A4 => qlet (qu A4 54 (fd 1) (71 : Int)) fun A13 => qlet (qu A13 54 (fd 2) n) fun A22 => qlet (qu A22 54 (fd 3) 0) fun A31 => qlet (qu A31 54 (fd 4) 0) fun A40 => qlet (qu A40 71 (fd 7) 0) fun A49 => qlet (qu A49 71 (fd 8) 0) fun A58 => (fC_read_71_L 100000) 23 [0] A58
def sC_read_71 : qS := fun as A K => ∃ n : Int, as = [rf 54, rf 52, ni n, rf 71] ∧ (iva IC A ∧ ivf JC A ∧ 0 ≤ n ∧ n ≤ 200 ∧ (KO A)) ∧ (∀ A' : qA, iva IC A' → ivf JC A' → frm [72, 73, 74, 75, 76, 77] [(71, 7), (71, 8), (54, 3), (54, 4), (54, 0), (54, 1), (54, 2)] A A' → ∀ r : Int, rng r → (KO A') → (r = (fC_read_71 n A).1) → (A' = (fC_read_71 n A).2) → K (some (ni r)) A')
theorem okC_read_71 : okM LC 45 45 sC_read_71 := by
  refine qmeth [(54, 0, 52), (54, 1, 71)] false [(51, sC_readClause_71), (46, sC_look_71), (48, sC_expect_71)] 54 rfl ⟨okC_readClause_71.le (by decide), ⟨okC_look_71.le (by decide), ⟨okC_expect_71.le (by decide), trivial⟩⟩⟩ ?_
  rintro _ A K hA has ⟨n, rfl, ⟨i0, j0, p1, p2, p3⟩, hK⟩
  have rg_n : rng n := has (ni n) (by simp)
  have f0 := frm_0 [72, 73, 74, 75, 76, 77] [(71, 7), (71, 8), (54, 3), (54, 4), (54, 0), (54, 1), (54, 2)] A
  have pf0 := PF_rf 71 A
  have hb_71_8 := ivf_at j0 12 rfl
  have hb_54_3 := ivf_at j0 1 rfl
  have hb_54_2 := ivf_at j0 0 rfl
  have hT : _ = fC_read_71 n A := (fC_read_71.eq_1 n A).symm
  refine ⟨Nat.le_of_ble_eq_true rfl, [(23, [(0, 2, 54), (3, 2, 71), (4, 0, 0)], fun zs B nn => match zs with | [i] => iva IC B ∧ ivf JC B ∧ frm [72, 73, 74, 75, 76, 77] [(71, 7), (71, 8), (54, 3), (54, 4), (54, 0), (54, 1), (54, 2)] A B ∧ nn = (15 - i : Int).toNat ∧ (52 ≤ B 54 (fd 0) ∧ B 54 (fd 0) ≤ 52) ∧ (71 ≤ B 54 (fd 1) ∧ B 54 (fd 1) ≤ 71) ∧ (0 ≤ i) ∧ (i ≤ 15) ∧ (KO B) ∧ (B 71 (fd 8) ≤ B 54 (fd 3)) ∧ (∃ nf : Nat, nn < nf ∧ fC_read_71_L nf 23 [i] B = fC_read_71 n A) | _ => False)], ?_, ?_⟩
  · refine ⟨⟨rfl, ?_⟩, trivial⟩
    · refine fun i B mm hB hz hI => ?_
      obtain ⟨i1, j1, f1, hm, d0, d1, c0, c1, c2, c3, ⟨nf, hnf, hT⟩⟩ := hI
      obtain ⟨hz_i, _⟩ := hz
      obtain ⟨ng, rfl⟩ : ∃ k, nf = k + 1 := ⟨nf - 1, by omega⟩
      replace hT := (fC_read_71_c23.eq_1 (fC_read_71_L ng) i B).symm.trans ((fC_read_71_L23 ng i B).symm.trans hT)
      obtain ⟨v73, e74⟩ : ∃ v, v = B 54 (fd 0) := ⟨_, rfl⟩
      rw [← e74] at d0
      obtain ⟨v75, e76⟩ : ∃ v, v = B 54 (fd 1) := ⟨_, rfl⟩
      rw [← e76] at d1
      have hc_71_8 := ivf_at j1 12 rfl
      have hc_54_3 := ivf_at j1 1 rfl
      have hc_54_2 := ivf_at j1 0 rfl
      have hc_w : B 53 = A 53 := frm_a f1 rfl
      refine And.intro (fun h77 => ?_) (fun h77 => ?_)
      · replace hT := (if_pos h77).symm.trans hT
        refine fun v78 gv78 e79 => ?_
        replace hT := qlc e79 hT
        exact hK _ i1 j1 f1 _ (by first | assumption | exact wI_rng _ | exact ⟨by (first | (clear hm hnf; omega) | omega), by (first | (clear hm hnf; omega) | omega)⟩ | exact i_rng _ | (subst_vars; exact i_rng _) | exact (hA _ _).2 rfl) c2 (congrArg Prod.fst hT) (congrArg Prod.snd hT)
      · replace hT := (if_neg (Int.not_lt.mpr h77)).symm.trans hT
        obtain ⟨v80, e81⟩ : ∃ v, v = B 54 (fd 0) := ⟨_, rfl⟩
        have q82 : v73 = v80 := (e81.trans e74.symm).symm
        subst q82
        obtain ⟨v83, e84⟩ : ∃ v, v = B 54 (fd 1) := ⟨_, rfl⟩
        have q85 : v75 = v83 := (e84.trans e76.symm).symm
        subst q85
        refine And.intro rfl (And.intro (And.intro i1 (And.intro j1 (And.intro (by rw [← e81]; omega) (And.intro (by rw [← e84]; omega) (And.intro c2 (by first | assumption | omega | simp_all)))))) (fun A86 i87 j88 f89 r90 g97 g98 g91 g92 g93 g94 g95 g96 => ?_))
        replace hT := qlpc g95 g96 hT
        clear g95 g96
        have f99 := frm_c f1 f89 rfl
        have t100 := ivf_at j88 12 rfl
        have t101 := ivf_at j88 1 rfl
        have t102 : A86 54 (fd 2) = B 54 (fd 2) := (frm_f f89 rfl)
        refine And.intro (fun h103 => ?_) (fun h103 => ?_)
        · replace hT := (if_pos h103).symm.trans hT
          refine fun v104 gv104 e105 => ?_
          replace hT := qlc e105 hT
          exact hK _ i87 j88 f99 _ (by first | assumption | exact wI_rng _ | exact ⟨by (first | (clear hm hnf; omega) | omega), by (first | (clear hm hnf; omega) | omega)⟩ | exact i_rng _ | (subst_vars; exact i_rng _) | exact (hA _ _).2 rfl) g91 (congrArg Prod.fst hT) (congrArg Prod.snd hT)
        · replace hT := (if_neg h103).symm.trans hT
          obtain ⟨v106, e107⟩ : ∃ v, v = A86 54 (fd 0) := ⟨_, rfl⟩
          have q108 : v73 = v106 := (e107.trans ((frm_f f89 rfl).trans e81.symm)).symm
          subst q108
          obtain ⟨v109, e110⟩ : ∃ v, v = A86 54 (fd 1) := ⟨_, rfl⟩
          have q111 : v75 = v109 := (e110.trans ((frm_f f89 rfl).trans e84.symm)).symm
          subst q111
          refine And.intro rfl (And.intro (And.intro i87 (And.intro j88 (And.intro (by rw [← e107]; omega) (by rw [← e110]; omega)))) (fun r112 g115 g116 g113 g114 => ?_))
          replace hT := qlc g114 hT
          clear g114
          refine And.intro (fun h117 => ?_) (fun h117 => ?_)
          · replace hT := (if_neg h117).symm.trans hT
            obtain ⟨v118, e119⟩ : ∃ v, v = A86 54 (fd 0) := ⟨_, rfl⟩
            have q120 : v73 = v118 := (e119.trans e107.symm).symm
            subst q120
            obtain ⟨v121, e122⟩ : ∃ v, v = A86 54 (fd 1) := ⟨_, rfl⟩
            have q123 : v75 = v121 := (e122.trans e110.symm).symm
            subst q123
            refine Exists.intro 59 (And.intro rfl (And.intro (And.intro i87 (And.intro j88 (And.intro (by (first | (clear hm hnf; omega) | omega)) (And.intro (by (first | (clear hm hnf; omega) | omega)) (And.intro (by rw [← e119]; omega) (And.intro (by rw [← e122]; omega) (And.intro g91 (by first | assumption | omega | simp_all)))))))) (fun A124 i125 j126 f127 r128 g132 g133 g129 g130 g131 => ?_)))
            replace hT := qlpc g130 g131 hT
            clear g130 g131
            have f134 := frm_c f99 f127 rfl
            have t135 : A124 71 (fd 8) = A86 71 (fd 8) := (frm_f f127 rfl)
            have t136 := ivf_at j126 1 rfl
            have t137 : A124 54 (fd 2) = A86 54 (fd 2) := (frm_f f127 rfl)
            have kk138 := KO_fr g91 f127 rfl
            refine And.intro (fun h139 => ?_) (fun h139 => ?_)
            · replace hT := (if_neg h139).symm.trans hT
              refine fun v140 e141 => ?_
              replace hT := qlc e141 hT
              obtain ⟨v142, e143⟩ : ∃ v, v = A124 54 (fd 0) := ⟨_, rfl⟩
              have q144 : v73 = v142 := (e143.trans ((frm_f f127 rfl).trans e119.symm)).symm
              subst q144
              obtain ⟨v145, e146⟩ : ∃ v, v = A124 54 (fd 1) := ⟨_, rfl⟩
              have q147 : v75 = v145 := (e146.trans ((frm_f f127 rfl).trans e122.symm)).symm
              subst q147
              exact And.intro (by (first | (clear hm hnf; omega) | omega)) (Exists.intro (15 - v140 : Int).toNat (And.intro (by first | exact qtn hm (by (try clear hm hnf); omega) | omega) (And.intro i125 (And.intro j126 (And.intro f134 (And.intro rfl (And.intro (by rw [← e143]; omega) (And.intro (by rw [← e146]; omega) (And.intro (by (first | (clear hm hnf; omega) | omega)) (And.intro (by (first | (clear hm hnf; omega) | omega)) (And.intro kk138 (And.intro (by (first | (clear hm hnf; omega) | omega)) (Exists.intro ng (And.intro (by first | exact qtm hm hnf (by (try clear hm hnf); omega) | omega) hT))))))))))))))
            · replace hT := (if_pos h139).symm.trans hT
              refine fun v148 gv148 e149 => ?_
              replace hT := qlc e149 hT
              exact hK _ i125 j126 f134 _ (by first | assumption | exact wI_rng _ | exact ⟨by (first | (clear hm hnf; omega) | omega), by (first | (clear hm hnf; omega) | omega)⟩ | exact i_rng _ | (subst_vars; exact i_rng _) | exact (hA _ _).2 rfl) kk138 (congrArg Prod.fst hT) (congrArg Prod.snd hT)
          · replace hT := (if_pos h117).symm.trans hT
            refine fun v150 gv150 e151 => ?_
            replace hT := qlc e151 hT
            have b152 := ivf_at j88 11 rfl
            exact hK _ i87 j88 f99 _ (by first | assumption | exact wI_rng _ | exact ⟨by (first | (clear hm hnf; omega) | omega), by (first | (clear hm hnf; omega) | omega)⟩ | exact i_rng _ | (subst_vars; exact i_rng _) | exact (hA _ _).2 rfl) g91 (congrArg Prod.fst hT) (congrArg Prod.snd hT)
  · refine fun A4 e5 => ?_
    replace hT := qlc e5 hT
    have i6 := iva_sf i0 e5 rfl
    have j7 := ivf_st j0 e5 trivial
    have f8 := frm_sf f0 e5 rfl
    have t9 : A4 71 (fd 8) = A 71 (fd 8) := (congrFun (st_a e5 rfl) _)
    have t10 : A4 54 (fd 3) = A 54 (fd 3) := (st_f e5 rfl)
    have t11 : A4 54 (fd 2) = A 54 (fd 2) := (st_f e5 rfl)
    have kk12 := KO_k p3 (st_a e5 rfl) (st_a e5 rfl) (st_a e5 rfl) (st_a e5 rfl)
    refine fun A13 e14 => ?_
    replace hT := qlc e14 hT
    have i15 := iva_sf i6 e14 rfl
    have j16 := ivf_st j7 e14 trivial
    have f17 := frm_sf f8 e14 rfl
    have t18 : A13 71 (fd 8) = A4 71 (fd 8) := (congrFun (st_a e14 rfl) _)
    have t19 : A13 54 (fd 3) = A4 54 (fd 3) := (st_f e14 rfl)
    have t20 : A13 54 (fd 2) = A4 54 (fd 2) := (st_f e14 rfl)
    have kk21 := KO_k kk12 (st_a e14 rfl) (st_a e14 rfl) (st_a e14 rfl) (st_a e14 rfl)
    refine fun A22 e23 => ?_
    replace hT := qlc e23 hT
    have i24 := iva_sf i15 e23 rfl
    have j25 := ivf_st j16 e23 (And.intro (by (first | (clear hm hnf; omega) | omega)) trivial)
    have f26 := frm_sf f17 e23 rfl
    have t27 : A22 71 (fd 8) = A13 71 (fd 8) := (congrFun (st_a e23 rfl) _)
    have t28 : A22 54 (fd 3) = A13 54 (fd 3) := (st_f e23 rfl)
    have t29 := st_v e23
    have kk30 := KO_k kk21 (st_a e23 rfl) (st_a e23 rfl) (st_a e23 rfl) (st_a e23 rfl)
    refine fun A31 e32 => ?_
    replace hT := qlc e32 hT
    have i33 := iva_sf i24 e32 rfl
    have j34 := ivf_st j25 e32 (And.intro (by (first | (clear hm hnf; omega) | omega)) trivial)
    have f35 := frm_sf f26 e32 rfl
    have t36 : A31 71 (fd 8) = A22 71 (fd 8) := (congrFun (st_a e32 rfl) _)
    have t37 := st_v e32
    have t38 : A31 54 (fd 2) = A22 54 (fd 2) := (st_f e32 rfl)
    have kk39 := KO_k kk30 (st_a e32 rfl) (st_a e32 rfl) (st_a e32 rfl) (st_a e32 rfl)
    refine fun A40 e41 => ?_
    replace hT := qlc e41 hT
    have i42 := iva_sf i33 e41 rfl
    have j43 := ivf_st j34 e41 trivial
    have f44 := frm_sf f35 e41 rfl
    have t45 : A40 71 (fd 8) = A31 71 (fd 8) := (congrFun (st_a e41 rfl) _)
    have t46 : A40 54 (fd 3) = A31 54 (fd 3) := (st_f e41 rfl)
    have t47 : A40 54 (fd 2) = A31 54 (fd 2) := (st_f e41 rfl)
    have kk48 := KO_k kk39 (st_a e41 rfl) (st_a e41 rfl) (st_a e41 rfl) (st_a e41 rfl)
    refine fun A49 e50 => ?_
    replace hT := qlc e50 hT
    have i51 := iva_sf i42 e50 rfl
    have j52 := ivf_st j43 e50 (And.intro (by (first | (clear hm hnf; omega) | omega)) trivial)
    have f53 := frm_sf f44 e50 rfl
    have t54 : A49 71 (fd 8) = A40 71 (fd 8) := (st_f e50 rfl)
    have t55 : A49 54 (fd 3) = A40 54 (fd 3) := (congrFun (st_a e50 rfl) _)
    have t56 : A49 54 (fd 2) = A40 54 (fd 2) := (congrFun (st_a e50 rfl) _)
    have kk57 := KO_k kk48 (st_a e50 rfl) (st_a e50 rfl) (st_a e50 rfl) (st_a e50 rfl)
    refine fun A58 e59 => ?_
    replace hT := qlc e59 hT
    have i60 := iva_sf i51 e59 rfl
    have j61 := ivf_st j52 e59 (And.intro (by (first | (clear hm hnf; omega) | omega)) trivial)
    have f62 := frm_sf f53 e59 rfl
    have t63 := st_v e59
    have t64 : A58 54 (fd 3) = A49 54 (fd 3) := (congrFun (st_a e59 rfl) _)
    have t65 : A58 54 (fd 2) = A49 54 (fd 2) := (congrFun (st_a e59 rfl) _)
    have kk66 := KO_k kk57 (st_a e59 rfl) (st_a e59 rfl) (st_a e59 rfl) (st_a e59 rfl)
    obtain ⟨v67, e68⟩ : ∃ v, v = A58 54 (fd 0) := ⟨_, rfl⟩
    have q69 : (52 : Int) = v67 := (e68.trans ((Eq.trans (Eq.trans (Eq.trans (Eq.trans (Eq.trans (congrFun (st_a e59 rfl) _) (congrFun (st_a e50 rfl) _)) (st_f e41 rfl)) (st_f e32 rfl)) (st_f e23 rfl)) (st_f e14 rfl)).trans (st_v e5))).symm
    subst q69
    obtain ⟨v70, e71⟩ : ∃ v, v = A58 54 (fd 1) := ⟨_, rfl⟩
    have q72 : (71 : Int) = v70 := (e71.trans ((Eq.trans (Eq.trans (Eq.trans (Eq.trans (congrFun (st_a e59 rfl) _) (congrFun (st_a e50 rfl) _)) (st_f e41 rfl)) (st_f e32 rfl)) (st_f e23 rfl)).trans (st_v e14))).symm
    subst q72
    exact Exists.intro (15 - 0 : Int).toNat (And.intro i60 (And.intro j61 (And.intro f62 (And.intro rfl (And.intro (by rw [← e68]; omega) (And.intro (by rw [← e71]; omega) (And.intro (by (first | (clear hm hnf; omega) | omega)) (And.intro (by (first | (clear hm hnf; omega) | omega)) (And.intro kk66 (And.intro (by (first | (clear hm hnf; omega) | omega)) (Exists.intro 100000 (And.intro (by (first | (clear hm hnf; omega) | omega)) hT))))))))))))
theorem pC_read_71 {n : Int} {A : qA} (hA : qokA LC A) (p0 : iva IC A) (p1 : ivf JC A) (p2 : 0 ≤ n) (p3 : n ≤ 200) (p4 : KO A) : qokA LC (fC_read_71 n A).2 ∧ iva IC (fC_read_71 n A).2 ∧ ivf JC (fC_read_71 n A).2 ∧ frm [72, 73, 74, 75, 76, 77] [(71, 7), (71, 8), (54, 3), (54, 4), (54, 0), (54, 1), (54, 2)] A (fC_read_71 n A).2 ∧ rng (fC_read_71 n A).1 ∧ (KO (fC_read_71 n A).2) := by
  obtain ⟨r, B, hB, _, hk⟩ := okM_ex okC_read_71 (as := [rf 54, rf 52, ni n, rf 71]) (K := fun _ B => B = (fC_read_71 n A).2 ∧ iva IC (fC_read_71 n A).2 ∧ ivf JC (fC_read_71 n A).2 ∧ frm [72, 73, 74, 75, 76, 77] [(71, 7), (71, 8), (54, 3), (54, 4), (54, 0), (54, 1), (54, 2)] A (fC_read_71 n A).2 ∧ rng (fC_read_71 n A).1 ∧ (KO (fC_read_71 n A).2)) hA (qoks_c (show qok (rf _) from trivial) (qoks_c (show qok (rf _) from trivial) (qoks_c (show rng n from ⟨by (first | (clear hm hnf; omega) | omega), by (first | (clear hm hnf; omega) | omega)⟩) (qoks_c (show qok (rf _) from trivial) qoks_n)))) ⟨n, rfl, ⟨p0, p1, p2, p3, p4⟩, fun A9 i9 j9 f9 r9 g9 x0 x1 x2 => (by rw [← x2]; (try rw [← x1]); exact ⟨rfl, i9, j9, f9, g9, x0⟩)⟩
  exact ⟨hk.1 ▸ hB, hk.2⟩
def fC_law_71 (n : Int) (A : qA) : Int × qA := (if n < 1 then ((-1), A) else (if 200 < n then ((-1), A) else qlet (A 52 (fd 1)) fun v22 => (if v22 < n then ((-1), A) else qlp (fC_read_71 n A) fun r33 A29 => qlet (qu A29 52 (fd 1) 0) fun A42 => (if r33 < 0 then (r33, A42) else qlet (qu A42 34 (fd 4) (71 : Int)) fun A64 => qlet (qu A64 0 (fd 10) (36 : Int)) fun A73 => (r33, A73)))))
def sC_law_71 : qS := fun as A K => ∃ n : Int, as = [rf 0, ni n] ∧ (iva IC A ∧ ivf JC A ∧ (71 ≤ A 0 (fd 10) ∧ A 0 (fd 10) ≤ 71) ∧ (36 ≤ A 34 (fd 4) ∧ A 34 (fd 4) ≤ 36) ∧ (KO A)) ∧ (∀ A' : qA, iva IC A' → ivf JC A' → frm [72, 73, 74, 75, 76, 77] [(71, 7), (71, 8), (54, 3), (54, 4), (54, 0), (54, 1), (54, 2), (52, 1), (0, 10), (34, 4)] A A' → ∀ r : Int, rng r → (KO A') → (LD A') → (r = (fC_law_71 n A).1) → (A' = (fC_law_71 n A).2) → K (some (ni r)) A')
theorem okC_law_71 : okM LC 46 104 sC_law_71 := by
  refine qmeth [(54, 0, 52), (54, 1, 71), (0, 10, 71), (34, 4, 36)] false [(45, sC_read_71)] 48 rfl ⟨okC_read_71.le (by decide), trivial⟩ ?_
  rintro _ A K hA has ⟨n, rfl, ⟨i0, j0, p1, p2, p3⟩, hK⟩
  have rg_n : rng n := has (ni n) (by simp)
  have f0 := frm_0 [72, 73, 74, 75, 76, 77] [(71, 7), (71, 8), (54, 3), (54, 4), (54, 0), (54, 1), (54, 2), (52, 1), (0, 10), (34, 4)] A
  obtain ⟨v4, e5⟩ : ∃ v, v = A 0 (fd 10) := ⟨_, rfl⟩
  rw [← e5] at p1
  obtain ⟨v6, e7⟩ : ∃ v, v = A 34 (fd 4) := ⟨_, rfl⟩
  rw [← e7] at p2
  have pf0 := PF_rf 71 A
  have hb_71_8 := ivf_at j0 12 rfl
  have hb_54_3 := ivf_at j0 1 rfl
  have hb_54_2 := ivf_at j0 0 rfl
  have hT : _ = fC_law_71 n A := (fC_law_71.eq_1 n A).symm
  refine ⟨Nat.le_of_ble_eq_true rfl, [], trivial, ?_⟩
  refine And.intro (fun h8 => ?_) (fun h8 => ?_)
  · replace hT := (if_pos h8).symm.trans hT
    obtain ⟨v9, e10⟩ : ∃ v, v = A 34 (fd 4) := ⟨_, rfl⟩
    have q11 : v6 = v9 := (e10.trans e7.symm).symm
    subst q11
    obtain ⟨v12, e13⟩ : ∃ v, v = A 0 (fd 10) := ⟨_, rfl⟩
    have q14 : v4 = v12 := (e13.trans e5.symm).symm
    subst q14
    exact hK _ i0 j0 f0 _ (by first | assumption | exact wI_rng _ | exact ⟨by (first | (clear hm hnf; omega) | omega), by (first | (clear hm hnf; omega) | omega)⟩ | exact i_rng _ | (subst_vars; exact i_rng _) | exact (hA _ _).2 rfl) p3 (by first | assumption | (unfold LD; omega)) (congrArg Prod.fst hT) (congrArg Prod.snd hT)
  · replace hT := (if_neg (Int.not_lt.mpr h8)).symm.trans hT
    refine And.intro (fun h15 => ?_) (fun h15 => ?_)
    · replace hT := (if_pos h15).symm.trans hT
      obtain ⟨v16, e17⟩ : ∃ v, v = A 34 (fd 4) := ⟨_, rfl⟩
      have q18 : v6 = v16 := (e17.trans e7.symm).symm
      subst q18
      obtain ⟨v19, e20⟩ : ∃ v, v = A 0 (fd 10) := ⟨_, rfl⟩
      have q21 : v4 = v19 := (e20.trans e5.symm).symm
      subst q21
      exact hK _ i0 j0 f0 _ (by first | assumption | exact wI_rng _ | exact ⟨by (first | (clear hm hnf; omega) | omega), by (first | (clear hm hnf; omega) | omega)⟩ | exact i_rng _ | (subst_vars; exact i_rng _) | exact (hA _ _).2 rfl) p3 (by first | assumption | (unfold LD; omega)) (congrArg Prod.fst hT) (congrArg Prod.snd hT)
    · replace hT := (if_neg (Int.not_lt.mpr h15)).symm.trans hT
      refine fun v22 gv22 e23 => ?_
      replace hT := qlc e23 hT
      have b24 := ivf_at j0 3 rfl
      refine And.intro (fun h25 => ?_) (fun h25 => ?_)
      · replace hT := (if_neg (Int.not_lt.mpr h25)).symm.trans hT
        obtain ⟨v26, e27⟩ : ∃ v, v = A 0 (fd 10) := ⟨_, rfl⟩
        have q28 : v4 = v26 := (e27.trans e5.symm).symm
        subst q28
        refine And.intro (show A 0 (fd 10) = ((71 : Nat) : Int) by (first | (clear hm hnf; omega) | omega)) ?_
        refine Exists.intro n (And.intro rfl (And.intro (And.intro i0 (And.intro j0 (And.intro (by (first | (clear hm hnf; omega) | omega)) (And.intro (by (first | (clear hm hnf; omega) | omega)) p3)))) (fun A29 i30 j31 f32 r33 g37 g34 g35 g36 => ?_)))
        replace hT := qlpc g35 g36 hT
        clear g35 g36
        have f38 := frm_c f0 f32 rfl
        have t39 := ivf_at j31 12 rfl
        have t40 := ivf_at j31 1 rfl
        have t41 := ivf_at j31 0 rfl
        refine fun A42 e43 => ?_
        replace hT := qlc e43 hT
        have i44 := iva_sf i30 e43 rfl
        have j45 := ivf_st j31 e43 (And.intro (by (first | (clear hm hnf; omega) | omega)) trivial)
        have f46 := frm_sf f38 e43 rfl
        have t47 : A42 71 (fd 8) = A29 71 (fd 8) := (congrFun (st_a e43 rfl) _)
        have t48 : A42 54 (fd 3) = A29 54 (fd 3) := (congrFun (st_a e43 rfl) _)
        have t49 : A42 54 (fd 2) = A29 54 (fd 2) := (congrFun (st_a e43 rfl) _)
        have kk50 := KO_k g34 (st_a e43 rfl) (st_a e43 rfl) (st_a e43 rfl) (st_a e43 rfl)
        refine And.intro (fun h51 => ?_) (fun h51 => ?_)
        · replace hT := (if_pos h51).symm.trans hT
          obtain ⟨v52, e53⟩ : ∃ v, v = A42 34 (fd 4) := ⟨_, rfl⟩
          have q54 : v6 = v52 := (e53.trans ((Eq.trans (congrFun (st_a e43 rfl) _) (frm_f f32 rfl)).trans e7.symm)).symm
          subst q54
          obtain ⟨v55, e56⟩ : ∃ v, v = A42 0 (fd 10) := ⟨_, rfl⟩
          have q57 : v4 = v55 := (e56.trans ((Eq.trans (congrFun (st_a e43 rfl) _) (frm_f f32 rfl)).trans e27.symm)).symm
          subst q57
          exact hK _ i44 j45 f46 _ (by first | assumption | exact wI_rng _ | exact ⟨by (first | (clear hm hnf; omega) | omega), by (first | (clear hm hnf; omega) | omega)⟩ | exact i_rng _ | (subst_vars; exact i_rng _) | exact (hA _ _).2 rfl) kk50 (by first | assumption | (unfold LD; omega)) (congrArg Prod.fst hT) (congrArg Prod.snd hT)
        · replace hT := (if_neg (Int.not_lt.mpr h51)).symm.trans hT
          obtain ⟨v58, e59⟩ : ∃ v, v = A42 34 (fd 4) := ⟨_, rfl⟩
          have q60 : v6 = v58 := (e59.trans ((Eq.trans (congrFun (st_a e43 rfl) _) (frm_f f32 rfl)).trans e7.symm)).symm
          subst q60
          refine And.intro (show A42 34 (fd 4) = ((36 : Nat) : Int) by (first | (clear hm hnf; omega) | omega)) ?_
          obtain ⟨v61, e62⟩ : ∃ v, v = A42 0 (fd 10) := ⟨_, rfl⟩
          have q63 : v4 = v61 := (e62.trans ((Eq.trans (congrFun (st_a e43 rfl) _) (frm_f f32 rfl)).trans e27.symm)).symm
          subst q63
          refine And.intro (show A42 0 (fd 10) = ((71 : Nat) : Int) by (first | (clear hm hnf; omega) | omega)) ?_
          refine fun A64 e65 => ?_
          replace hT := qlc e65 hT
          have i66 := iva_sf i44 e65 rfl
          have j67 := ivf_st j45 e65 trivial
          have f68 := frm_sf f46 e65 rfl
          have t69 : A64 71 (fd 8) = A42 71 (fd 8) := (congrFun (st_a e65 rfl) _)
          have t70 : A64 54 (fd 3) = A42 54 (fd 3) := (congrFun (st_a e65 rfl) _)
          have t71 : A64 54 (fd 2) = A42 54 (fd 2) := (congrFun (st_a e65 rfl) _)
          have kk72 := KO_k kk50 (st_a e65 rfl) (st_a e65 rfl) (st_a e65 rfl) (st_a e65 rfl)
          refine fun A73 e74 => ?_
          replace hT := qlc e74 hT
          have i75 := iva_sf i66 e74 rfl
          have j76 := ivf_st j67 e74 trivial
          have f77 := frm_sf f68 e74 rfl
          have t78 : A73 71 (fd 8) = A64 71 (fd 8) := (congrFun (st_a e74 rfl) _)
          have t79 : A73 54 (fd 3) = A64 54 (fd 3) := (congrFun (st_a e74 rfl) _)
          have t80 : A73 54 (fd 2) = A64 54 (fd 2) := (congrFun (st_a e74 rfl) _)
          have kk81 := KO_k kk72 (st_a e74 rfl) (st_a e74 rfl) (st_a e74 rfl) (st_a e74 rfl)
          obtain ⟨v82, e83⟩ : ∃ v, v = A73 34 (fd 4) := ⟨_, rfl⟩
          have q84 : (71 : Int) = v82 := (e83.trans ((congrFun (st_a e74 rfl) _).trans (st_v e65))).symm
          subst q84
          obtain ⟨v85, e86⟩ : ∃ v, v = A73 0 (fd 10) := ⟨_, rfl⟩
          have q87 : (36 : Int) = v85 := (e86.trans (st_v e74)).symm
          subst q87
          exact hK _ i75 j76 f77 _ (by first | assumption | exact wI_rng _ | exact ⟨by (first | (clear hm hnf; omega) | omega), by (first | (clear hm hnf; omega) | omega)⟩ | exact i_rng _ | (subst_vars; exact i_rng _) | exact (hA _ _).2 rfl) kk81 (by first | assumption | (unfold LD; omega)) (congrArg Prod.fst hT) (congrArg Prod.snd hT)
      · replace hT := (if_pos h25).symm.trans hT
        obtain ⟨v88, e89⟩ : ∃ v, v = A 34 (fd 4) := ⟨_, rfl⟩
        have q90 : v6 = v88 := (e89.trans e7.symm).symm
        subst q90
        obtain ⟨v91, e92⟩ : ∃ v, v = A 0 (fd 10) := ⟨_, rfl⟩
        have q93 : v4 = v91 := (e92.trans e5.symm).symm
        subst q93
        exact hK _ i0 j0 f0 _ (by first | assumption | exact wI_rng _ | exact ⟨by (first | (clear hm hnf; omega) | omega), by (first | (clear hm hnf; omega) | omega)⟩ | exact i_rng _ | (subst_vars; exact i_rng _) | exact (hA _ _).2 rfl) p3 (by first | assumption | (unfold LD; omega)) (congrArg Prod.fst hT) (congrArg Prod.snd hT)
theorem pC_law_71 {n : Int} {A : qA} (hA : qokA LC A) (rg_n : rng n) (p0 : iva IC A) (p1 : ivf JC A) (p2 : (71 ≤ A 0 (fd 10) ∧ A 0 (fd 10) ≤ 71)) (p3 : (36 ≤ A 34 (fd 4) ∧ A 34 (fd 4) ≤ 36)) (p4 : KO A) : qokA LC (fC_law_71 n A).2 ∧ iva IC (fC_law_71 n A).2 ∧ ivf JC (fC_law_71 n A).2 ∧ frm [72, 73, 74, 75, 76, 77] [(71, 7), (71, 8), (54, 3), (54, 4), (54, 0), (54, 1), (54, 2), (52, 1), (0, 10), (34, 4)] A (fC_law_71 n A).2 ∧ rng (fC_law_71 n A).1 ∧ (KO (fC_law_71 n A).2) ∧ (LD (fC_law_71 n A).2) := by
  obtain ⟨r, B, hB, _, hk⟩ := okM_ex okC_law_71 (as := [rf 0, ni n]) (K := fun _ B => B = (fC_law_71 n A).2 ∧ iva IC (fC_law_71 n A).2 ∧ ivf JC (fC_law_71 n A).2 ∧ frm [72, 73, 74, 75, 76, 77] [(71, 7), (71, 8), (54, 3), (54, 4), (54, 0), (54, 1), (54, 2), (52, 1), (0, 10), (34, 4)] A (fC_law_71 n A).2 ∧ rng (fC_law_71 n A).1 ∧ (KO (fC_law_71 n A).2) ∧ (LD (fC_law_71 n A).2)) hA (qoks_c (show qok (rf _) from trivial) (qoks_c (rg_n) qoks_n)) ⟨n, rfl, ⟨p0, p1, p2, p3, p4⟩, fun A9 i9 j9 f9 r9 g9 x0 x1 x2 x3 => (by rw [← x3]; (try rw [← x2]); exact ⟨rfl, i9, j9, f9, g9, x0, x1⟩)⟩
  exact ⟨hk.1 ▸ hB, hk.2⟩
