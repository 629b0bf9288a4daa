/-! the reference's clauses -/
def WS (A : qA) : Prop := ∀ q, 0 ≤ q → q < A 0 (fd 33) → SEG (fun _ => A 23) (A 26 q) (A 27 q) ∧ SEG (fun _ => A 23) (A 27 q) (A 28 q) ∧ A 28 q ≤ A 0 (fd 31)
theorem SEG_e {A : qA} {f t f' t' : Int} (h : SEG A f t) (hf : f' = f) (ht : t' = t) : SEG A f' t' := by
  subst hf ht
  exact h
theorem SEG_b {A : qA} {f t : Int} (h : SEG A f t) : 0 ≤ f ∧ f ≤ t := by
  obtain ⟨δ, a, b, d, g, h⟩ := h
  exact ⟨a, d.1⟩
theorem WS_k {A A' : qA} (h : WS A) (h23 : A' 23 = A 23) (h26 : A' 26 = A 26) (h27 : A' 27 = A 27) (h28 : A' 28 = A 28) (h33 : A' 0 (fd 33) = A 0 (fd 33)) (h31 : A 0 (fd 31) ≤ A' 0 (fd 31)) : WS A' := by
  intro q h0 h1
  rw [h33] at h1
  have hq := h q h0 h1
  rw [h23, h26, h27, h28]
  exact ⟨hq.1, hq.2.1, by (first | (clear hm hnf; omega) | omega)⟩
theorem WS_1 {A A' : qA} {a b t : Int} (hw : WS A) (h23 : ∀ k, k < A 0 (fd 31) → A' 23 k = A 23 k) (h26 : A' 26 = (fun i : Int => if i = A 0 (fd 33) then a else A 26 i)) (h27 : A' 27 = (fun i : Int => if i = A 0 (fd 33) then b else A 27 i)) (h28 : A' 28 = (fun i : Int => if i = A 0 (fd 33) then t else A 28 i)) (h33 : A' 0 (fd 33) = A 0 (fd 33) + 1) (s1 : SEG (fun _ => A' 23) a b) (s2 : SEG (fun _ => A' 23) b t) (ht : t ≤ A' 0 (fd 31)) (hm : A 0 (fd 31) ≤ A' 0 (fd 31)) : WS A' := by
  intro q h0 h1
  by_cases hq : q = A 0 (fd 33)
  · rw [h26, h27, h28]
    simp only [hq, if_true]
    exact ⟨s1, s2, ht⟩
  · rw [h26, h27, h28]
    simp only [if_neg hq]
    have hs := hw q h0 (by (first | (clear hm hnf; omega) | omega))
    have b1 := SEG_b hs.1
    have b2 := SEG_b hs.2.1
    exact ⟨SEG_c hs.1 (fun k _ k1 => h23 k (by (first | (clear hm hnf; omega) | omega))), SEG_c hs.2.1 (fun k _ k1 => h23 k (by (first | (clear hm hnf; omega) | omega))), by (first | (clear hm hnf; omega) | omega)⟩
theorem WF_k {A A' : qA} (h : WF A) (h29 : A' 29 = A 29) (h31 : A' 31 = A 31) (h32 : A' 32 = A 32) (h33 : A' 33 = A 33) (h35 : A' 0 (fd 35) = A 0 (fd 35)) : WF A' := by
  intro q h0 h1
  rw [h35] at h1
  have hq := h q h0 h1
  rw [h31, h32, h33]
  exact ⟨SEG_k hq.1 h29, SEG_k hq.2 h29⟩
theorem WF_of {A : qA} (hw : WS A) (h35 : A 0 (fd 35) = A 0 (fd 33)) (h29 : ∀ i, 0 ≤ i → i < A 0 (fd 31) → A 29 i = A 23 i) (h3 : ∀ i, 0 ≤ i → i < A 0 (fd 33) → A 31 i = A 26 i ∧ A 32 i = A 27 i ∧ A 33 i = A 28 i) : WF A := by
  intro q h0 h1
  rw [h35] at h1
  have hs := hw q h0 h1
  have h4 := h3 q h0 h1
  rw [h4.1, h4.2.1, h4.2.2]
  have b1 := SEG_b hs.1
  have b2 := SEG_b hs.2.1
  exact ⟨SEG_of hs.1 (fun k k0 k1 => h29 k (by (first | (clear hm hnf; omega) | omega)) (by (first | (clear hm hnf; omega) | omega))), SEG_of hs.2.1 (fun k k0 k1 => h29 k (by (first | (clear hm hnf; omega) | omega)) (by (first | (clear hm hnf; omega) | omega)))⟩
def fM_readsClause (A : qA) : Int × qA := qlet (fM_here A) fun r3 => qlet (fM_canBegin r3 A) fun r9 => (if r9 = 0 then qlet (A 0 (fd 27)) fun v190 => qlet (fM_wrongAt 1 v190 A) fun A193 => (0, A193) else qlet (A 0 (fd 33)) fun v15 => (if v15 = 14 then qlet (A 0 (fd 27)) fun v175 => qlet (fM_wrongAt 4 v175 A) fun A178 => (0, A178) else qlet (A 0 (fd 33)) fun v19 => qlet (qu A 25 v15 r3) fun A23 => qlet (A23 0 (fd 27)) fun v33 => qlet (v33 + 1) fun v36 => qlet (qu A23 0 (fd 27) v36) fun A38 => qlet (A38 0 (fd 33)) fun v48 => qlet (A38 0 (fd 31)) fun v52 => qlet (qu A38 26 v15 v52) fun A55 => qlet (qu A55 0 (fd 30) 0) fun A65 => qlet (qu A65 0 (fd 32) 0) fun A75 => qlp (fM_readsSum A75) fun r91 A87 => (if r91 = 0 then (0, A87) else qlet (A87 0 (fd 33)) fun v106 => qlet (A87 0 (fd 31)) fun v110 => qlet (qu A87 27 v15 v110) fun A113 => qlp (fM_readsCondition A113) fun r127 A123 => (if r127 = 0 then (0, A123) else qlet (A123 0 (fd 33)) fun v142 => qlet (A123 0 (fd 31)) fun v146 => qlet (qu A123 28 v15 v146) fun A149 => qlet (A149 0 (fd 33)) fun v159 => qlet (v15 + 1) fun v163 => qlet (qu A149 0 (fd 33) v163) fun A165 => (1, A165)))))
def sM_readsClause : qS := fun as A K => as = [rf 0] ∧ (iva IM A ∧ ivf JM A ∧ (WS A) ∧ (A 0 (fd 31) ≤ A 0 (fd 27))) ∧ (∀ A' : qA, iva IM A' → ivf JM A' → frm [23, 24, 25, 26, 27, 28] [(0, 27), (0, 29), (0, 30), (0, 31), (0, 32), (0, 34), (0, 33)] A A' → ∀ r : Int, 0 ≤ r → r ≤ 1 → (r = 0 ∨ WS A') → (r = 0 ∨ A' 0 (fd 31) ≤ A' 0 (fd 27)) → (r = 0 ∨ A 0 (fd 27) < A' 0 (fd 27)) → (r = (fM_readsClause A).1) → (A' = (fM_readsClause A).2) → K (some (ni r)) A')
theorem okM_readsClause : okM LM 8 182 sM_readsClause := by
  refine qmeth [] false [(162, sM_here), (181, sM_canBegin), (175, sM_readsSum), (180, sM_readsCondition), (164, sM_wrongAt)] 85 rfl ⟨okM_here.le (by decide), ⟨okM_canBegin.le (by decide), ⟨okM_readsSum.le (by decide), ⟨okM_readsCondition.le (by decide), ⟨okM_wrongAt.le (by decide), trivial⟩⟩⟩⟩⟩ ?_
  rintro _ A K hA has ⟨rfl, ⟨i0, j0, p1, p2⟩, hK⟩
  have f0 := frm_0 [23, 24, 25, 26, 27, 28] [(0, 27), (0, 29), (0, 30), (0, 31), (0, 32), (0, 34), (0, 33)] A
  have hb_0_27 := ivf_at j0 6 rfl
  have hb_0_28 := ivf_at j0 7 rfl
  have hb_0_31 := ivf_at j0 8 rfl
  have hb_0_32 := ivf_at j0 9 rfl
  have hb_0_33 := ivf_at j0 4 rfl
  have hT : _ = fM_readsClause A := (fM_readsClause.eq_1 A).symm
  refine ⟨Nat.le_of_ble_eq_true rfl, [], trivial, ?_⟩
  refine And.intro rfl (And.intro (And.intro i0 j0) (fun r3 g7 g8 g4 g5 g6 => ?_))
  replace hT := qlc g6 hT
  clear g6
  refine Exists.intro r3 (And.intro rfl (fun r9 g12 g13 g10 g11 => ?_))
  replace hT := qlc g11 hT
  clear g11
  refine And.intro (fun h14 => ?_) (fun h14 => ?_)
  · replace hT := (if_neg h14).symm.trans hT
    refine fun v15 gv15 e16 => ?_
    replace hT := qlc e16 hT
    have b17 := ivf_at j0 4 rfl
    refine And.intro (fun h18 => ?_) (fun h18 => ?_)
    · replace hT := (if_neg h18).symm.trans hT
      refine fun v19 gv19 e20 => ?_
      replace hT := qlc e20 hT
      have b21 := ivf_at j0 4 rfl
      have q22 : v15 = v19 := (e20.trans e16.symm).symm
      subst q22
      refine And.intro (by (first | (clear hm hnf; omega) | omega)) (fun A23 e24 => ?_)
      replace hT := qlc e24 hT
      have i25 := iva_st i0 e24 trivial
      have j26 := ivf_sa j0 e24 rfl
      have f27 := frm_s f0 e24 rfl
      have t28 : A23 0 (fd 27) = A 0 (fd 27) := (congrFun (st_a e24 rfl) _)
      have t29 : A23 0 (fd 28) = A 0 (fd 28) := (congrFun (st_a e24 rfl) _)
      have t30 : A23 0 (fd 31) = A 0 (fd 31) := (congrFun (st_a e24 rfl) _)
      have t31 : A23 0 (fd 32) = A 0 (fd 32) := (congrFun (st_a e24 rfl) _)
      have t32 : A23 0 (fd 33) = A 0 (fd 33) := (congrFun (st_a e24 rfl) _)
      refine fun v33 gv33 e34 => ?_
      replace hT := qlc e34 hT
      have b35 := ivf_at j26 6 rfl
      refine fun v36 e37 => ?_
      replace hT := qlc e37 hT
      refine And.intro (by (first | (clear hm hnf; omega) | omega)) (fun A38 e39 => ?_)
      replace hT := qlc e39 hT
      have i40 := iva_sf i25 e39 rfl
      have j41 := ivf_st j26 e39 (And.intro (by (first | (clear hm hnf; omega) | omega)) trivial)
      have f42 := frm_sf f27 e39 rfl
      have t43 := st_v e39
      have t44 : A38 0 (fd 28) = A23 0 (fd 28) := (st_f e39 rfl)
      have t45 : A38 0 (fd 31) = A23 0 (fd 31) := (st_f e39 rfl)
      have t46 : A38 0 (fd 32) = A23 0 (fd 32) := (st_f e39 rfl)
      have t47 : A38 0 (fd 33) = A23 0 (fd 33) := (st_f e39 rfl)
      refine fun v48 gv48 e49 => ?_
      replace hT := qlc e49 hT
      have b50 := ivf_at j41 4 rfl
      have q51 : v15 = v48 := (e49.trans ((Eq.trans (st_f e39 rfl) (congrFun (st_a e24 rfl) _)).trans e20.symm)).symm
      subst q51
      refine fun v52 gv52 e53 => ?_
      replace hT := qlc e53 hT
      have b54 := ivf_at j41 8 rfl
      refine And.intro (by (first | (clear hm hnf; omega) | omega)) (fun A55 e56 => ?_)
      replace hT := qlc e56 hT
      have i57 := iva_st i40 e56 (And.intro (by (first | (clear hm hnf; omega) | omega)) trivial)
      have j58 := ivf_sa j41 e56 rfl
      have f59 := frm_s f42 e56 rfl
      have t60 : A55 0 (fd 27) = A38 0 (fd 27) := (congrFun (st_a e56 rfl) _)
      have t61 : A55 0 (fd 28) = A38 0 (fd 28) := (congrFun (st_a e56 rfl) _)
      have t62 : A55 0 (fd 31) = A38 0 (fd 31) := (congrFun (st_a e56 rfl) _)
      have t63 : A55 0 (fd 32) = A38 0 (fd 32) := (congrFun (st_a e56 rfl) _)
      have t64 : A55 0 (fd 33) = A38 0 (fd 33) := (congrFun (st_a e56 rfl) _)
      refine fun A65 e66 => ?_
      replace hT := qlc e66 hT
      have i67 := iva_sf i57 e66 rfl
      have j68 := ivf_st j58 e66 trivial
      have f69 := frm_sf f59 e66 rfl
      have t70 : A65 0 (fd 27) = A55 0 (fd 27) := (st_f e66 rfl)
      have t71 : A65 0 (fd 28) = A55 0 (fd 28) := (st_f e66 rfl)
      have t72 : A65 0 (fd 31) = A55 0 (fd 31) := (st_f e66 rfl)
      have t73 : A65 0 (fd 32) = A55 0 (fd 32) := (st_f e66 rfl)
      have t74 : A65 0 (fd 33) = A55 0 (fd 33) := (st_f e66 rfl)
      refine fun A75 e76 => ?_
      replace hT := qlc e76 hT
      have i77 := iva_sf i67 e76 rfl
      have j78 := ivf_st j68 e76 (And.intro (by (first | (clear hm hnf; omega) | omega)) trivial)
      have f79 := frm_sf f69 e76 rfl
      have t80 : A75 0 (fd 27) = A65 0 (fd 27) := (st_f e76 rfl)
      have t81 : A75 0 (fd 28) = A65 0 (fd 28) := (st_f e76 rfl)
      have t82 : A75 0 (fd 31) = A65 0 (fd 31) := (st_f e76 rfl)
      have t83 := st_v e76
      have t84 : A75 0 (fd 33) = A65 0 (fd 33) := (st_f e76 rfl)
      have ps85 : PS A75 (A 23) (A 0 (fd 31)) 0 0 0 := PS_0 (Eq.trans (Eq.trans (Eq.trans (Eq.trans (st_a e76 rfl) (st_a e66 rfl)) (st_a e56 rfl)) (st_a e39 rfl)) (st_a e24 rfl)) (by (first | (clear hm hnf; omega) | omega)) (by (first | (clear hm hnf; omega) | omega)) (by (first | (clear hm hnf; omega) | omega)) (by (first | (clear hm hnf; omega) | omega))
      have z86 := PS_bd ps85
      refine Exists.intro (A 23) (Exists.intro (A 0 (fd 31)) (Exists.intro 0 (Exists.intro 0 (And.intro rfl (And.intro (And.intro i77 (And.intro j78 (And.intro (PS_kA ps85 rfl rfl (by (first | (clear hm hnf; omega) | omega))) (And.intro (by first | assumption | omega | simp_all) (by first | assumption | omega | simp_all))))) (fun A87 i88 j89 f90 r91 g97 g98 g92 g93 g94 g95 g96 => ?_))))))
      replace hT := qlpc g95 g96 hT
      clear g95 g96
      have f99 := frm_c f79 f90 rfl
      have t100 := ivf_at j89 6 rfl
      have t101 : A87 0 (fd 28) = A75 0 (fd 28) := (frm_f f90 rfl)
      have t102 := ivf_at j89 8 rfl
      have t103 := ivf_at j89 9 rfl
      have t104 : A87 0 (fd 33) = A75 0 (fd 33) := (frm_f f90 rfl)
      refine And.intro (fun h105 => ?_) (fun h105 => ?_)
      · replace hT := (if_neg h105).symm.trans hT
        have sg1 := PS_seg (Or.resolve_left g92 (by (first | (clear hm hnf; omega) | omega))) (by (first | (clear hm hnf; omega) | omega)) (by have q9 := PS_bd (Or.resolve_left g92 (by (first | (clear hm hnf; omega) | omega))); omega)
        have cz1 := PS_c0 (Or.resolve_left g92 (by (first | (clear hm hnf; omega) | omega)))
        have zb1 := PS_bd (Or.resolve_left g92 (by (first | (clear hm hnf; omega) | omega)))
        refine fun v106 gv106 e107 => ?_
        replace hT := qlc e107 hT
        have b108 := ivf_at j89 4 rfl
        have q109 : v15 = v106 := (e107.trans ((Eq.trans (Eq.trans (Eq.trans (frm_f f90 rfl) (st_f e76 rfl)) (st_f e66 rfl)) (congrFun (st_a e56 rfl) _)).trans e49.symm)).symm
        subst q109
        refine fun v110 gv110 e111 => ?_
        replace hT := qlc e111 hT
        have b112 := ivf_at j89 8 rfl
        refine And.intro (by (first | (clear hm hnf; omega) | omega)) (fun A113 e114 => ?_)
        replace hT := qlc e114 hT
        have i115 := iva_st i88 e114 (And.intro (by (first | (clear hm hnf; omega) | omega)) trivial)
        have j116 := ivf_sa j89 e114 rfl
        have f117 := frm_s f99 e114 rfl
        have t118 : A113 0 (fd 27) = A87 0 (fd 27) := (congrFun (st_a e114 rfl) _)
        have t119 : A113 0 (fd 28) = A87 0 (fd 28) := (congrFun (st_a e114 rfl) _)
        have t120 : A113 0 (fd 31) = A87 0 (fd 31) := (congrFun (st_a e114 rfl) _)
        have t121 : A113 0 (fd 32) = A87 0 (fd 32) := (congrFun (st_a e114 rfl) _)
        have t122 : A113 0 (fd 33) = A87 0 (fd 33) := (congrFun (st_a e114 rfl) _)
        have cy1 : ∀ k, k < A 0 (fd 31) → A113 23 k = A 23 k := fun k hk => (congrFun (st_a e114 rfl) k).trans (cz1 k hk)
        have sy1 : SEG (fun _ => A113 23) (A 0 (fd 31)) (A113 0 (fd 31)) := SEG_e (SEG_c sg1 (fun k _ _ => congrFun (st_a e114 rfl) k)) rfl (by (first | (clear hm hnf; omega) | omega))
        refine And.intro rfl (And.intro (And.intro i115 (And.intro j116 (by first | assumption | omega | simp_all))) (fun A123 i124 j125 f126 r127 g133 g134 g128 g129 g130 g131 g132 => ?_))
        replace hT := qlpc g131 g132 hT
        clear g131 g132
        have f135 := frm_c f117 f126 rfl
        have t136 := ivf_at j125 6 rfl
        have t137 : A123 0 (fd 28) = A113 0 (fd 28) := (frm_f f126 rfl)
        have t138 := ivf_at j125 8 rfl
        have t139 := ivf_at j125 9 rfl
        have t140 : A123 0 (fd 33) = A113 0 (fd 33) := (frm_f f126 rfl)
        refine And.intro (fun h141 => ?_) (fun h141 => ?_)
        · replace hT := (if_neg h141).symm.trans hT
          have sg2 := PS_seg (Or.resolve_left g128 (by (first | (clear hm hnf; omega) | omega))) (by (first | (clear hm hnf; omega) | omega)) (by have q9 := PS_bd (Or.resolve_left g128 (by (first | (clear hm hnf; omega) | omega))); omega)
          have cz2 := PS_c0 (Or.resolve_left g128 (by (first | (clear hm hnf; omega) | omega)))
          have zb2 := PS_bd (Or.resolve_left g128 (by (first | (clear hm hnf; omega) | omega)))
          have cy2 : ∀ k, k < A 0 (fd 31) → A123 23 k = A 23 k := fun k hk => (cz2 k (by (first | (clear hm hnf; omega) | omega))).trans (cy1 k hk)
          have sy2 := SEG_c sy1 (fun k _ h1 => cz2 k h1)
          refine fun v142 gv142 e143 => ?_
          replace hT := qlc e143 hT
          have b144 := ivf_at j125 4 rfl
          have q145 : v15 = v142 := (e143.trans ((Eq.trans (frm_f f126 rfl) (congrFun (st_a e114 rfl) _)).trans e107.symm)).symm
          subst q145
          refine fun v146 gv146 e147 => ?_
          replace hT := qlc e147 hT
          have b148 := ivf_at j125 8 rfl
          refine And.intro (by (first | (clear hm hnf; omega) | omega)) (fun A149 e150 => ?_)
          replace hT := qlc e150 hT
          have i151 := iva_st i124 e150 (And.intro (by (first | (clear hm hnf; omega) | omega)) trivial)
          have j152 := ivf_sa j125 e150 rfl
          have f153 := frm_s f135 e150 rfl
          have t154 : A149 0 (fd 27) = A123 0 (fd 27) := (congrFun (st_a e150 rfl) _)
          have t155 : A149 0 (fd 28) = A123 0 (fd 28) := (congrFun (st_a e150 rfl) _)
          have t156 : A149 0 (fd 31) = A123 0 (fd 31) := (congrFun (st_a e150 rfl) _)
          have t157 : A149 0 (fd 32) = A123 0 (fd 32) := (congrFun (st_a e150 rfl) _)
          have t158 : A149 0 (fd 33) = A123 0 (fd 33) := (congrFun (st_a e150 rfl) _)
          refine fun v159 gv159 e160 => ?_
          replace hT := qlc e160 hT
          have b161 := ivf_at j152 4 rfl
          have q162 : v15 = v159 := (e160.trans ((congrFun (st_a e150 rfl) _).trans e143.symm)).symm
          subst q162
          refine fun v163 e164 => ?_
          replace hT := qlc e164 hT
          refine And.intro (by (first | (clear hm hnf; omega) | omega)) (fun A165 e166 => ?_)
          replace hT := qlc e166 hT
          have i167 := iva_sf i151 e166 rfl
          have j168 := ivf_st j152 e166 (And.intro (by (first | (clear hm hnf; omega) | omega)) trivial)
          have f169 := frm_sf f153 e166 rfl
          have t170 : A165 0 (fd 27) = A149 0 (fd 27) := (st_f e166 rfl)
          have t171 : A165 0 (fd 28) = A149 0 (fd 28) := (st_f e166 rfl)
          have t172 : A165 0 (fd 31) = A149 0 (fd 31) := (st_f e166 rfl)
          have t173 : A165 0 (fd 32) = A149 0 (fd 32) := (st_f e166 rfl)
          have t174 := st_v e166
          exact And.intro (by (first | (clear hm hnf; omega) | omega)) (hK _ i167 j168 f169 _ (by (first | (clear hm hnf; omega) | omega)) (by (first | (clear hm hnf; omega) | omega)) (Or.inr (WS_1 (A := A) (A' := A165) (by assumption) (fun k hk => (congrFun (Eq.trans (st_a e166 rfl) (st_a e150 rfl)) k).trans (cy2 k hk)) (up2 (Eq.trans (Eq.trans (Eq.trans (Eq.trans (Eq.trans (Eq.trans (Eq.trans (st_a e166 rfl) (st_a e150 rfl)) (frm_a f126 rfl)) (st_a e114 rfl)) (frm_a f90 rfl)) (st_a e76 rfl)) (st_a e66 rfl)) (Eq.trans (st_u e56) (cu (Eq.trans (st_a e39 rfl) (st_a e24 rfl))))) (by (first | (clear hm hnf; omega) | omega)) rfl) (up2 (Eq.trans (Eq.trans (Eq.trans (st_a e166 rfl) (st_a e150 rfl)) (frm_a f126 rfl)) (Eq.trans (st_u e114) (cu (Eq.trans (Eq.trans (Eq.trans (Eq.trans (Eq.trans (frm_a f90 rfl) (st_a e76 rfl)) (st_a e66 rfl)) (st_a e56 rfl)) (st_a e39 rfl)) (st_a e24 rfl))))) (by (first | (clear hm hnf; omega) | omega)) rfl) (up2 (Eq.trans (st_a e166 rfl) (Eq.trans (st_u e150) (cu (Eq.trans (Eq.trans (Eq.trans (Eq.trans (Eq.trans (Eq.trans (Eq.trans (frm_a f126 rfl) (st_a e114 rfl)) (frm_a f90 rfl)) (st_a e76 rfl)) (st_a e66 rfl)) (st_a e56 rfl)) (st_a e39 rfl)) (st_a e24 rfl))))) (by (first | (clear hm hnf; omega) | omega)) rfl) (by (first | (clear hm hnf; omega) | omega)) (SEG_e (SEG_c sy2 (fun k _ _ => congrFun (Eq.trans (st_a e166 rfl) (st_a e150 rfl)) k)) (by (first | (clear hm hnf; omega) | omega)) (by (first | (clear hm hnf; omega) | omega))) (SEG_e (SEG_c sg2 (fun k _ _ => congrFun (Eq.trans (st_a e166 rfl) (st_a e150 rfl)) k)) (by (first | (clear hm hnf; omega) | omega)) (by (first | (clear hm hnf; omega) | omega))) (by (first | (clear hm hnf; omega) | omega)) (by (first | (clear hm hnf; omega) | omega)))) (by (first | (clear hm hnf; omega) | omega)) (by (first | (clear hm hnf; omega) | omega)) (congrArg Prod.fst hT) (congrArg Prod.snd hT))
        · replace hT := (if_pos h141).symm.trans hT
          exact And.intro (by (first | (clear hm hnf; omega) | omega)) (hK _ i124 j125 f135 _ (by (first | (clear hm hnf; omega) | omega)) (by (first | (clear hm hnf; omega) | omega)) (by first | assumption | omega | simp_all) (by first | assumption | omega | simp_all) (by first | assumption | omega | simp_all) (congrArg Prod.fst hT) (congrArg Prod.snd hT))
      · replace hT := (if_pos h105).symm.trans hT
        exact And.intro (by (first | (clear hm hnf; omega) | omega)) (hK _ i88 j89 f99 _ (by (first | (clear hm hnf; omega) | omega)) (by (first | (clear hm hnf; omega) | omega)) (by first | assumption | omega | simp_all) (by first | assumption | omega | simp_all) (by first | assumption | omega | simp_all) (congrArg Prod.fst hT) (congrArg Prod.snd hT))
    · replace hT := (if_pos h18).symm.trans hT
      refine fun v175 gv175 e176 => ?_
      replace hT := qlc e176 hT
      have b177 := ivf_at j0 6 rfl
      refine Exists.intro 4 (Exists.intro v175 (And.intro rfl (And.intro (And.intro i0 (And.intro j0 (dqA3 (by (first | (clear hm hnf; omega) | omega)) (by (first | (clear hm hnf; omega) | omega))))) (fun A178 i179 j180 f181 g182 => (fun h183 => ?_)))))
      · replace hT := qlc g182 hT
        have f184 := frm_c f0 f181 rfl
        have t185 : A178 0 (fd 27) = A 0 (fd 27) := (frm_f f181 rfl)
        have t186 : A178 0 (fd 28) = A 0 (fd 28) := (frm_f f181 rfl)
        have t187 : A178 0 (fd 31) = A 0 (fd 31) := (frm_f f181 rfl)
        have t188 : A178 0 (fd 32) = A 0 (fd 32) := (frm_f f181 rfl)
        have t189 : A178 0 (fd 33) = A 0 (fd 33) := (frm_f f181 rfl)
        exact And.intro (by (first | (clear hm hnf; omega) | omega)) (hK _ i179 j180 f184 _ (by (first | (clear hm hnf; omega) | omega)) (by (first | (clear hm hnf; omega) | omega)) (by first | assumption | omega | simp_all) (by first | assumption | omega | simp_all) (by first | assumption | omega | simp_all) (congrArg Prod.fst hT) (congrArg Prod.snd hT))
  · replace hT := (if_pos h14).symm.trans hT
    refine fun v190 gv190 e191 => ?_
    replace hT := qlc e191 hT
    have b192 := ivf_at j0 6 rfl
    refine Exists.intro 1 (Exists.intro v190 (And.intro rfl (And.intro (And.intro i0 (And.intro j0 (dqA3 (by (first | (clear hm hnf; omega) | omega)) (by (first | (clear hm hnf; omega) | omega))))) (fun A193 i194 j195 f196 g197 => (fun h198 => ?_)))))
    · replace hT := qlc g197 hT
      have f199 := frm_c f0 f196 rfl
      have t200 : A193 0 (fd 27) = A 0 (fd 27) := (frm_f f196 rfl)
      have t201 : A193 0 (fd 28) = A 0 (fd 28) := (frm_f f196 rfl)
      have t202 : A193 0 (fd 31) = A 0 (fd 31) := (frm_f f196 rfl)
      have t203 : A193 0 (fd 32) = A 0 (fd 32) := (frm_f f196 rfl)
      have t204 : A193 0 (fd 33) = A 0 (fd 33) := (frm_f f196 rfl)
      exact And.intro (by (first | (clear hm hnf; omega) | omega)) (hK _ i194 j195 f199 _ (by (first | (clear hm hnf; omega) | omega)) (by (first | (clear hm hnf; omega) | omega)) (by first | assumption | omega | simp_all) (by first | assumption | omega | simp_all) (by first | assumption | omega | simp_all) (congrArg Prod.fst hT) (congrArg Prod.snd hT))
theorem pM_readsClause {A : qA} (hA : qokA LM A) (p0 : iva IM A) (p1 : ivf JM A) (p2 : WS A) (p3 : A 0 (fd 31) ≤ A 0 (fd 27)) : qokA LM (fM_readsClause A).2 ∧ iva IM (fM_readsClause A).2 ∧ ivf JM (fM_readsClause A).2 ∧ frm [23, 24, 25, 26, 27, 28] [(0, 27), (0, 29), (0, 30), (0, 31), (0, 32), (0, 34), (0, 33)] A (fM_readsClause A).2 ∧ (0 ≤ (fM_readsClause A).1 ∧ (fM_readsClause A).1 ≤ 1) ∧ ((fM_readsClause A).1 = 0 ∨ WS (fM_readsClause A).2) ∧ ((fM_readsClause A).1 = 0 ∨ (fM_readsClause A).2 0 (fd 31) ≤ (fM_readsClause A).2 0 (fd 27)) ∧ ((fM_readsClause A).1 = 0 ∨ A 0 (fd 27) < (fM_readsClause A).2 0 (fd 27)) := by
  obtain ⟨r, B, hB, _, hk⟩ := okM_ex okM_readsClause (as := [rf 0]) (K := fun _ B => B = (fM_readsClause A).2 ∧ iva IM (fM_readsClause A).2 ∧ ivf JM (fM_readsClause A).2 ∧ frm [23, 24, 25, 26, 27, 28] [(0, 27), (0, 29), (0, 30), (0, 31), (0, 32), (0, 34), (0, 33)] A (fM_readsClause A).2 ∧ (0 ≤ (fM_readsClause A).1 ∧ (fM_readsClause A).1 ≤ 1) ∧ ((fM_readsClause A).1 = 0 ∨ WS (fM_readsClause A).2) ∧ ((fM_readsClause A).1 = 0 ∨ (fM_readsClause A).2 0 (fd 31) ≤ (fM_readsClause A).2 0 (fd 27)) ∧ ((fM_readsClause A).1 = 0 ∨ A 0 (fd 27) < (fM_readsClause A).2 0 (fd 27))) hA (qoks_c (show qok (rf _) from trivial) qoks_n) ⟨rfl, ⟨p0, p1, p2, p3⟩, fun A9 i9 j9 f9 r9 g8 g9 x0 x1 x2 x3 x4 => (by rw [← x4]; (try rw [← x3]); exact ⟨rfl, i9, j9, f9, ⟨g8, g9⟩, x0, x1, x2⟩)⟩
  exact ⟨hk.1 ▸ hB, hk.2⟩
def fM_law_c26 (rec : Nat → List Int → qA → Int × qA) (g : Int) (B : qA) : Int × qA := (if g = 0 then qlet (qu B 0 (fd 26) 0) fun A73 => qlet (A73 0 (fd 29)) fun v85 => (v85, A73) else qlet (B 0 (fd 27)) fun v87 => qlet (B 0 (fd 28)) fun v90 => (if v87 < v90 then qlp (fM_takes 59 B) fun r124 A120 => (if r124 = 0 then rec 26 [0] A120 else qlp (fM_readsClause A120) fun r142 A138 => (if r142 = 0 then rec 26 [0] A138 else rec 26 [1] A138)) else qlet (qu B 0 (fd 26) 0) fun A94 => qlet (A94 0 (fd 33)) fun v106 => qlet (qu A94 0 (fd 35) v106) fun A109 => rec 59 [0] A109))
def fM_law_c59 (rec : Nat → List Int → qA → Int × qA) (k : Int) (B : qA) : Int × qA := qlet (B 0 (fd 31)) fun v158 => (if k < v158 then qlet (B 23 k) fun v162 => qlet (qu B 29 k v162) fun A165 => qlet (k + 1) fun v176 => rec 59 [v176] A165 else rec 75 [0] B)
def fM_law_c75 (rec : Nat → List Int → qA → Int × qA) (k : Int) (B : qA) : Int × qA := qlet (B 0 (fd 33)) fun v178 => (if k < v178 then qlet (B 25 k) fun v186 => qlet (qu B 30 k v186) fun A188 => qlet (A188 26 k) fun v199 => qlet (qu A188 31 k v199) fun A202 => qlet (A202 27 k) fun v213 => qlet (qu A202 32 k v213) fun A216 => qlet (A216 28 k) fun v227 => qlet (qu A216 33 k v227) fun A230 => qlet (k + 1) fun v241 => rec 75 [v241] A230 else qlet (B 0 (fd 33)) fun v182 => (v178, B))
def fM_law_L : Nat → Nat → List Int → qA → Int × qA
  | 0 => fun _ _ B => (0, B)
  | nF + 1 => fun k zs B => bif Nat.beq k 26 then (match zs with | [g] => fM_law_c26 (fM_law_L nF) g B | _ => (0, B)) else bif Nat.beq k 59 then (match zs with | [k] => fM_law_c59 (fM_law_L nF) k B | _ => (0, B)) else bif Nat.beq k 75 then (match zs with | [k] => fM_law_c75 (fM_law_L nF) k B | _ => (0, B)) else (0, B)
theorem fM_law_L26 (nF : Nat) (g : Int) (B : qA) : fM_law_L (nF + 1) 26 [g] B = fM_law_c26 (fM_law_L nF) g B := (congrFun (congrFun (congrFun (fM_law_L.eq_2 nF) 26) [g]) B).trans (qL1 rfl rfl)
theorem fM_law_L59 (nF : Nat) (k : Int) (B : qA) : fM_law_L (nF + 1) 59 [k] B = fM_law_c59 (fM_law_L nF) k B := (congrFun (congrFun (congrFun (fM_law_L.eq_2 nF) 59) [k]) B).trans (qL0 rfl (qL1 rfl rfl))
theorem fM_law_L75 (nF : Nat) (k : Int) (B : qA) : fM_law_L (nF + 1) 75 [k] B = fM_law_c75 (fM_law_L nF) k B := (congrFun (congrFun (congrFun (fM_law_L.eq_2 nF) 75) [k]) B).trans (qL0 rfl (qL0 rfl (qL1 rfl rfl)))
def fM_law (n : Int) (A : qA) : Int × qA := (if 1 ≤ n ∧ n ≤ 200 then qlet (A 0 (fd 26)) fun v4 => (if v4 < n then ((-1), A) else qlet (qu A 0 (fd 27) 0) fun A8 => qlet (qu A8 0 (fd 28) n) fun A19 => qlet (qu A19 0 (fd 31) 0) fun A30 => qlet (qu A30 0 (fd 33) 0) fun A41 => qlp (fM_readsClause A41) fun r56 A52 => (fM_law_L 100000) 26 [r56] A52) else ((-1), A))
def sM_law : qS := fun as A K => ∃ n : Int, as = [rf 0, ni n] ∧ (iva IM A ∧ ivf JM A ∧ (WF A)) ∧ (∀ A' : qA, iva IM A' → ivf JM A' → frm [23, 24, 25, 26, 27, 28, 29, 30, 31, 32, 33] [(0, 27), (0, 29), (0, 30), (0, 31), (0, 32), (0, 34), (0, 33), (0, 26), (0, 28), (0, 35)] A A' → ∀ r : Int, rng r → (WF A') → (r = (fM_law n A).1) → (A' = (fM_law n A).2) → K (some (ni r)) A')
theorem okM_law : okM LM 9 183 sM_law := by
  refine qmeth [] false [(145, sM_in), (182, sM_readsClause), (165, sM_takes)] 122 rfl ⟨okM_in.le (by decide), ⟨okM_readsClause.le (by decide), ⟨okM_takes.le (by decide), trivial⟩⟩⟩ ?_
  rintro _ A K hA has ⟨n, rfl, ⟨i0, j0, p1⟩, hK⟩
  have rg_n : rng n := has (ni n) (by simp)
  have f0 := frm_0 [23, 24, 25, 26, 27, 28, 29, 30, 31, 32, 33] [(0, 27), (0, 29), (0, 30), (0, 31), (0, 32), (0, 34), (0, 33), (0, 26), (0, 28), (0, 35)] A
  have hb_0_27 := ivf_at j0 6 rfl
  have hb_0_28 := ivf_at j0 7 rfl
  have hb_0_31 := ivf_at j0 8 rfl
  have hb_0_32 := ivf_at j0 9 rfl
  have hb_0_33 := ivf_at j0 4 rfl
  have hb_0_35 := ivf_at j0 3 rfl
  have hT : _ = fM_law n A := (fM_law.eq_1 n A).symm
  refine ⟨Nat.le_of_ble_eq_true rfl, [(26, [(0, 2, 0), (2, 0, 0)], fun zs B nn => match zs with | [g] => iva IM B ∧ ivf JM B ∧ frm [23, 24, 25, 26, 27, 28, 29, 30, 31, 32, 33] [(0, 27), (0, 29), (0, 30), (0, 31), (0, 32), (0, 34), (0, 33), (0, 26), (0, 28), (0, 35)] A B ∧ nn = (g * (201 - B 0 (fd 27)) + 5000 : Int).toNat ∧ (0 ≤ g) ∧ (g ≤ 1) ∧ (g = 0 ∨ WS B) ∧ (g = 0 ∨ B 0 (fd 31) ≤ B 0 (fd 27)) ∧ (B 29 = A 29) ∧ (B 31 = A 31) ∧ (B 32 = A 32) ∧ (B 33 = A 33) ∧ (B 0 (fd 35) = A 0 (fd 35)) ∧ (∃ nf : Nat, nn < nf ∧ fM_law_L nf 26 [g] B = fM_law n A) | _ => False), (59, [(0, 2, 0), (3, 0, 0)], fun zs B nn => match zs with | [k] => iva IM B ∧ ivf JM B ∧ frm [23, 24, 25, 26, 27, 28, 29, 30, 31, 32, 33] [(0, 27), (0, 29), (0, 30), (0, 31), (0, 32), (0, 34), (0, 33), (0, 26), (0, 28), (0, 35)] A B ∧ nn = (1000 - k : Int).toNat ∧ (0 ≤ k) ∧ (k ≤ 220) ∧ (WS B) ∧ (B 0 (fd 35) = B 0 (fd 33)) ∧ (∀ i, 0 ≤ i → i < k → B 29 i = B 23 i) ∧ (∃ nf : Nat, nn < nf ∧ fM_law_L nf 59 [k] B = fM_law n A) | _ => False), (75, [(0, 2, 0), (3, 0, 0)], fun zs B nn => match zs with | [k] => iva IM B ∧ ivf JM B ∧ frm [23, 24, 25, 26, 27, 28, 29, 30, 31, 32, 33] [(0, 27), (0, 29), (0, 30), (0, 31), (0, 32), (0, 34), (0, 33), (0, 26), (0, 28), (0, 35)] A B ∧ nn = (100 - k : Int).toNat ∧ (0 ≤ k) ∧ (k ≤ 14) ∧ (WS B) ∧ (B 0 (fd 35) = B 0 (fd 33)) ∧ (∀ i, 0 ≤ i → i < B 0 (fd 31) → B 29 i = B 23 i) ∧ (∀ i, 0 ≤ i → i < k → B 31 i = B 26 i ∧ B 32 i = B 27 i ∧ B 33 i = B 28 i) ∧ (∃ nf : Nat, nn < nf ∧ fM_law_L nf 75 [k] B = fM_law n A) | _ => False)], ?_, ?_⟩
  · refine ⟨⟨rfl, ?_⟩, ⟨rfl, ?_⟩, ⟨rfl, ?_⟩, trivial⟩
    · refine fun g B mm hB hz hI => ?_
      obtain ⟨i1, j1, f1, hm, c0, c1, c2, c3, c4, c5, c6, c7, c8, ⟨nf, hnf, hT⟩⟩ := hI
      obtain ⟨hz_g, _⟩ := hz
      obtain ⟨ng, rfl⟩ : ∃ k, nf = k + 1 := ⟨nf - 1, by omega⟩
      replace hT := (fM_law_c26.eq_1 (fM_law_L ng) g B).symm.trans ((fM_law_L26 ng g B).symm.trans hT)
      have hc_0_27 := ivf_at j1 6 rfl
      have hc_0_28 := ivf_at j1 7 rfl
      have hc_0_31 := ivf_at j1 8 rfl
      have hc_0_32 := ivf_at j1 9 rfl
      have hc_0_33 := ivf_at j1 4 rfl
      have hc_0_35 := ivf_at j1 3 rfl
      have hm2 : g = 0 ∨ mm = (201 - B 0 (fd 27) + 5000).toNat := by rcases (by (first | (clear hm hnf; omega) | omega) : g = 0 ∨ g = 1) with q | q; exact Or.inl q; (right; rw [hm, q, Int.one_mul])
      clear hm
      refine And.intro (fun h72 => ?_) (fun h72 => ?_)
      · replace hT := (if_pos h72).symm.trans hT
        refine fun A73 e74 => ?_
        replace hT := qlc e74 hT
        have i75 := iva_sf i1 e74 rfl
        have j76 := ivf_st j1 e74 (And.intro (by (first | (clear hm hnf; omega) | omega)) trivial)
        have f77 := frm_sf f1 e74 rfl
        have t78 : A73 0 (fd 27) = B 0 (fd 27) := (st_f e74 rfl)
        have t79 : A73 0 (fd 28) = B 0 (fd 28) := (st_f e74 rfl)
        have t80 : A73 0 (fd 31) = B 0 (fd 31) := (st_f e74 rfl)
        have t81 : A73 0 (fd 32) = B 0 (fd 32) := (st_f e74 rfl)
        have t82 : A73 0 (fd 33) = B 0 (fd 33) := (st_f e74 rfl)
        have t83 : A73 0 (fd 35) = B 0 (fd 35) := (st_f e74 rfl)
        refine And.intro (fun h84 => by exfalso; omega) (fun h84 => ?_)
        refine fun v85 gv85 e86 => ?_
        replace hT := qlc e86 hT
        exact hK _ i75 j76 f77 _ (by (first | (clear hm hnf; omega) | omega)) (WF_k (by assumption) (Eq.trans (st_a e74 rfl) c4) (Eq.trans (st_a e74 rfl) c5) (Eq.trans (st_a e74 rfl) c6) (Eq.trans (st_a e74 rfl) c7) (by (first | (clear hm hnf; omega) | omega))) (congrArg Prod.fst hT) (congrArg Prod.snd hT)
      · replace hT := (if_neg h72).symm.trans hT
        refine fun v87 gv87 e88 => ?_
        replace hT := qlc e88 hT
        have b89 := ivf_at j1 6 rfl
        refine fun v90 gv90 e91 => ?_
        replace hT := qlc e91 hT
        have b92 := ivf_at j1 7 rfl
        refine And.intro (fun h93 => ?_) (fun h93 => ?_)
        · replace hT := (if_neg (Int.not_lt.mpr h93)).symm.trans hT
          refine fun A94 e95 => ?_
          replace hT := qlc e95 hT
          have i96 := iva_sf i1 e95 rfl
          have j97 := ivf_st j1 e95 (And.intro (by (first | (clear hm hnf; omega) | omega)) trivial)
          have f98 := frm_sf f1 e95 rfl
          have t99 : A94 0 (fd 27) = B 0 (fd 27) := (st_f e95 rfl)
          have t100 : A94 0 (fd 28) = B 0 (fd 28) := (st_f e95 rfl)
          have t101 : A94 0 (fd 31) = B 0 (fd 31) := (st_f e95 rfl)
          have t102 : A94 0 (fd 32) = B 0 (fd 32) := (st_f e95 rfl)
          have t103 : A94 0 (fd 33) = B 0 (fd 33) := (st_f e95 rfl)
          have t104 : A94 0 (fd 35) = B 0 (fd 35) := (st_f e95 rfl)
          refine And.intro (fun h105 => ?_) (fun h105 => by exfalso; omega)
          refine fun v106 gv106 e107 => ?_
          replace hT := qlc e107 hT
          have b108 := ivf_at j97 4 rfl
          refine fun A109 e110 => ?_
          replace hT := qlc e110 hT
          have i111 := iva_sf i96 e110 rfl
          have j112 := ivf_st j97 e110 (And.intro (by (first | (clear hm hnf; omega) | omega)) trivial)
          have f113 := frm_sf f98 e110 rfl
          have t114 : A109 0 (fd 27) = A94 0 (fd 27) := (st_f e110 rfl)
          have t115 : A109 0 (fd 28) = A94 0 (fd 28) := (st_f e110 rfl)
          have t116 : A109 0 (fd 31) = A94 0 (fd 31) := (st_f e110 rfl)
          have t117 : A109 0 (fd 32) = A94 0 (fd 32) := (st_f e110 rfl)
          have t118 : A109 0 (fd 33) = A94 0 (fd 33) := (st_f e110 rfl)
          have t119 := st_v e110
          exact Exists.intro (1000 - 0 : Int).toNat (And.intro (by first | exact qtn hm (by (try clear hm hnf); omega) | omega) (And.intro i111 (And.intro j112 (And.intro f113 (And.intro rfl (dqA2 (by (first | (clear hm hnf; omega) | omega)) (And.intro (by first | exact WS_k (by assumption) (Eq.trans (st_a e110 rfl) (st_a e95 rfl)) (Eq.trans (st_a e110 rfl) (st_a e95 rfl)) (Eq.trans (st_a e110 rfl) (st_a e95 rfl)) (Eq.trans (st_a e110 rfl) (st_a e95 rfl)) (by (first | (clear hm hnf; omega) | omega)) (by (first | (clear hm hnf; omega) | omega)) | exact WS_k (Or.resolve_left (by assumption : g = 0 ∨ WS B) (by (first | (clear hm hnf; omega) | omega))) (Eq.trans (st_a e110 rfl) (st_a e95 rfl)) (Eq.trans (st_a e110 rfl) (st_a e95 rfl)) (Eq.trans (st_a e110 rfl) (st_a e95 rfl)) (Eq.trans (st_a e110 rfl) (st_a e95 rfl)) (by (first | (clear hm hnf; omega) | omega)) (by (first | (clear hm hnf; omega) | omega))) (And.intro (by (first | (clear hm hnf; omega) | omega)) (And.intro (by first | (intro i h0 h1; omega) | (intro i h0 h1; by_cases hi : i = k; (rw [hi]; have q1 := congrFun (show A109 23 = B 23 from (Eq.trans (st_a e110 rfl) (st_a e95 rfl))) k; have u := up_e (Eq.trans (st_a e110 rfl) (st_a e95 rfl)); omega); (have q1 := congrFun (show A109 23 = B 23 from (Eq.trans (st_a e110 rfl) (st_a e95 rfl))) i; have u := up_n (Eq.trans (st_a e110 rfl) (st_a e95 rfl)) hi; have q3 := c4 i h0 (by (first | (clear hm hnf; omega) | omega)); omega))) (Exists.intro ng (And.intro (by first | exact qtm hm hnf (by (try clear hm hnf); omega) | omega) hT)))))))))))
        · replace hT := (if_pos h93).symm.trans hT
          refine Exists.intro 59 (And.intro rfl (And.intro (And.intro i1 (And.intro j1 (And.intro (by (first | (clear hm hnf; omega) | omega)) (by (first | (clear hm hnf; omega) | omega))))) (fun A120 i121 j122 f123 r124 g128 g129 g125 g126 g127 => ?_)))
          replace hT := qlpc g126 g127 hT
          clear g126 g127
          have f130 := frm_c f1 f123 rfl
          have t131 := ivf_at j122 6 rfl
          have t132 : A120 0 (fd 28) = B 0 (fd 28) := (frm_f f123 rfl)
          have t133 : A120 0 (fd 31) = B 0 (fd 31) := (frm_f f123 rfl)
          have t134 : A120 0 (fd 32) = B 0 (fd 32) := (frm_f f123 rfl)
          have t135 : A120 0 (fd 33) = B 0 (fd 33) := (frm_f f123 rfl)
          have t136 : A120 0 (fd 35) = B 0 (fd 35) := (frm_f f123 rfl)
          refine And.intro (fun h137 => ?_) (fun h137 => ?_)
          · replace hT := (if_pos h137).symm.trans hT
            have hmz := mul_bd (a := 0) (b := 201 - A120 0 (fd 27)) (p := 1) (q := 201) (by (first | (clear hm hnf; omega) | omega)) (by (first | (clear hm hnf; omega) | omega)) (by (first | (clear hm hnf; omega) | omega)) (by (first | (clear hm hnf; omega) | omega))
            exact Exists.intro (0 * (201 - A120 0 (fd 27)) + 5000 : Int).toNat (And.intro (by first | exact qtn hm (by (try clear hm hnf); omega) | omega) (And.intro i121 (And.intro j122 (And.intro f130 (And.intro rfl (dqA2 (by (first | (clear hm hnf; omega) | omega)) (And.intro (by first | exact Or.inl rfl | assumption | (exact Or.inr (Or.resolve_left hE (by (first | (clear hm hnf; omega) | omega))))) (And.intro (by (first | (clear hm hnf; omega) | omega)) (And.intro (Eq.trans (frm_a f123 rfl) c4) (And.intro (Eq.trans (frm_a f123 rfl) c5) (And.intro (Eq.trans (frm_a f123 rfl) c6) (And.intro (Eq.trans (frm_a f123 rfl) c7) (And.intro (by (first | (clear hm hnf; omega) | omega)) (Exists.intro ng (And.intro (by first | exact qtm hm hnf (by (try clear hm hnf); omega) | omega) hT)))))))))))))))
          · replace hT := (if_neg h137).symm.trans hT
            have ws1 : WS A120 := WS_k (Or.resolve_left (by assumption : g = 0 ∨ WS B) (by (first | (clear hm hnf; omega) | omega))) (frm_a f123 rfl) (frm_a f123 rfl) (frm_a f123 rfl) (frm_a f123 rfl) (by (first | (clear hm hnf; omega) | omega)) (by (first | (clear hm hnf; omega) | omega))
            refine And.intro rfl (And.intro (And.intro i121 (And.intro j122 (And.intro (by first | assumption | omega | simp_all) (by first | assumption | omega | simp_all)))) (fun A138 i139 j140 f141 r142 g148 g149 g143 g144 g145 g146 g147 => ?_))
            replace hT := qlpc g146 g147 hT
            clear g146 g147
            have f150 := frm_c f130 f141 rfl
            have t151 := ivf_at j140 6 rfl
            have t152 : A138 0 (fd 28) = A120 0 (fd 28) := (frm_f f141 rfl)
            have t153 := ivf_at j140 8 rfl
            have t154 := ivf_at j140 9 rfl
            have t155 := ivf_at j140 4 rfl
            have t156 : A138 0 (fd 35) = A120 0 (fd 35) := (frm_f f141 rfl)
            refine And.intro (fun h157 => ?_) (fun h157 => ?_)
            · replace hT := (if_pos h157).symm.trans hT
              have hmz := mul_bd (a := 0) (b := 201 - A138 0 (fd 27)) (p := 1) (q := 201) (by (first | (clear hm hnf; omega) | omega)) (by (first | (clear hm hnf; omega) | omega)) (by (first | (clear hm hnf; omega) | omega)) (by (first | (clear hm hnf; omega) | omega))
              exact Exists.intro (0 * (201 - A138 0 (fd 27)) + 5000 : Int).toNat (And.intro (by first | exact qtn hm (by (try clear hm hnf); omega) | omega) (And.intro i139 (And.intro j140 (And.intro f150 (And.intro rfl (dqA2 (by (first | (clear hm hnf; omega) | omega)) (And.intro (by first | exact Or.inl rfl | assumption | (exact Or.inr (Or.resolve_left g143 (by (first | (clear hm hnf; omega) | omega))))) (And.intro (by (first | (clear hm hnf; omega) | omega)) (And.intro (Eq.trans (Eq.trans (frm_a f141 rfl) (frm_a f123 rfl)) c4) (And.intro (Eq.trans (Eq.trans (frm_a f141 rfl) (frm_a f123 rfl)) c5) (And.intro (Eq.trans (Eq.trans (frm_a f141 rfl) (frm_a f123 rfl)) c6) (And.intro (Eq.trans (Eq.trans (frm_a f141 rfl) (frm_a f123 rfl)) c7) (And.intro (by (first | (clear hm hnf; omega) | omega)) (Exists.intro ng (And.intro (by first | exact qtm hm hnf (by (try clear hm hnf); omega) | omega) hT)))))))))))))))
            · replace hT := (if_neg h157).symm.trans hT
              have hmz := mul_bd (a := 1) (b := 201 - A138 0 (fd 27)) (p := 1) (q := 201) (by (first | (clear hm hnf; omega) | omega)) (by (first | (clear hm hnf; omega) | omega)) (by (first | (clear hm hnf; omega) | omega)) (by (first | (clear hm hnf; omega) | omega))
              exact Exists.intro (1 * (201 - A138 0 (fd 27)) + 5000 : Int).toNat (And.intro (by first | exact qtn hm (by (try clear hm hnf); omega) | omega) (And.intro i139 (And.intro j140 (And.intro f150 (And.intro rfl (dqA2 (by (first | (clear hm hnf; omega) | omega)) (And.intro (by first | exact Or.inl rfl | assumption | (exact Or.inr (Or.resolve_left g143 (by (first | (clear hm hnf; omega) | omega))))) (And.intro (by (first | (clear hm hnf; omega) | omega)) (And.intro (Eq.trans (Eq.trans (frm_a f141 rfl) (frm_a f123 rfl)) c4) (And.intro (Eq.trans (Eq.trans (frm_a f141 rfl) (frm_a f123 rfl)) c5) (And.intro (Eq.trans (Eq.trans (frm_a f141 rfl) (frm_a f123 rfl)) c6) (And.intro (Eq.trans (Eq.trans (frm_a f141 rfl) (frm_a f123 rfl)) c7) (And.intro (by (first | (clear hm hnf; omega) | omega)) (Exists.intro ng (And.intro (by first | exact qtm hm hnf (by (try clear hm hnf); omega) | omega) hT)))))))))))))))
    · refine fun k B mm hB hz hI => ?_
      obtain ⟨i1, j1, f1, hm, c0, c1, c2, c3, c4, ⟨nf, hnf, hT⟩⟩ := hI
      obtain ⟨hz_k, _⟩ := hz
      obtain ⟨ng, rfl⟩ : ∃ k, nf = k + 1 := ⟨nf - 1, by omega⟩
      replace hT := (fM_law_c59.eq_1 (fM_law_L ng) k B).symm.trans ((fM_law_L59 ng k B).symm.trans hT)
      have hc_0_27 := ivf_at j1 6 rfl
      have hc_0_28 := ivf_at j1 7 rfl
      have hc_0_31 := ivf_at j1 8 rfl
      have hc_0_32 := ivf_at j1 9 rfl
      have hc_0_33 := ivf_at j1 4 rfl
      have hc_0_35 := ivf_at j1 3 rfl
      refine fun v158 gv158 e159 => ?_
      replace hT := qlc e159 hT
      have b160 := ivf_at j1 8 rfl
      refine And.intro (fun h161 => ?_) (fun h161 => ?_)
      · replace hT := (if_neg (Int.not_lt.mpr h161)).symm.trans hT
        exact Exists.intro (100 - 0 : Int).toNat (And.intro (by first | exact qtn hm (by (try clear hm hnf); omega) | omega) (And.intro i1 (And.intro j1 (And.intro f1 (And.intro rfl (dqA2 (by (first | (clear hm hnf; omega) | omega)) (And.intro (by first | assumption | exact WS_k (by assumption) rfl rfl rfl rfl (by (first | (clear hm hnf; omega) | omega)) (by (first | (clear hm hnf; omega) | omega))) (And.intro (by (first | (clear hm hnf; omega) | omega)) (And.intro (by first | (intro i h0 h1; exact c4 i h0 (by (first | (clear hm hnf; omega) | omega))) | (intro i h0 h1; have q1 := congrFun (show B 23 = B 23 from rfl) i; have q2 := congrFun (show B 29 = B 29 from rfl) i; have q3 := c4 i h0 (by (first | (clear hm hnf; omega) | omega)); omega)) (And.intro (by first | (intro i h0 h1; omega) | (intro i h0 h1; by_cases hi : i = k; (rw [hi]; have q26 := congrFun (show B 26 = B 26 from rfl) k; have q27 := congrFun (show B 27 = B 27 from rfl) k; have q28 := congrFun (show B 28 = B 28 from rfl) k; have u1 := up_e rfl; have u2 := up_e rfl; have u3 := up_e rfl; exact ⟨by (first | (clear hm hnf; omega) | omega), by (first | (clear hm hnf; omega) | omega), by (first | (clear hm hnf; omega) | omega)⟩); (have q26 := congrFun (show B 26 = B 26 from rfl) i; have q27 := congrFun (show B 27 = B 27 from rfl) i; have q28 := congrFun (show B 28 = B 28 from rfl) i; have u1 := up_n rfl hi; have u2 := up_n rfl hi; have u3 := up_n rfl hi; have q3 := c5 i h0 (by (first | (clear hm hnf; omega) | omega)); exact ⟨by (first | (clear hm hnf; omega) | omega), by (first | (clear hm hnf; omega) | omega), by (first | (clear hm hnf; omega) | omega)⟩))) (Exists.intro ng (And.intro (by first | exact qtm hm hnf (by (try clear hm hnf); omega) | omega) hT))))))))))))
      · replace hT := (if_pos h161).symm.trans hT
        refine And.intro (by (first | (clear hm hnf; omega) | omega)) (fun v162 gv162 e163 => ?_)
        replace hT := qlc e163 hT
        have b164 := iva_at i1 11 rfl (i := k) (by (first | (clear hm hnf; omega) | omega)) (by (first | (clear hm hnf; omega) | omega))
        refine And.intro (by (first | (clear hm hnf; omega) | omega)) (fun A165 e166 => ?_)
        replace hT := qlc e166 hT
        have i167 := iva_st i1 e166 (And.intro (by (first | (clear hm hnf; omega) | omega)) trivial)
        have j168 := ivf_sa j1 e166 rfl
        have f169 := frm_s f1 e166 rfl
        have t170 : A165 0 (fd 27) = B 0 (fd 27) := (congrFun (st_a e166 rfl) _)
        have t171 : A165 0 (fd 28) = B 0 (fd 28) := (congrFun (st_a e166 rfl) _)
        have t172 : A165 0 (fd 31) = B 0 (fd 31) := (congrFun (st_a e166 rfl) _)
        have t173 : A165 0 (fd 32) = B 0 (fd 32) := (congrFun (st_a e166 rfl) _)
        have t174 : A165 0 (fd 33) = B 0 (fd 33) := (congrFun (st_a e166 rfl) _)
        have t175 : A165 0 (fd 35) = B 0 (fd 35) := (congrFun (st_a e166 rfl) _)
        refine fun v176 e177 => ?_
        replace hT := qlc e177 hT
        exact And.intro (by (first | (clear hm hnf; omega) | omega)) (Exists.intro (1000 - v176 : Int).toNat (And.intro (by first | exact qtn hm (by (try clear hm hnf); omega) | omega) (And.intro i167 (And.intro j168 (And.intro f169 (And.intro rfl (dqA2 (by (first | (clear hm hnf; omega) | omega)) (And.intro (by first | exact WS_k (by assumption) (st_a e166 rfl) (st_a e166 rfl) (st_a e166 rfl) (st_a e166 rfl) (by (first | (clear hm hnf; omega) | omega)) (by (first | (clear hm hnf; omega) | omega)) | exact WS_k (Or.resolve_left (by assumption : g = 0 ∨ WS B) (by (first | (clear hm hnf; omega) | omega))) (st_a e166 rfl) (st_a e166 rfl) (st_a e166 rfl) (st_a e166 rfl) (by (first | (clear hm hnf; omega) | omega)) (by (first | (clear hm hnf; omega) | omega))) (And.intro (by (first | (clear hm hnf; omega) | omega)) (And.intro (by first | (intro i h0 h1; omega) | (intro i h0 h1; by_cases hi : i = k; (rw [hi]; have q1 := congrFun (show A165 23 = B 23 from (st_a e166 rfl)) k; have u := up_e (st_u e166); omega); (have q1 := congrFun (show A165 23 = B 23 from (st_a e166 rfl)) i; have u := up_n (st_u e166) hi; have q3 := c4 i h0 (by (first | (clear hm hnf; omega) | omega)); omega))) (Exists.intro ng (And.intro (by first | exact qtm hm hnf (by (try clear hm hnf); omega) | omega) hT))))))))))))
    · refine fun k B mm hB hz hI => ?_
      obtain ⟨i1, j1, f1, hm, c0, c1, c2, c3, c4, c5, ⟨nf, hnf, hT⟩⟩ := hI
      obtain ⟨hz_k, _⟩ := hz
      obtain ⟨ng, rfl⟩ : ∃ k, nf = k + 1 := ⟨nf - 1, by omega⟩
      replace hT := (fM_law_c75.eq_1 (fM_law_L ng) k B).symm.trans ((fM_law_L75 ng k B).symm.trans hT)
      have hc_0_27 := ivf_at j1 6 rfl
      have hc_0_28 := ivf_at j1 7 rfl
      have hc_0_31 := ivf_at j1 8 rfl
      have hc_0_32 := ivf_at j1 9 rfl
      have hc_0_33 := ivf_at j1 4 rfl
      have hc_0_35 := ivf_at j1 3 rfl
      refine fun v178 gv178 e179 => ?_
      replace hT := qlc e179 hT
      have b180 := ivf_at j1 4 rfl
      refine And.intro (fun h181 => ?_) (fun h181 => ?_)
      · replace hT := (if_neg (Int.not_lt.mpr h181)).symm.trans hT
        refine fun v182 gv182 e183 => ?_
        replace hT := qlc e183 hT
        have b184 := ivf_at j1 4 rfl
        have q185 : v178 = v182 := (e183.trans e179.symm).symm
        subst q185
        exact hK _ i1 j1 f1 _ (by (first | (clear hm hnf; omega) | omega)) (WF_of (by assumption) (by (first | (clear hm hnf; omega) | omega)) (by assumption) (fun i h0 h1 => c5 i h0 (by (first | (clear hm hnf; omega) | omega)))) (congrArg Prod.fst hT) (congrArg Prod.snd hT)
      · replace hT := (if_pos h181).symm.trans hT
        refine And.intro (by (first | (clear hm hnf; omega) | omega)) (fun v186 gv186 e187 => ?_)
        replace hT := qlc e187 hT
        refine And.intro (by (first | (clear hm hnf; omega) | omega)) (fun A188 e189 => ?_)
        replace hT := qlc e189 hT
        have i190 := iva_st i1 e189 trivial
        have j191 := ivf_sa j1 e189 rfl
        have f192 := frm_s f1 e189 rfl
        have t193 : A188 0 (fd 27) = B 0 (fd 27) := (congrFun (st_a e189 rfl) _)
        have t194 : A188 0 (fd 28) = B 0 (fd 28) := (congrFun (st_a e189 rfl) _)
        have t195 : A188 0 (fd 31) = B 0 (fd 31) := (congrFun (st_a e189 rfl) _)
        have t196 : A188 0 (fd 32) = B 0 (fd 32) := (congrFun (st_a e189 rfl) _)
        have t197 : A188 0 (fd 33) = B 0 (fd 33) := (congrFun (st_a e189 rfl) _)
        have t198 : A188 0 (fd 35) = B 0 (fd 35) := (congrFun (st_a e189 rfl) _)
        have hq1 := congrFun (show A188 26 = B 26 from (st_a e189 rfl)) k
        refine And.intro (by (first | (clear hm hnf; omega) | omega)) (fun v199 gv199 e200 => ?_)
        replace hT := qlc e200 hT
        have b201 := iva_at i190 27 rfl (i := k) (by (first | (clear hm hnf; omega) | omega)) (by (first | (clear hm hnf; omega) | omega))
        refine And.intro (by (first | (clear hm hnf; omega) | omega)) (fun A202 e203 => ?_)
        replace hT := qlc e203 hT
        have i204 := iva_st i190 e203 (And.intro (by (first | (clear hm hnf; omega) | omega)) trivial)
        have j205 := ivf_sa j191 e203 rfl
        have f206 := frm_s f192 e203 rfl
        have t207 : A202 0 (fd 27) = A188 0 (fd 27) := (congrFun (st_a e203 rfl) _)
        have t208 : A202 0 (fd 28) = A188 0 (fd 28) := (congrFun (st_a e203 rfl) _)
        have t209 : A202 0 (fd 31) = A188 0 (fd 31) := (congrFun (st_a e203 rfl) _)
        have t210 : A202 0 (fd 32) = A188 0 (fd 32) := (congrFun (st_a e203 rfl) _)
        have t211 : A202 0 (fd 33) = A188 0 (fd 33) := (congrFun (st_a e203 rfl) _)
        have t212 : A202 0 (fd 35) = A188 0 (fd 35) := (congrFun (st_a e203 rfl) _)
        have hq2 := congrFun (show A202 27 = B 27 from (Eq.trans (st_a e203 rfl) (st_a e189 rfl))) k
        refine And.intro (by (first | (clear hm hnf; omega) | omega)) (fun v213 gv213 e214 => ?_)
        replace hT := qlc e214 hT
        have b215 := iva_at i204 28 rfl (i := k) (by (first | (clear hm hnf; omega) | omega)) (by (first | (clear hm hnf; omega) | omega))
        refine And.intro (by (first | (clear hm hnf; omega) | omega)) (fun A216 e217 => ?_)
        replace hT := qlc e217 hT
        have i218 := iva_st i204 e217 (And.intro (by (first | (clear hm hnf; omega) | omega)) trivial)
        have j219 := ivf_sa j205 e217 rfl
        have f220 := frm_s f206 e217 rfl
        have t221 : A216 0 (fd 27) = A202 0 (fd 27) := (congrFun (st_a e217 rfl) _)
        have t222 : A216 0 (fd 28) = A202 0 (fd 28) := (congrFun (st_a e217 rfl) _)
        have t223 : A216 0 (fd 31) = A202 0 (fd 31) := (congrFun (st_a e217 rfl) _)
        have t224 : A216 0 (fd 32) = A202 0 (fd 32) := (congrFun (st_a e217 rfl) _)
        have t225 : A216 0 (fd 33) = A202 0 (fd 33) := (congrFun (st_a e217 rfl) _)
        have t226 : A216 0 (fd 35) = A202 0 (fd 35) := (congrFun (st_a e217 rfl) _)
        have hq3 := congrFun (show A216 28 = B 28 from (Eq.trans (Eq.trans (st_a e217 rfl) (st_a e203 rfl)) (st_a e189 rfl))) k
        refine And.intro (by (first | (clear hm hnf; omega) | omega)) (fun v227 gv227 e228 => ?_)
        replace hT := qlc e228 hT
        have b229 := iva_at i218 29 rfl (i := k) (by (first | (clear hm hnf; omega) | omega)) (by (first | (clear hm hnf; omega) | omega))
        refine And.intro (by (first | (clear hm hnf; omega) | omega)) (fun A230 e231 => ?_)
        replace hT := qlc e231 hT
        have i232 := iva_st i218 e231 (And.intro (by (first | (clear hm hnf; omega) | omega)) trivial)
        have j233 := ivf_sa j219 e231 rfl
        have f234 := frm_s f220 e231 rfl
        have t235 : A230 0 (fd 27) = A216 0 (fd 27) := (congrFun (st_a e231 rfl) _)
        have t236 : A230 0 (fd 28) = A216 0 (fd 28) := (congrFun (st_a e231 rfl) _)
        have t237 : A230 0 (fd 31) = A216 0 (fd 31) := (congrFun (st_a e231 rfl) _)
        have t238 : A230 0 (fd 32) = A216 0 (fd 32) := (congrFun (st_a e231 rfl) _)
        have t239 : A230 0 (fd 33) = A216 0 (fd 33) := (congrFun (st_a e231 rfl) _)
        have t240 : A230 0 (fd 35) = A216 0 (fd 35) := (congrFun (st_a e231 rfl) _)
        refine fun v241 e242 => ?_
        replace hT := qlc e242 hT
        exact And.intro (by (first | (clear hm hnf; omega) | omega)) (Exists.intro (100 - v241 : Int).toNat (And.intro (by first | exact qtn hm (by (try clear hm hnf); omega) | omega) (And.intro i232 (And.intro j233 (And.intro f234 (And.intro rfl (dqA2 (by (first | (clear hm hnf; omega) | omega)) (And.intro (by first | assumption | exact WS_k (by assumption) (Eq.trans (Eq.trans (Eq.trans (st_a e231 rfl) (st_a e217 rfl)) (st_a e203 rfl)) (st_a e189 rfl)) (Eq.trans (Eq.trans (Eq.trans (st_a e231 rfl) (st_a e217 rfl)) (st_a e203 rfl)) (st_a e189 rfl)) (Eq.trans (Eq.trans (Eq.trans (st_a e231 rfl) (st_a e217 rfl)) (st_a e203 rfl)) (st_a e189 rfl)) (Eq.trans (Eq.trans (Eq.trans (st_a e231 rfl) (st_a e217 rfl)) (st_a e203 rfl)) (st_a e189 rfl)) (by (first | (clear hm hnf; omega) | omega)) (by (first | (clear hm hnf; omega) | omega))) (And.intro (by (first | (clear hm hnf; omega) | omega)) (And.intro (by first | (intro i h0 h1; exact c4 i h0 (by (first | (clear hm hnf; omega) | omega))) | (intro i h0 h1; have q1 := congrFun (show A230 23 = B 23 from (Eq.trans (Eq.trans (Eq.trans (st_a e231 rfl) (st_a e217 rfl)) (st_a e203 rfl)) (st_a e189 rfl))) i; have q2 := congrFun (show A230 29 = B 29 from (Eq.trans (Eq.trans (Eq.trans (st_a e231 rfl) (st_a e217 rfl)) (st_a e203 rfl)) (st_a e189 rfl))) i; have q3 := c4 i h0 (by (first | (clear hm hnf; omega) | omega)); omega)) (And.intro (by first | (intro i h0 h1; omega) | (intro i h0 h1; by_cases hi : i = k; (rw [hi]; have q26 := congrFun (show A230 26 = B 26 from (Eq.trans (Eq.trans (Eq.trans (st_a e231 rfl) (st_a e217 rfl)) (st_a e203 rfl)) (st_a e189 rfl))) k; have q27 := congrFun (show A230 27 = B 27 from (Eq.trans (Eq.trans (Eq.trans (st_a e231 rfl) (st_a e217 rfl)) (st_a e203 rfl)) (st_a e189 rfl))) k; have q28 := congrFun (show A230 28 = B 28 from (Eq.trans (Eq.trans (Eq.trans (st_a e231 rfl) (st_a e217 rfl)) (st_a e203 rfl)) (st_a e189 rfl))) k; have u1 := up_e (Eq.trans (Eq.trans (st_a e231 rfl) (st_a e217 rfl)) (Eq.trans (st_u e203) (cu (st_a e189 rfl)))); have u2 := up_e (Eq.trans (st_a e231 rfl) (Eq.trans (st_u e217) (cu (Eq.trans (st_a e203 rfl) (st_a e189 rfl))))); have u3 := up_e (Eq.trans (st_u e231) (cu (Eq.trans (Eq.trans (st_a e217 rfl) (st_a e203 rfl)) (st_a e189 rfl)))); exact ⟨by (first | (clear hm hnf; omega) | omega), by (first | (clear hm hnf; omega) | omega), by (first | (clear hm hnf; omega) | omega)⟩); (have q26 := congrFun (show A230 26 = B 26 from (Eq.trans (Eq.trans (Eq.trans (st_a e231 rfl) (st_a e217 rfl)) (st_a e203 rfl)) (st_a e189 rfl))) i; have q27 := congrFun (show A230 27 = B 27 from (Eq.trans (Eq.trans (Eq.trans (st_a e231 rfl) (st_a e217 rfl)) (st_a e203 rfl)) (st_a e189 rfl))) i; have q28 := congrFun (show A230 28 = B 28 from (Eq.trans (Eq.trans (Eq.trans (st_a e231 rfl) (st_a e217 rfl)) (st_a e203 rfl)) (st_a e189 rfl))) i; have u1 := up_n (Eq.trans (Eq.trans (st_a e231 rfl) (st_a e217 rfl)) (Eq.trans (st_u e203) (cu (st_a e189 rfl)))) hi; have u2 := up_n (Eq.trans (st_a e231 rfl) (Eq.trans (st_u e217) (cu (Eq.trans (st_a e203 rfl) (st_a e189 rfl))))) hi; have u3 := up_n (Eq.trans (st_u e231) (cu (Eq.trans (Eq.trans (st_a e217 rfl) (st_a e203 rfl)) (st_a e189 rfl)))) hi; have q3 := c5 i h0 (by (first | (clear hm hnf; omega) | omega)); exact ⟨by (first | (clear hm hnf; omega) | omega), by (first | (clear hm hnf; omega) | omega), by (first | (clear hm hnf; omega) | omega)⟩))) (Exists.intro ng (And.intro (by first | exact qtm hm hnf (by (try clear hm hnf); omega) | omega) hT)))))))))))))
  · refine Exists.intro n (Exists.intro 1 (Exists.intro 200 (And.intro rfl (And.intro (fun h2 => ?_) (fun h2 => ?_)))))
    · replace hT := (if_pos h2).symm.trans hT
      refine And.intro (fun h3 => by exfalso; omega) (fun h3 => ?_)
      refine fun v4 gv4 e5 => ?_
      replace hT := qlc e5 hT
      have b6 := ivf_at j0 1 rfl
      refine And.intro (fun h7 => ?_) (fun h7 => ?_)
      · replace hT := (if_neg (Int.not_lt.mpr h7)).symm.trans hT
        refine fun A8 e9 => ?_
        replace hT := qlc e9 hT
        have i10 := iva_sf i0 e9 rfl
        have j11 := ivf_st j0 e9 (And.intro (by (first | (clear hm hnf; omega) | omega)) trivial)
        have f12 := frm_sf f0 e9 rfl
        have t13 := st_v e9
        have t14 : A8 0 (fd 28) = A 0 (fd 28) := (st_f e9 rfl)
        have t15 : A8 0 (fd 31) = A 0 (fd 31) := (st_f e9 rfl)
        have t16 : A8 0 (fd 32) = A 0 (fd 32) := (st_f e9 rfl)
        have t17 : A8 0 (fd 33) = A 0 (fd 33) := (st_f e9 rfl)
        have t18 : A8 0 (fd 35) = A 0 (fd 35) := (st_f e9 rfl)
        refine fun A19 e20 => ?_
        replace hT := qlc e20 hT
        have i21 := iva_sf i10 e20 rfl
        have j22 := ivf_st j11 e20 (And.intro (by (first | (clear hm hnf; omega) | omega)) trivial)
        have f23 := frm_sf f12 e20 rfl
        have t24 : A19 0 (fd 27) = A8 0 (fd 27) := (st_f e20 rfl)
        have t25 := st_v e20
        have t26 : A19 0 (fd 31) = A8 0 (fd 31) := (st_f e20 rfl)
        have t27 : A19 0 (fd 32) = A8 0 (fd 32) := (st_f e20 rfl)
        have t28 : A19 0 (fd 33) = A8 0 (fd 33) := (st_f e20 rfl)
        have t29 : A19 0 (fd 35) = A8 0 (fd 35) := (st_f e20 rfl)
        refine fun A30 e31 => ?_
        replace hT := qlc e31 hT
        have i32 := iva_sf i21 e31 rfl
        have j33 := ivf_st j22 e31 (And.intro (by (first | (clear hm hnf; omega) | omega)) trivial)
        have f34 := frm_sf f23 e31 rfl
        have t35 : A30 0 (fd 27) = A19 0 (fd 27) := (st_f e31 rfl)
        have t36 : A30 0 (fd 28) = A19 0 (fd 28) := (st_f e31 rfl)
        have t37 := st_v e31
        have t38 : A30 0 (fd 32) = A19 0 (fd 32) := (st_f e31 rfl)
        have t39 : A30 0 (fd 33) = A19 0 (fd 33) := (st_f e31 rfl)
        have t40 : A30 0 (fd 35) = A19 0 (fd 35) := (st_f e31 rfl)
        refine fun A41 e42 => ?_
        replace hT := qlc e42 hT
        have i43 := iva_sf i32 e42 rfl
        have j44 := ivf_st j33 e42 (And.intro (by (first | (clear hm hnf; omega) | omega)) trivial)
        have f45 := frm_sf f34 e42 rfl
        have t46 : A41 0 (fd 27) = A30 0 (fd 27) := (st_f e42 rfl)
        have t47 : A41 0 (fd 28) = A30 0 (fd 28) := (st_f e42 rfl)
        have t48 : A41 0 (fd 31) = A30 0 (fd 31) := (st_f e42 rfl)
        have t49 : A41 0 (fd 32) = A30 0 (fd 32) := (st_f e42 rfl)
        have t50 := st_v e42
        have t51 : A41 0 (fd 35) = A30 0 (fd 35) := (st_f e42 rfl)
        have ws0 : WS A41 := fun q h0 h1 => by (first | (clear hm hnf; omega) | omega)
        refine And.intro rfl (And.intro (And.intro i43 (And.intro j44 (And.intro (by first | assumption | omega | simp_all) (by first | assumption | omega | simp_all)))) (fun A52 i53 j54 f55 r56 g62 g63 g57 g58 g59 g60 g61 => ?_))
        replace hT := qlpc g60 g61 hT
        clear g60 g61
        have f64 := frm_c f45 f55 rfl
        have t65 := ivf_at j54 6 rfl
        have t66 : A52 0 (fd 28) = A41 0 (fd 28) := (frm_f f55 rfl)
        have t67 := ivf_at j54 8 rfl
        have t68 := ivf_at j54 9 rfl
        have t69 := ivf_at j54 4 rfl
        have t70 : A52 0 (fd 35) = A41 0 (fd 35) := (frm_f f55 rfl)
        have hmz := mul_bd (a := r56) (b := 201 - A52 0 (fd 27)) (p := 1) (q := 201) (by (first | (clear hm hnf; omega) | omega)) (by (first | (clear hm hnf; omega) | omega)) (by (first | (clear hm hnf; omega) | omega)) (by (first | (clear hm hnf; omega) | omega))
        exact Exists.intro (r56 * (201 - A52 0 (fd 27)) + 5000 : Int).toNat (And.intro i53 (And.intro j54 (And.intro f64 (And.intro rfl (dqA2 (by (first | (clear hm hnf; omega) | omega)) (And.intro (by first | exact Or.inl rfl | assumption | (exact Or.inr (Or.resolve_left g57 (by (first | (clear hm hnf; omega) | omega))))) (And.intro (by (first | (clear hm hnf; omega) | omega)) (And.intro (Eq.trans (Eq.trans (Eq.trans (Eq.trans (frm_a f55 rfl) (st_a e42 rfl)) (st_a e31 rfl)) (st_a e20 rfl)) (st_a e9 rfl)) (And.intro (Eq.trans (Eq.trans (Eq.trans (Eq.trans (frm_a f55 rfl) (st_a e42 rfl)) (st_a e31 rfl)) (st_a e20 rfl)) (st_a e9 rfl)) (And.intro (Eq.trans (Eq.trans (Eq.trans (Eq.trans (frm_a f55 rfl) (st_a e42 rfl)) (st_a e31 rfl)) (st_a e20 rfl)) (st_a e9 rfl)) (And.intro (Eq.trans (Eq.trans (Eq.trans (Eq.trans (frm_a f55 rfl) (st_a e42 rfl)) (st_a e31 rfl)) (st_a e20 rfl)) (st_a e9 rfl)) (And.intro (by (first | (clear hm hnf; omega) | omega)) (Exists.intro 100000 (And.intro (by (first | (clear hm hnf; omega) | omega)) hT))))))))))))))
      · replace hT := (if_pos h7).symm.trans hT
        exact hK _ i0 j0 f0 _ (by first | assumption | exact ⟨by (first | (clear hm hnf; omega) | omega), by (first | (clear hm hnf; omega) | omega)⟩ | exact wI_rng _ | exact i_rng _ | (subst_vars; exact i_rng _) | exact (hA _ _).2 rfl) (by first | assumption | omega | simp_all) (congrArg Prod.fst hT) (congrArg Prod.snd hT)
    · replace hT := (if_neg h2).symm.trans hT
      refine And.intro (fun h71 => ?_) (fun h71 => by exfalso; omega)
      exact hK _ i0 j0 f0 _ (by first | assumption | exact ⟨by (first | (clear hm hnf; omega) | omega), by (first | (clear hm hnf; omega) | omega)⟩ | exact wI_rng _ | exact i_rng _ | (subst_vars; exact i_rng _) | exact (hA _ _).2 rfl) (by first | assumption | omega | simp_all) (congrArg Prod.fst hT) (congrArg Prod.snd hT)
theorem pM_law {n : Int} {A : qA} (hA : qokA LM A) (rg_n : rng n) (p0 : iva IM A) (p1 : ivf JM A) (p2 : WF A) : qokA LM (fM_law n A).2 ∧ iva IM (fM_law n A).2 ∧ ivf JM (fM_law n A).2 ∧ frm [23, 24, 25, 26, 27, 28, 29, 30, 31, 32, 33] [(0, 27), (0, 29), (0, 30), (0, 31), (0, 32), (0, 34), (0, 33), (0, 26), (0, 28), (0, 35)] A (fM_law n A).2 ∧ rng (fM_law n A).1 ∧ (WF (fM_law n A).2) := by
  obtain ⟨r, B, hB, _, hk⟩ := okM_ex okM_law (as := [rf 0, ni n]) (K := fun _ B => B = (fM_law n A).2 ∧ iva IM (fM_law n A).2 ∧ ivf JM (fM_law n A).2 ∧ frm [23, 24, 25, 26, 27, 28, 29, 30, 31, 32, 33] [(0, 27), (0, 29), (0, 30), (0, 31), (0, 32), (0, 34), (0, 33), (0, 26), (0, 28), (0, 35)] A (fM_law n A).2 ∧ rng (fM_law n A).1 ∧ (WF (fM_law n A).2)) hA (qoks_c (show qok (rf _) from trivial) (qoks_c (rg_n) qoks_n)) ⟨n, rfl, ⟨p0, p1, p2⟩, fun A9 i9 j9 f9 r9 g9 x0 x1 x2 => (by rw [← x2]; (try rw [← x1]); exact ⟨rfl, i9, j9, f9, g9, x0⟩)⟩
  exact ⟨hk.1 ▸ hB, hk.2⟩
