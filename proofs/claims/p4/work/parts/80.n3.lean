/-! the reference's clauses -/
def WS (A : qA) : Prop := ∀ q, 0 ≤ q → q < A 0 (fd 33) → SEG (fun _ => A 23) (A 26 q) (A 27 q) ∧ SEG (fun _ => A 23) (A 27 q) (A 28 q) ∧ A 28 q ≤ A 0 (fd 31)
theorem SEG_e {A : qA} {f t f' t' : Int} (h : SEG A f t) (hf : f' = f) (ht : t' = t) : SEG A f' t' := by
  subst hf ht
  exact h
theorem SEG_b {A : qA} {f t : Int} (h : SEG A f t) : 0 ≤ f ∧ f ≤ t := by
  obtain ⟨δ, a, b, d, g, h⟩ := h
  exact ⟨a, d.1⟩
theorem WS_k {A A' : qA} (h : WS A) (h23 : A' 23 = A 23) (h26 : A' 26 = A 26) (h27 : A' 27 = A 27) (h28 : A' 28 = A 28) (h33 : A' 0 (fd 33) = A 0 (fd 33)) (h31 : A 0 (fd 31) ≤ A' 0 (fd 31)) : WS A' := by
  intro q h0 h1
  rw [h33] at h1
  have hq := h q h0 h1
  rw [h23, h26, h27, h28]
  exact ⟨hq.1, hq.2.1, by omega⟩
theorem WS_1 {A A' : qA} {a b t : Int} (hw : WS A) (h23 : ∀ k, k < A 0 (fd 31) → A' 23 k = A 23 k) (h26 : A' 26 = (fun i : Int => if i = A 0 (fd 33) then a else A 26 i)) (h27 : A' 27 = (fun i : Int => if i = A 0 (fd 33) then b else A 27 i)) (h28 : A' 28 = (fun i : Int => if i = A 0 (fd 33) then t else A 28 i)) (h33 : A' 0 (fd 33) = A 0 (fd 33) + 1) (s1 : SEG (fun _ => A' 23) a b) (s2 : SEG (fun _ => A' 23) b t) (ht : t ≤ A' 0 (fd 31)) (hm : A 0 (fd 31) ≤ A' 0 (fd 31)) : WS A' := by
  intro q h0 h1
  by_cases hq : q = A 0 (fd 33)
  · rw [h26, h27, h28]
    simp only [hq, if_true]
    exact ⟨s1, s2, ht⟩
  · rw [h26, h27, h28]
    simp only [if_neg hq]
    have hs := hw q h0 (by omega)
    have b1 := SEG_b hs.1
    have b2 := SEG_b hs.2.1
    exact ⟨SEG_c hs.1 (fun k _ k1 => h23 k (by omega)), SEG_c hs.2.1 (fun k _ k1 => h23 k (by omega)), by omega⟩
theorem WF_k {A A' : qA} (h : WF A) (h29 : A' 29 = A 29) (h31 : A' 31 = A 31) (h32 : A' 32 = A 32) (h33 : A' 33 = A 33) (h35 : A' 0 (fd 35) = A 0 (fd 35)) : WF A' := by
  intro q h0 h1
  rw [h35] at h1
  have hq := h q h0 h1
  rw [h31, h32, h33]
  exact ⟨SEG_k hq.1 h29, SEG_k hq.2 h29⟩
theorem WF_of {A : qA} (hw : WS A) (h35 : A 0 (fd 35) = A 0 (fd 33)) (h29 : ∀ i, 0 ≤ i → i < A 0 (fd 31) → A 29 i = A 23 i) (h3 : ∀ i, 0 ≤ i → i < A 0 (fd 33) → A 31 i = A 26 i ∧ A 32 i = A 27 i ∧ A 33 i = A 28 i) : WF A := by
  intro q h0 h1
  rw [h35] at h1
  have hs := hw q h0 h1
  have h4 := h3 q h0 h1
  rw [h4.1, h4.2.1, h4.2.2]
  have b1 := SEG_b hs.1
  have b2 := SEG_b hs.2.1
  exact ⟨SEG_of hs.1 (fun k k0 k1 => h29 k (by omega) (by omega)), SEG_of hs.2.1 (fun k k0 k1 => h29 k (by omega) (by omega))⟩
def sM_readsClause : qS := fun as A K => as = [rf 0] ∧ (iva IM A ∧ ivf JM A ∧ (WS A) ∧ (A 0 (fd 31) ≤ A 0 (fd 27))) ∧ (∀ A' : qA, iva IM A' → ivf JM A' → frm [23, 24, 25, 26, 27, 28] [(0, 27), (0, 29), (0, 30), (0, 31), (0, 32), (0, 34), (0, 33)] A A' → ∀ r : Int, 0 ≤ r → r ≤ 1 → (r = 0 ∨ WS A') → (r = 0 ∨ A' 0 (fd 31) ≤ A' 0 (fd 27)) → (r = 0 ∨ A 0 (fd 27) < A' 0 (fd 27)) → K (some (ni r)) A')
theorem okM_readsClause : okM LM 8 182 sM_readsClause := by
  refine qmeth [] false [(162, sM_here), (181, sM_canBegin), (175, sM_readsSum), (180, sM_readsCondition), (164, sM_wrongAt)] 85 rfl ⟨okM_here.le (by decide), ⟨okM_canBegin.le (by decide), ⟨okM_readsSum.le (by decide), ⟨okM_readsCondition.le (by decide), ⟨okM_wrongAt.le (by decide), trivial⟩⟩⟩⟩⟩ ?_
  rintro _ A K hA has ⟨rfl, ⟨i0, j0, p1, p2⟩, hK⟩
  have f0 := frm_0 [23, 24, 25, 26, 27, 28] [(0, 27), (0, 29), (0, 30), (0, 31), (0, 32), (0, 34), (0, 33)] A
  have hb_0_27 := ivf_at j0 6 rfl
  have hb_0_28 := ivf_at j0 7 rfl
  have hb_0_31 := ivf_at j0 8 rfl
  have hb_0_32 := ivf_at j0 9 rfl
  have hb_0_33 := ivf_at j0 4 rfl
  refine ⟨Nat.le_of_ble_eq_true rfl, [], trivial, ?_⟩
  refine And.intro rfl (And.intro (And.intro i0 j0) (fun r3 g6 g7 g4 g5 => ?_))
  refine Exists.intro r3 (And.intro rfl (fun r8 g10 g11 g9 => ?_))
  refine And.intro (fun h12 => ?_) (fun h12 => ?_)
  · refine fun v13 gv13 e14 => ?_
    have b15 := ivf_at j0 4 rfl
    refine And.intro (fun h16 => ?_) (fun h16 => ?_)
    · refine fun v17 gv17 e18 => ?_
      have b19 := ivf_at j0 4 rfl
      have q20 : v13 = v17 := (e18.trans e14.symm).symm
      subst q20
      refine And.intro (by omega) (fun A21 e22 => ?_)
      have i23 := iva_st i0 e22 trivial
      have j24 := ivf_sa j0 e22 rfl
      have f25 := frm_s f0 e22 rfl
      have t26 : A21 0 (fd 27) = A 0 (fd 27) := (congrFun (st_a e22 rfl) _)
      have t27 : A21 0 (fd 28) = A 0 (fd 28) := (congrFun (st_a e22 rfl) _)
      have t28 : A21 0 (fd 31) = A 0 (fd 31) := (congrFun (st_a e22 rfl) _)
      have t29 : A21 0 (fd 32) = A 0 (fd 32) := (congrFun (st_a e22 rfl) _)
      have t30 : A21 0 (fd 33) = A 0 (fd 33) := (congrFun (st_a e22 rfl) _)
      refine fun v31 gv31 e32 => ?_
      have b33 := ivf_at j24 6 rfl
      refine fun v34 e35 => ?_
      refine And.intro (by omega) (fun A36 e37 => ?_)
      have i38 := iva_sf i23 e37 rfl
      have j39 := ivf_st j24 e37 (And.intro (by omega) trivial)
      have f40 := frm_sf f25 e37 rfl
      have t41 := st_v e37
      have t42 : A36 0 (fd 28) = A21 0 (fd 28) := (st_f e37 rfl)
      have t43 : A36 0 (fd 31) = A21 0 (fd 31) := (st_f e37 rfl)
      have t44 : A36 0 (fd 32) = A21 0 (fd 32) := (st_f e37 rfl)
      have t45 : A36 0 (fd 33) = A21 0 (fd 33) := (st_f e37 rfl)
      refine fun v46 gv46 e47 => ?_
      have b48 := ivf_at j39 4 rfl
      have q49 : v13 = v46 := (e47.trans ((Eq.trans (st_f e37 rfl) (congrFun (st_a e22 rfl) _)).trans e18.symm)).symm
      subst q49
      refine fun v50 gv50 e51 => ?_
      have b52 := ivf_at j39 8 rfl
      refine And.intro (by omega) (fun A53 e54 => ?_)
      have i55 := iva_st i38 e54 (And.intro (by omega) trivial)
      have j56 := ivf_sa j39 e54 rfl
      have f57 := frm_s f40 e54 rfl
      have t58 : A53 0 (fd 27) = A36 0 (fd 27) := (congrFun (st_a e54 rfl) _)
      have t59 : A53 0 (fd 28) = A36 0 (fd 28) := (congrFun (st_a e54 rfl) _)
      have t60 : A53 0 (fd 31) = A36 0 (fd 31) := (congrFun (st_a e54 rfl) _)
      have t61 : A53 0 (fd 32) = A36 0 (fd 32) := (congrFun (st_a e54 rfl) _)
      have t62 : A53 0 (fd 33) = A36 0 (fd 33) := (congrFun (st_a e54 rfl) _)
      refine fun A63 e64 => ?_
      have i65 := iva_sf i55 e64 rfl
      have j66 := ivf_st j56 e64 trivial
      have f67 := frm_sf f57 e64 rfl
      have t68 : A63 0 (fd 27) = A53 0 (fd 27) := (st_f e64 rfl)
      have t69 : A63 0 (fd 28) = A53 0 (fd 28) := (st_f e64 rfl)
      have t70 : A63 0 (fd 31) = A53 0 (fd 31) := (st_f e64 rfl)
      have t71 : A63 0 (fd 32) = A53 0 (fd 32) := (st_f e64 rfl)
      have t72 : A63 0 (fd 33) = A53 0 (fd 33) := (st_f e64 rfl)
      refine fun A73 e74 => ?_
      have i75 := iva_sf i65 e74 rfl
      have j76 := ivf_st j66 e74 (And.intro (by omega) trivial)
      have f77 := frm_sf f67 e74 rfl
      have t78 : A73 0 (fd 27) = A63 0 (fd 27) := (st_f e74 rfl)
      have t79 : A73 0 (fd 28) = A63 0 (fd 28) := (st_f e74 rfl)
      have t80 : A73 0 (fd 31) = A63 0 (fd 31) := (st_f e74 rfl)
      have t81 := st_v e74
      have t82 : A73 0 (fd 33) = A63 0 (fd 33) := (st_f e74 rfl)
      have ps83 : PS A73 (A 23) (A 0 (fd 31)) 0 0 0 := PS_0 (Eq.trans (Eq.trans (Eq.trans (Eq.trans (st_a e74 rfl) (st_a e64 rfl)) (st_a e54 rfl)) (st_a e37 rfl)) (st_a e22 rfl)) (by omega) (by omega) (by omega) (by omega)
      have z84 := PS_bd ps83
      refine Exists.intro (A 23) (Exists.intro (A 0 (fd 31)) (Exists.intro 0 (Exists.intro 0 (And.intro rfl (And.intro (And.intro i75 (And.intro j76 (And.intro (PS_k ps83 rfl rfl (by omega) (by omega) (by omega) (by omega) (by omega) (by omega)) (And.intro (by first | assumption | omega | simp_all) (by first | assumption | omega | simp_all))))) (fun A85 i86 j87 f88 r89 g93 g94 g90 g91 g92 => ?_))))))
      have f95 := frm_c f77 f88 rfl
      have t96 := ivf_at j87 6 rfl
      have t97 : A85 0 (fd 28) = A73 0 (fd 28) := (frm_f f88 rfl)
      have t98 := ivf_at j87 8 rfl
      have t99 := ivf_at j87 9 rfl
      have t100 : A85 0 (fd 33) = A73 0 (fd 33) := (frm_f f88 rfl)
      refine And.intro (fun h101 => ?_) (fun h101 => ?_)
      · have sg1 := PS_seg (Or.resolve_left g90 (by omega)) (by omega) (by have q9 := PS_bd (Or.resolve_left g90 (by omega)); omega)
        have cz1 := PS_c0 (Or.resolve_left g90 (by omega))
        have zb1 := PS_bd (Or.resolve_left g90 (by omega))
        refine fun v102 gv102 e103 => ?_
        have b104 := ivf_at j87 4 rfl
        have q105 : v13 = v102 := (e103.trans ((Eq.trans (Eq.trans (Eq.trans (frm_f f88 rfl) (st_f e74 rfl)) (st_f e64 rfl)) (congrFun (st_a e54 rfl) _)).trans e47.symm)).symm
        subst q105
        refine fun v106 gv106 e107 => ?_
        have b108 := ivf_at j87 8 rfl
        refine And.intro (by omega) (fun A109 e110 => ?_)
        have i111 := iva_st i86 e110 (And.intro (by omega) trivial)
        have j112 := ivf_sa j87 e110 rfl
        have f113 := frm_s f95 e110 rfl
        have t114 : A109 0 (fd 27) = A85 0 (fd 27) := (congrFun (st_a e110 rfl) _)
        have t115 : A109 0 (fd 28) = A85 0 (fd 28) := (congrFun (st_a e110 rfl) _)
        have t116 : A109 0 (fd 31) = A85 0 (fd 31) := (congrFun (st_a e110 rfl) _)
        have t117 : A109 0 (fd 32) = A85 0 (fd 32) := (congrFun (st_a e110 rfl) _)
        have t118 : A109 0 (fd 33) = A85 0 (fd 33) := (congrFun (st_a e110 rfl) _)
        have cy1 : ∀ k, k < A 0 (fd 31) → A109 23 k = A 23 k := fun k hk => (congrFun (st_a e110 rfl) k).trans (cz1 k hk)
        have sy1 : SEG (fun _ => A109 23) (A 0 (fd 31)) (A109 0 (fd 31)) := SEG_e (SEG_c sg1 (fun k _ _ => congrFun (st_a e110 rfl) k)) rfl (by omega)
        refine And.intro rfl (And.intro (And.intro i111 (And.intro j112 (by first | assumption | omega | simp_all))) (fun A119 i120 j121 f122 r123 g127 g128 g124 g125 g126 => ?_))
        have f129 := frm_c f113 f122 rfl
        have t130 := ivf_at j121 6 rfl
        have t131 : A119 0 (fd 28) = A109 0 (fd 28) := (frm_f f122 rfl)
        have t132 := ivf_at j121 8 rfl
        have t133 := ivf_at j121 9 rfl
        have t134 : A119 0 (fd 33) = A109 0 (fd 33) := (frm_f f122 rfl)
        refine And.intro (fun h135 => ?_) (fun h135 => ?_)
        · have sg2 := PS_seg (Or.resolve_left g124 (by omega)) (by omega) (by have q9 := PS_bd (Or.resolve_left g124 (by omega)); omega)
          have cz2 := PS_c0 (Or.resolve_left g124 (by omega))
          have zb2 := PS_bd (Or.resolve_left g124 (by omega))
          have cy2 : ∀ k, k < A 0 (fd 31) → A119 23 k = A 23 k := fun k hk => (cz2 k (by omega)).trans (cy1 k hk)
          have sy2 := SEG_c sy1 (fun k _ h1 => cz2 k h1)
          refine fun v136 gv136 e137 => ?_
          have b138 := ivf_at j121 4 rfl
          have q139 : v13 = v136 := (e137.trans ((Eq.trans (frm_f f122 rfl) (congrFun (st_a e110 rfl) _)).trans e103.symm)).symm
          subst q139
          refine fun v140 gv140 e141 => ?_
          have b142 := ivf_at j121 8 rfl
          refine And.intro (by omega) (fun A143 e144 => ?_)
          have i145 := iva_st i120 e144 (And.intro (by omega) trivial)
          have j146 := ivf_sa j121 e144 rfl
          have f147 := frm_s f129 e144 rfl
          have t148 : A143 0 (fd 27) = A119 0 (fd 27) := (congrFun (st_a e144 rfl) _)
          have t149 : A143 0 (fd 28) = A119 0 (fd 28) := (congrFun (st_a e144 rfl) _)
          have t150 : A143 0 (fd 31) = A119 0 (fd 31) := (congrFun (st_a e144 rfl) _)
          have t151 : A143 0 (fd 32) = A119 0 (fd 32) := (congrFun (st_a e144 rfl) _)
          have t152 : A143 0 (fd 33) = A119 0 (fd 33) := (congrFun (st_a e144 rfl) _)
          refine fun v153 gv153 e154 => ?_
          have b155 := ivf_at j146 4 rfl
          have q156 : v13 = v153 := (e154.trans ((congrFun (st_a e144 rfl) _).trans e137.symm)).symm
          subst q156
          refine fun v157 e158 => ?_
          refine And.intro (by omega) (fun A159 e160 => ?_)
          have i161 := iva_sf i145 e160 rfl
          have j162 := ivf_st j146 e160 (And.intro (by omega) trivial)
          have f163 := frm_sf f147 e160 rfl
          have t164 : A159 0 (fd 27) = A143 0 (fd 27) := (st_f e160 rfl)
          have t165 : A159 0 (fd 28) = A143 0 (fd 28) := (st_f e160 rfl)
          have t166 : A159 0 (fd 31) = A143 0 (fd 31) := (st_f e160 rfl)
          have t167 : A159 0 (fd 32) = A143 0 (fd 32) := (st_f e160 rfl)
          have t168 := st_v e160
          exact And.intro (by omega) (hK _ i161 j162 f163 _ (by omega) (by omega) (Or.inr (WS_1 (A := A) (A' := A159) (by assumption) (fun k hk => (congrFun (Eq.trans (st_a e160 rfl) (st_a e144 rfl)) k).trans (cy2 k hk)) (up2 (Eq.trans (Eq.trans (Eq.trans (Eq.trans (Eq.trans (Eq.trans (Eq.trans (st_a e160 rfl) (st_a e144 rfl)) (frm_a f122 rfl)) (st_a e110 rfl)) (frm_a f88 rfl)) (st_a e74 rfl)) (st_a e64 rfl)) (Eq.trans (st_u e54) (cu (Eq.trans (st_a e37 rfl) (st_a e22 rfl))))) (by omega) rfl) (up2 (Eq.trans (Eq.trans (Eq.trans (st_a e160 rfl) (st_a e144 rfl)) (frm_a f122 rfl)) (Eq.trans (st_u e110) (cu (Eq.trans (Eq.trans (Eq.trans (Eq.trans (Eq.trans (frm_a f88 rfl) (st_a e74 rfl)) (st_a e64 rfl)) (st_a e54 rfl)) (st_a e37 rfl)) (st_a e22 rfl))))) (by omega) rfl) (up2 (Eq.trans (st_a e160 rfl) (Eq.trans (st_u e144) (cu (Eq.trans (Eq.trans (Eq.trans (Eq.trans (Eq.trans (Eq.trans (Eq.trans (frm_a f122 rfl) (st_a e110 rfl)) (frm_a f88 rfl)) (st_a e74 rfl)) (st_a e64 rfl)) (st_a e54 rfl)) (st_a e37 rfl)) (st_a e22 rfl))))) (by omega) rfl) (by omega) (SEG_e (SEG_c sy2 (fun k _ _ => congrFun (Eq.trans (st_a e160 rfl) (st_a e144 rfl)) k)) (by omega) (by omega)) (SEG_e (SEG_c sg2 (fun k _ _ => congrFun (Eq.trans (st_a e160 rfl) (st_a e144 rfl)) k)) (by omega) (by omega)) (by omega) (by omega))) (by omega) (by omega))
        · exact And.intro (by omega) (hK _ i120 j121 f129 _ (by omega) (by omega) (by first | assumption | omega | simp_all) (by first | assumption | omega | simp_all) (by first | assumption | omega | simp_all))
      · exact And.intro (by omega) (hK _ i86 j87 f95 _ (by omega) (by omega) (by first | assumption | omega | simp_all) (by first | assumption | omega | simp_all) (by first | assumption | omega | simp_all))
    · refine fun v169 gv169 e170 => ?_
      have b171 := ivf_at j0 6 rfl
      refine Exists.intro 4 (Exists.intro v169 (And.intro rfl (And.intro (And.intro i0 (And.intro j0 (And.intro (by omega) (And.intro (by omega) (And.intro (by omega) (by omega)))))) (fun A172 i173 j174 f175 => (fun h176 => ?_)))))
      · have f177 := frm_c f0 f175 rfl
        have t178 : A172 0 (fd 27) = A 0 (fd 27) := (frm_f f175 rfl)
        have t179 : A172 0 (fd 28) = A 0 (fd 28) := (frm_f f175 rfl)
        have t180 : A172 0 (fd 31) = A 0 (fd 31) := (frm_f f175 rfl)
        have t181 : A172 0 (fd 32) = A 0 (fd 32) := (frm_f f175 rfl)
        have t182 : A172 0 (fd 33) = A 0 (fd 33) := (frm_f f175 rfl)
        exact And.intro (by omega) (hK _ i173 j174 f177 _ (by omega) (by omega) (by first | assumption | omega | simp_all) (by first | assumption | omega | simp_all) (by first | assumption | omega | simp_all))
  · refine fun v183 gv183 e184 => ?_
    have b185 := ivf_at j0 6 rfl
    refine Exists.intro 1 (Exists.intro v183 (And.intro rfl (And.intro (And.intro i0 (And.intro j0 (And.intro (by omega) (And.intro (by omega) (And.intro (by omega) (by omega)))))) (fun A186 i187 j188 f189 => (fun h190 => ?_)))))
    · have f191 := frm_c f0 f189 rfl
      have t192 : A186 0 (fd 27) = A 0 (fd 27) := (frm_f f189 rfl)
      have t193 : A186 0 (fd 28) = A 0 (fd 28) := (frm_f f189 rfl)
      have t194 : A186 0 (fd 31) = A 0 (fd 31) := (frm_f f189 rfl)
      have t195 : A186 0 (fd 32) = A 0 (fd 32) := (frm_f f189 rfl)
      have t196 : A186 0 (fd 33) = A 0 (fd 33) := (frm_f f189 rfl)
      exact And.intro (by omega) (hK _ i187 j188 f191 _ (by omega) (by omega) (by first | assumption | omega | simp_all) (by first | assumption | omega | simp_all) (by first | assumption | omega | simp_all))
def sM_law : qS := fun as A K => ∃ n : Int, as = [rf 0, ni n] ∧ (iva IM A ∧ ivf JM A ∧ (WF A)) ∧ (∀ A' : qA, iva IM A' → ivf JM A' → frm [23, 24, 25, 26, 27, 28, 29, 30, 31, 32, 33] [(0, 27), (0, 29), (0, 30), (0, 31), (0, 32), (0, 34), (0, 33), (0, 26), (0, 28), (0, 35)] A A' → ∀ r : Int, rng r → (WF A') → K (some (ni r)) A')
theorem okM_law : okM LM 9 183 sM_law := by
  refine qmeth [] false [(145, sM_in), (182, sM_readsClause), (165, sM_takes)] 122 rfl ⟨okM_in.le (by decide), ⟨okM_readsClause.le (by decide), ⟨okM_takes.le (by decide), trivial⟩⟩⟩ ?_
  rintro _ A K hA has ⟨n, rfl, ⟨i0, j0, p1⟩, hK⟩
  have rg_n : rng n := has (ni n) (by simp)
  have f0 := frm_0 [23, 24, 25, 26, 27, 28, 29, 30, 31, 32, 33] [(0, 27), (0, 29), (0, 30), (0, 31), (0, 32), (0, 34), (0, 33), (0, 26), (0, 28), (0, 35)] A
  have hb_0_27 := ivf_at j0 6 rfl
  have hb_0_28 := ivf_at j0 7 rfl
  have hb_0_31 := ivf_at j0 8 rfl
  have hb_0_32 := ivf_at j0 9 rfl
  have hb_0_33 := ivf_at j0 4 rfl
  have hb_0_35 := ivf_at j0 3 rfl
  refine ⟨Nat.le_of_ble_eq_true rfl, [(26, [(0, 2, 0), (2, 0, 0)], fun zs B nn => match zs with | [g] => iva IM B ∧ ivf JM B ∧ frm [23, 24, 25, 26, 27, 28, 29, 30, 31, 32, 33] [(0, 27), (0, 29), (0, 30), (0, 31), (0, 32), (0, 34), (0, 33), (0, 26), (0, 28), (0, 35)] A B ∧ nn = (g * (201 - B 0 (fd 27)) + 5000 : Int).toNat ∧ (0 ≤ g) ∧ (g ≤ 1) ∧ (g = 0 ∨ WS B) ∧ (g = 0 ∨ B 0 (fd 31) ≤ B 0 (fd 27)) ∧ (B 29 = A 29) ∧ (B 31 = A 31) ∧ (B 32 = A 32) ∧ (B 33 = A 33) ∧ (B 0 (fd 35) = A 0 (fd 35)) | _ => False), (59, [(0, 2, 0), (3, 0, 0)], fun zs B nn => match zs with | [k] => iva IM B ∧ ivf JM B ∧ frm [23, 24, 25, 26, 27, 28, 29, 30, 31, 32, 33] [(0, 27), (0, 29), (0, 30), (0, 31), (0, 32), (0, 34), (0, 33), (0, 26), (0, 28), (0, 35)] A B ∧ nn = (1000 - k : Int).toNat ∧ (0 ≤ k) ∧ (k ≤ 220) ∧ (WS B) ∧ (B 0 (fd 35) = B 0 (fd 33)) ∧ (∀ i, 0 ≤ i → i < k → B 29 i = B 23 i) | _ => False), (75, [(0, 2, 0), (3, 0, 0)], fun zs B nn => match zs with | [k] => iva IM B ∧ ivf JM B ∧ frm [23, 24, 25, 26, 27, 28, 29, 30, 31, 32, 33] [(0, 27), (0, 29), (0, 30), (0, 31), (0, 32), (0, 34), (0, 33), (0, 26), (0, 28), (0, 35)] A B ∧ nn = (100 - k : Int).toNat ∧ (0 ≤ k) ∧ (k ≤ 14) ∧ (WS B) ∧ (B 0 (fd 35) = B 0 (fd 33)) ∧ (∀ i, 0 ≤ i → i < B 0 (fd 31) → B 29 i = B 23 i) ∧ (∀ i, 0 ≤ i → i < k → B 31 i = B 26 i ∧ B 32 i = B 27 i ∧ B 33 i = B 28 i) | _ => False)], ?_, ?_⟩
  · refine ⟨⟨rfl, ?_⟩, ⟨rfl, ?_⟩, ⟨rfl, ?_⟩, trivial⟩
    · refine fun g B mm hB hz hI => ?_
      obtain ⟨i1, j1, f1, hm, c0, c1, c2, c3, c4, c5, c6, c7, c8⟩ := hI
      obtain ⟨hz_g, _⟩ := hz
      have hc_0_27 := ivf_at j1 6 rfl
      have hc_0_28 := ivf_at j1 7 rfl
      have hc_0_31 := ivf_at j1 8 rfl
      have hc_0_32 := ivf_at j1 9 rfl
      have hc_0_33 := ivf_at j1 4 rfl
      have hc_0_35 := ivf_at j1 3 rfl
      have hm2 : g = 0 ∨ mm = (201 - B 0 (fd 27) + 5000).toNat := by rcases (by omega : g = 0 ∨ g = 1) with q | q; exact Or.inl q; (right; rw [hm, q, Int.one_mul])
      clear hm
      refine And.intro (fun h70 => ?_) (fun h70 => ?_)
      · refine fun A71 e72 => ?_
        have i73 := iva_sf i1 e72 rfl
        have j74 := ivf_st j1 e72 (And.intro (by omega) trivial)
        have f75 := frm_sf f1 e72 rfl
        have t76 : A71 0 (fd 27) = B 0 (fd 27) := (st_f e72 rfl)
        have t77 : A71 0 (fd 28) = B 0 (fd 28) := (st_f e72 rfl)
        have t78 : A71 0 (fd 31) = B 0 (fd 31) := (st_f e72 rfl)
        have t79 : A71 0 (fd 32) = B 0 (fd 32) := (st_f e72 rfl)
        have t80 : A71 0 (fd 33) = B 0 (fd 33) := (st_f e72 rfl)
        have t81 : A71 0 (fd 35) = B 0 (fd 35) := (st_f e72 rfl)
        refine And.intro (fun h82 => by exfalso; omega) (fun h82 => ?_)
        refine fun v83 gv83 e84 => ?_
        exact hK _ i73 j74 f75 _ (by omega) (WF_k (by assumption) (Eq.trans (st_a e72 rfl) c4) (Eq.trans (st_a e72 rfl) c5) (Eq.trans (st_a e72 rfl) c6) (Eq.trans (st_a e72 rfl) c7) (by omega))
      · refine fun v85 gv85 e86 => ?_
        have b87 := ivf_at j1 6 rfl
        refine fun v88 gv88 e89 => ?_
        have b90 := ivf_at j1 7 rfl
        refine And.intro (fun h91 => ?_) (fun h91 => ?_)
        · refine fun A92 e93 => ?_
          have i94 := iva_sf i1 e93 rfl
          have j95 := ivf_st j1 e93 (And.intro (by omega) trivial)
          have f96 := frm_sf f1 e93 rfl
          have t97 : A92 0 (fd 27) = B 0 (fd 27) := (st_f e93 rfl)
          have t98 : A92 0 (fd 28) = B 0 (fd 28) := (st_f e93 rfl)
          have t99 : A92 0 (fd 31) = B 0 (fd 31) := (st_f e93 rfl)
          have t100 : A92 0 (fd 32) = B 0 (fd 32) := (st_f e93 rfl)
          have t101 : A92 0 (fd 33) = B 0 (fd 33) := (st_f e93 rfl)
          have t102 : A92 0 (fd 35) = B 0 (fd 35) := (st_f e93 rfl)
          refine And.intro (fun h103 => ?_) (fun h103 => by exfalso; omega)
          refine fun v104 gv104 e105 => ?_
          have b106 := ivf_at j95 4 rfl
          refine fun A107 e108 => ?_
          have i109 := iva_sf i94 e108 rfl
          have j110 := ivf_st j95 e108 (And.intro (by omega) trivial)
          have f111 := frm_sf f96 e108 rfl
          have t112 : A107 0 (fd 27) = A92 0 (fd 27) := (st_f e108 rfl)
          have t113 : A107 0 (fd 28) = A92 0 (fd 28) := (st_f e108 rfl)
          have t114 : A107 0 (fd 31) = A92 0 (fd 31) := (st_f e108 rfl)
          have t115 : A107 0 (fd 32) = A92 0 (fd 32) := (st_f e108 rfl)
          have t116 : A107 0 (fd 33) = A92 0 (fd 33) := (st_f e108 rfl)
          have t117 := st_v e108
          exact Exists.intro (1000 - 0 : Int).toNat (And.intro (by omega) (And.intro i109 (And.intro j110 (And.intro f111 (And.intro rfl (And.intro (by omega) (And.intro (by omega) (And.intro (by first | exact WS_k (by assumption) (Eq.trans (st_a e108 rfl) (st_a e93 rfl)) (Eq.trans (st_a e108 rfl) (st_a e93 rfl)) (Eq.trans (st_a e108 rfl) (st_a e93 rfl)) (Eq.trans (st_a e108 rfl) (st_a e93 rfl)) (by omega) (by omega) | exact WS_k (Or.resolve_left (by assumption : g = 0 ∨ WS B) (by omega)) (Eq.trans (st_a e108 rfl) (st_a e93 rfl)) (Eq.trans (st_a e108 rfl) (st_a e93 rfl)) (Eq.trans (st_a e108 rfl) (st_a e93 rfl)) (Eq.trans (st_a e108 rfl) (st_a e93 rfl)) (by omega) (by omega)) (And.intro (by omega) (by first | (intro i h0 h1; omega) | (intro i h0 h1; by_cases hi : i = k; (rw [hi]; have q1 := congrFun (show A107 23 = B 23 from (Eq.trans (st_a e108 rfl) (st_a e93 rfl))) k; have u := up_e (Eq.trans (st_a e108 rfl) (st_a e93 rfl)); omega); (have q1 := congrFun (show A107 23 = B 23 from (Eq.trans (st_a e108 rfl) (st_a e93 rfl))) i; have u := up_n (Eq.trans (st_a e108 rfl) (st_a e93 rfl)) hi; have q3 := c4 i h0 (by omega); omega))))))))))))
        · refine Exists.intro 59 (And.intro rfl (And.intro (And.intro i1 (And.intro j1 (And.intro (by omega) (by omega)))) (fun A118 i119 j120 f121 r122 g124 g125 g123 => ?_)))
          have f126 := frm_c f1 f121 rfl
          have t127 := ivf_at j120 6 rfl
          have t128 : A118 0 (fd 28) = B 0 (fd 28) := (frm_f f121 rfl)
          have t129 : A118 0 (fd 31) = B 0 (fd 31) := (frm_f f121 rfl)
          have t130 : A118 0 (fd 32) = B 0 (fd 32) := (frm_f f121 rfl)
          have t131 : A118 0 (fd 33) = B 0 (fd 33) := (frm_f f121 rfl)
          have t132 : A118 0 (fd 35) = B 0 (fd 35) := (frm_f f121 rfl)
          refine And.intro (fun h133 => ?_) (fun h133 => ?_)
          · exact Exists.intro (0 * (201 - A118 0 (fd 27)) + 5000 : Int).toNat (And.intro (by omega) (And.intro i119 (And.intro j120 (And.intro f126 (And.intro rfl (And.intro (by omega) (And.intro (by omega) (And.intro (by first | exact Or.inl rfl | assumption | (exact Or.inr (Or.resolve_left hE (by omega)))) (And.intro (by omega) (And.intro (Eq.trans (frm_a f121 rfl) c4) (And.intro (Eq.trans (frm_a f121 rfl) c5) (And.intro (Eq.trans (frm_a f121 rfl) c6) (And.intro (Eq.trans (frm_a f121 rfl) c7) (by omega))))))))))))))
          · have ws1 : WS A118 := WS_k (Or.resolve_left (by assumption : g = 0 ∨ WS B) (by omega)) (frm_a f121 rfl) (frm_a f121 rfl) (frm_a f121 rfl) (frm_a f121 rfl) (by omega) (by omega)
            refine And.intro rfl (And.intro (And.intro i119 (And.intro j120 (And.intro (by first | assumption | omega | simp_all) (by first | assumption | omega | simp_all)))) (fun A134 i135 j136 f137 r138 g142 g143 g139 g140 g141 => ?_))
            have f144 := frm_c f126 f137 rfl
            have t145 := ivf_at j136 6 rfl
            have t146 : A134 0 (fd 28) = A118 0 (fd 28) := (frm_f f137 rfl)
            have t147 := ivf_at j136 8 rfl
            have t148 := ivf_at j136 9 rfl
            have t149 := ivf_at j136 4 rfl
            have t150 : A134 0 (fd 35) = A118 0 (fd 35) := (frm_f f137 rfl)
            refine And.intro (fun h151 => ?_) (fun h151 => ?_)
            · exact Exists.intro (0 * (201 - A134 0 (fd 27)) + 5000 : Int).toNat (And.intro (by omega) (And.intro i135 (And.intro j136 (And.intro f144 (And.intro rfl (And.intro (by omega) (And.intro (by omega) (And.intro (by first | exact Or.inl rfl | assumption | (exact Or.inr (Or.resolve_left g139 (by omega)))) (And.intro (by omega) (And.intro (Eq.trans (Eq.trans (frm_a f137 rfl) (frm_a f121 rfl)) c4) (And.intro (Eq.trans (Eq.trans (frm_a f137 rfl) (frm_a f121 rfl)) c5) (And.intro (Eq.trans (Eq.trans (frm_a f137 rfl) (frm_a f121 rfl)) c6) (And.intro (Eq.trans (Eq.trans (frm_a f137 rfl) (frm_a f121 rfl)) c7) (by omega))))))))))))))
            · exact Exists.intro (1 * (201 - A134 0 (fd 27)) + 5000 : Int).toNat (And.intro (by omega) (And.intro i135 (And.intro j136 (And.intro f144 (And.intro rfl (And.intro (by omega) (And.intro (by omega) (And.intro (by first | exact Or.inl rfl | assumption | (exact Or.inr (Or.resolve_left g139 (by omega)))) (And.intro (by omega) (And.intro (Eq.trans (Eq.trans (frm_a f137 rfl) (frm_a f121 rfl)) c4) (And.intro (Eq.trans (Eq.trans (frm_a f137 rfl) (frm_a f121 rfl)) c5) (And.intro (Eq.trans (Eq.trans (frm_a f137 rfl) (frm_a f121 rfl)) c6) (And.intro (Eq.trans (Eq.trans (frm_a f137 rfl) (frm_a f121 rfl)) c7) (by omega))))))))))))))
    · refine fun k B mm hB hz hI => ?_
      obtain ⟨i1, j1, f1, hm, c0, c1, c2, c3, c4⟩ := hI
      obtain ⟨hz_k, _⟩ := hz
      have hc_0_27 := ivf_at j1 6 rfl
      have hc_0_28 := ivf_at j1 7 rfl
      have hc_0_31 := ivf_at j1 8 rfl
      have hc_0_32 := ivf_at j1 9 rfl
      have hc_0_33 := ivf_at j1 4 rfl
      have hc_0_35 := ivf_at j1 3 rfl
      refine fun v152 gv152 e153 => ?_
      have b154 := ivf_at j1 8 rfl
      refine And.intro (fun h155 => ?_) (fun h155 => ?_)
      · exact Exists.intro (100 - 0 : Int).toNat (And.intro (by omega) (And.intro i1 (And.intro j1 (And.intro f1 (And.intro rfl (And.intro (by omega) (And.intro (by omega) (And.intro (by first | assumption | exact WS_k (by assumption) rfl rfl rfl rfl (by omega) (by omega)) (And.intro (by omega) (And.intro (by first | (intro i h0 h1; exact c4 i h0 (by omega)) | (intro i h0 h1; have q1 := congrFun (show B 23 = B 23 from rfl) i; have q2 := congrFun (show B 29 = B 29 from rfl) i; have q3 := c4 i h0 (by omega); omega)) (by first | (intro i h0 h1; omega) | (intro i h0 h1; by_cases hi : i = k; (rw [hi]; have q26 := congrFun (show B 26 = B 26 from rfl) k; have q27 := congrFun (show B 27 = B 27 from rfl) k; have q28 := congrFun (show B 28 = B 28 from rfl) k; have u1 := up_e rfl; have u2 := up_e rfl; have u3 := up_e rfl; exact ⟨by omega, by omega, by omega⟩); (have q26 := congrFun (show B 26 = B 26 from rfl) i; have q27 := congrFun (show B 27 = B 27 from rfl) i; have q28 := congrFun (show B 28 = B 28 from rfl) i; have u1 := up_n rfl hi; have u2 := up_n rfl hi; have u3 := up_n rfl hi; have q3 := c5 i h0 (by omega); exact ⟨by omega, by omega, by omega⟩)))))))))))))
      · refine And.intro (by omega) (fun v156 gv156 e157 => ?_)
        have b158 := iva_at i1 11 rfl (i := k) (by omega) (by omega)
        refine And.intro (by omega) (fun A159 e160 => ?_)
        have i161 := iva_st i1 e160 (And.intro (by omega) trivial)
        have j162 := ivf_sa j1 e160 rfl
        have f163 := frm_s f1 e160 rfl
        have t164 : A159 0 (fd 27) = B 0 (fd 27) := (congrFun (st_a e160 rfl) _)
        have t165 : A159 0 (fd 28) = B 0 (fd 28) := (congrFun (st_a e160 rfl) _)
        have t166 : A159 0 (fd 31) = B 0 (fd 31) := (congrFun (st_a e160 rfl) _)
        have t167 : A159 0 (fd 32) = B 0 (fd 32) := (congrFun (st_a e160 rfl) _)
        have t168 : A159 0 (fd 33) = B 0 (fd 33) := (congrFun (st_a e160 rfl) _)
        have t169 : A159 0 (fd 35) = B 0 (fd 35) := (congrFun (st_a e160 rfl) _)
        refine fun v170 e171 => ?_
        exact And.intro (by omega) (Exists.intro (1000 - v170 : Int).toNat (And.intro (by omega) (And.intro i161 (And.intro j162 (And.intro f163 (And.intro rfl (And.intro (by omega) (And.intro (by omega) (And.intro (by first | exact WS_k (by assumption) (st_a e160 rfl) (st_a e160 rfl) (st_a e160 rfl) (st_a e160 rfl) (by omega) (by omega) | exact WS_k (Or.resolve_left (by assumption : g = 0 ∨ WS B) (by omega)) (st_a e160 rfl) (st_a e160 rfl) (st_a e160 rfl) (st_a e160 rfl) (by omega) (by omega)) (And.intro (by omega) (by first | (intro i h0 h1; omega) | (intro i h0 h1; by_cases hi : i = k; (rw [hi]; have q1 := congrFun (show A159 23 = B 23 from (st_a e160 rfl)) k; have u := up_e (st_u e160); omega); (have q1 := congrFun (show A159 23 = B 23 from (st_a e160 rfl)) i; have u := up_n (st_u e160) hi; have q3 := c4 i h0 (by omega); omega)))))))))))))
    · refine fun k B mm hB hz hI => ?_
      obtain ⟨i1, j1, f1, hm, c0, c1, c2, c3, c4, c5⟩ := hI
      obtain ⟨hz_k, _⟩ := hz
      have hc_0_27 := ivf_at j1 6 rfl
      have hc_0_28 := ivf_at j1 7 rfl
      have hc_0_31 := ivf_at j1 8 rfl
      have hc_0_32 := ivf_at j1 9 rfl
      have hc_0_33 := ivf_at j1 4 rfl
      have hc_0_35 := ivf_at j1 3 rfl
      refine fun v172 gv172 e173 => ?_
      have b174 := ivf_at j1 4 rfl
      refine And.intro (fun h175 => ?_) (fun h175 => ?_)
      · refine fun v176 gv176 e177 => ?_
        have b178 := ivf_at j1 4 rfl
        have q179 : v172 = v176 := (e177.trans e173.symm).symm
        subst q179
        exact hK _ i1 j1 f1 _ (by omega) (WF_of (by assumption) (by omega) (by assumption) (fun i h0 h1 => c5 i h0 (by omega)))
      · refine And.intro (by omega) (fun v180 gv180 e181 => ?_)
        refine And.intro (by omega) (fun A182 e183 => ?_)
        have i184 := iva_st i1 e183 trivial
        have j185 := ivf_sa j1 e183 rfl
        have f186 := frm_s f1 e183 rfl
        have t187 : A182 0 (fd 27) = B 0 (fd 27) := (congrFun (st_a e183 rfl) _)
        have t188 : A182 0 (fd 28) = B 0 (fd 28) := (congrFun (st_a e183 rfl) _)
        have t189 : A182 0 (fd 31) = B 0 (fd 31) := (congrFun (st_a e183 rfl) _)
        have t190 : A182 0 (fd 32) = B 0 (fd 32) := (congrFun (st_a e183 rfl) _)
        have t191 : A182 0 (fd 33) = B 0 (fd 33) := (congrFun (st_a e183 rfl) _)
        have t192 : A182 0 (fd 35) = B 0 (fd 35) := (congrFun (st_a e183 rfl) _)
        have hq1 := congrFun (show A182 26 = B 26 from (st_a e183 rfl)) k
        refine And.intro (by omega) (fun v193 gv193 e194 => ?_)
        have b195 := iva_at i184 27 rfl (i := k) (by omega) (by omega)
        refine And.intro (by omega) (fun A196 e197 => ?_)
        have i198 := iva_st i184 e197 (And.intro (by omega) trivial)
        have j199 := ivf_sa j185 e197 rfl
        have f200 := frm_s f186 e197 rfl
        have t201 : A196 0 (fd 27) = A182 0 (fd 27) := (congrFun (st_a e197 rfl) _)
        have t202 : A196 0 (fd 28) = A182 0 (fd 28) := (congrFun (st_a e197 rfl) _)
        have t203 : A196 0 (fd 31) = A182 0 (fd 31) := (congrFun (st_a e197 rfl) _)
        have t204 : A196 0 (fd 32) = A182 0 (fd 32) := (congrFun (st_a e197 rfl) _)
        have t205 : A196 0 (fd 33) = A182 0 (fd 33) := (congrFun (st_a e197 rfl) _)
        have t206 : A196 0 (fd 35) = A182 0 (fd 35) := (congrFun (st_a e197 rfl) _)
        have hq2 := congrFun (show A196 27 = B 27 from (Eq.trans (st_a e197 rfl) (st_a e183 rfl))) k
        refine And.intro (by omega) (fun v207 gv207 e208 => ?_)
        have b209 := iva_at i198 28 rfl (i := k) (by omega) (by omega)
        refine And.intro (by omega) (fun A210 e211 => ?_)
        have i212 := iva_st i198 e211 (And.intro (by omega) trivial)
        have j213 := ivf_sa j199 e211 rfl
        have f214 := frm_s f200 e211 rfl
        have t215 : A210 0 (fd 27) = A196 0 (fd 27) := (congrFun (st_a e211 rfl) _)
        have t216 : A210 0 (fd 28) = A196 0 (fd 28) := (congrFun (st_a e211 rfl) _)
        have t217 : A210 0 (fd 31) = A196 0 (fd 31) := (congrFun (st_a e211 rfl) _)
        have t218 : A210 0 (fd 32) = A196 0 (fd 32) := (congrFun (st_a e211 rfl) _)
        have t219 : A210 0 (fd 33) = A196 0 (fd 33) := (congrFun (st_a e211 rfl) _)
        have t220 : A210 0 (fd 35) = A196 0 (fd 35) := (congrFun (st_a e211 rfl) _)
        have hq3 := congrFun (show A210 28 = B 28 from (Eq.trans (Eq.trans (st_a e211 rfl) (st_a e197 rfl)) (st_a e183 rfl))) k
        refine And.intro (by omega) (fun v221 gv221 e222 => ?_)
        have b223 := iva_at i212 29 rfl (i := k) (by omega) (by omega)
        refine And.intro (by omega) (fun A224 e225 => ?_)
        have i226 := iva_st i212 e225 (And.intro (by omega) trivial)
        have j227 := ivf_sa j213 e225 rfl
        have f228 := frm_s f214 e225 rfl
        have t229 : A224 0 (fd 27) = A210 0 (fd 27) := (congrFun (st_a e225 rfl) _)
        have t230 : A224 0 (fd 28) = A210 0 (fd 28) := (congrFun (st_a e225 rfl) _)
        have t231 : A224 0 (fd 31) = A210 0 (fd 31) := (congrFun (st_a e225 rfl) _)
        have t232 : A224 0 (fd 32) = A210 0 (fd 32) := (congrFun (st_a e225 rfl) _)
        have t233 : A224 0 (fd 33) = A210 0 (fd 33) := (congrFun (st_a e225 rfl) _)
        have t234 : A224 0 (fd 35) = A210 0 (fd 35) := (congrFun (st_a e225 rfl) _)
        refine fun v235 e236 => ?_
        exact And.intro (by omega) (Exists.intro (100 - v235 : Int).toNat (And.intro (by omega) (And.intro i226 (And.intro j227 (And.intro f228 (And.intro rfl (And.intro (by omega) (And.intro (by omega) (And.intro (by first | assumption | exact WS_k (by assumption) (Eq.trans (Eq.trans (Eq.trans (st_a e225 rfl) (st_a e211 rfl)) (st_a e197 rfl)) (st_a e183 rfl)) (Eq.trans (Eq.trans (Eq.trans (st_a e225 rfl) (st_a e211 rfl)) (st_a e197 rfl)) (st_a e183 rfl)) (Eq.trans (Eq.trans (Eq.trans (st_a e225 rfl) (st_a e211 rfl)) (st_a e197 rfl)) (st_a e183 rfl)) (Eq.trans (Eq.trans (Eq.trans (st_a e225 rfl) (st_a e211 rfl)) (st_a e197 rfl)) (st_a e183 rfl)) (by omega) (by omega)) (And.intro (by omega) (And.intro (by first | (intro i h0 h1; exact c4 i h0 (by omega)) | (intro i h0 h1; have q1 := congrFun (show A224 23 = B 23 from (Eq.trans (Eq.trans (Eq.trans (st_a e225 rfl) (st_a e211 rfl)) (st_a e197 rfl)) (st_a e183 rfl))) i; have q2 := congrFun (show A224 29 = B 29 from (Eq.trans (Eq.trans (Eq.trans (st_a e225 rfl) (st_a e211 rfl)) (st_a e197 rfl)) (st_a e183 rfl))) i; have q3 := c4 i h0 (by omega); omega)) (by first | (intro i h0 h1; omega) | (intro i h0 h1; by_cases hi : i = k; (rw [hi]; have q26 := congrFun (show A224 26 = B 26 from (Eq.trans (Eq.trans (Eq.trans (st_a e225 rfl) (st_a e211 rfl)) (st_a e197 rfl)) (st_a e183 rfl))) k; have q27 := congrFun (show A224 27 = B 27 from (Eq.trans (Eq.trans (Eq.trans (st_a e225 rfl) (st_a e211 rfl)) (st_a e197 rfl)) (st_a e183 rfl))) k; have q28 := congrFun (show A224 28 = B 28 from (Eq.trans (Eq.trans (Eq.trans (st_a e225 rfl) (st_a e211 rfl)) (st_a e197 rfl)) (st_a e183 rfl))) k; have u1 := up_e (Eq.trans (Eq.trans (st_a e225 rfl) (st_a e211 rfl)) (Eq.trans (st_u e197) (cu (st_a e183 rfl)))); have u2 := up_e (Eq.trans (st_a e225 rfl) (Eq.trans (st_u e211) (cu (Eq.trans (st_a e197 rfl) (st_a e183 rfl))))); have u3 := up_e (Eq.trans (st_u e225) (cu (Eq.trans (Eq.trans (st_a e211 rfl) (st_a e197 rfl)) (st_a e183 rfl)))); exact ⟨by omega, by omega, by omega⟩); (have q26 := congrFun (show A224 26 = B 26 from (Eq.trans (Eq.trans (Eq.trans (st_a e225 rfl) (st_a e211 rfl)) (st_a e197 rfl)) (st_a e183 rfl))) i; have q27 := congrFun (show A224 27 = B 27 from (Eq.trans (Eq.trans (Eq.trans (st_a e225 rfl) (st_a e211 rfl)) (st_a e197 rfl)) (st_a e183 rfl))) i; have q28 := congrFun (show A224 28 = B 28 from (Eq.trans (Eq.trans (Eq.trans (st_a e225 rfl) (st_a e211 rfl)) (st_a e197 rfl)) (st_a e183 rfl))) i; have u1 := up_n (Eq.trans (Eq.trans (st_a e225 rfl) (st_a e211 rfl)) (Eq.trans (st_u e197) (cu (st_a e183 rfl)))) hi; have u2 := up_n (Eq.trans (st_a e225 rfl) (Eq.trans (st_u e211) (cu (Eq.trans (st_a e197 rfl) (st_a e183 rfl))))) hi; have u3 := up_n (Eq.trans (st_u e225) (cu (Eq.trans (Eq.trans (st_a e211 rfl) (st_a e197 rfl)) (st_a e183 rfl)))) hi; have q3 := c5 i h0 (by omega); exact ⟨by omega, by omega, by omega⟩))))))))))))))
  · refine Exists.intro n (Exists.intro 1 (Exists.intro 200 (And.intro rfl (And.intro (fun h2 => ?_) (fun h2 => ?_)))))
    · refine And.intro (fun h3 => by exfalso; omega) (fun h3 => ?_)
      refine fun v4 gv4 e5 => ?_
      have b6 := ivf_at j0 1 rfl
      refine And.intro (fun h7 => ?_) (fun h7 => ?_)
      · refine fun A8 e9 => ?_
        have i10 := iva_sf i0 e9 rfl
        have j11 := ivf_st j0 e9 (And.intro (by omega) trivial)
        have f12 := frm_sf f0 e9 rfl
        have t13 := st_v e9
        have t14 : A8 0 (fd 28) = A 0 (fd 28) := (st_f e9 rfl)
        have t15 : A8 0 (fd 31) = A 0 (fd 31) := (st_f e9 rfl)
        have t16 : A8 0 (fd 32) = A 0 (fd 32) := (st_f e9 rfl)
        have t17 : A8 0 (fd 33) = A 0 (fd 33) := (st_f e9 rfl)
        have t18 : A8 0 (fd 35) = A 0 (fd 35) := (st_f e9 rfl)
        refine fun A19 e20 => ?_
        have i21 := iva_sf i10 e20 rfl
        have j22 := ivf_st j11 e20 (And.intro (by omega) trivial)
        have f23 := frm_sf f12 e20 rfl
        have t24 : A19 0 (fd 27) = A8 0 (fd 27) := (st_f e20 rfl)
        have t25 := st_v e20
        have t26 : A19 0 (fd 31) = A8 0 (fd 31) := (st_f e20 rfl)
        have t27 : A19 0 (fd 32) = A8 0 (fd 32) := (st_f e20 rfl)
        have t28 : A19 0 (fd 33) = A8 0 (fd 33) := (st_f e20 rfl)
        have t29 : A19 0 (fd 35) = A8 0 (fd 35) := (st_f e20 rfl)
        refine fun A30 e31 => ?_
        have i32 := iva_sf i21 e31 rfl
        have j33 := ivf_st j22 e31 (And.intro (by omega) trivial)
        have f34 := frm_sf f23 e31 rfl
        have t35 : A30 0 (fd 27) = A19 0 (fd 27) := (st_f e31 rfl)
        have t36 : A30 0 (fd 28) = A19 0 (fd 28) := (st_f e31 rfl)
        have t37 := st_v e31
        have t38 : A30 0 (fd 32) = A19 0 (fd 32) := (st_f e31 rfl)
        have t39 : A30 0 (fd 33) = A19 0 (fd 33) := (st_f e31 rfl)
        have t40 : A30 0 (fd 35) = A19 0 (fd 35) := (st_f e31 rfl)
        refine fun A41 e42 => ?_
        have i43 := iva_sf i32 e42 rfl
        have j44 := ivf_st j33 e42 (And.intro (by omega) trivial)
        have f45 := frm_sf f34 e42 rfl
        have t46 : A41 0 (fd 27) = A30 0 (fd 27) := (st_f e42 rfl)
        have t47 : A41 0 (fd 28) = A30 0 (fd 28) := (st_f e42 rfl)
        have t48 : A41 0 (fd 31) = A30 0 (fd 31) := (st_f e42 rfl)
        have t49 : A41 0 (fd 32) = A30 0 (fd 32) := (st_f e42 rfl)
        have t50 := st_v e42
        have t51 : A41 0 (fd 35) = A30 0 (fd 35) := (st_f e42 rfl)
        have ws0 : WS A41 := fun q h0 h1 => by omega
        refine And.intro rfl (And.intro (And.intro i43 (And.intro j44 (And.intro (by first | assumption | omega | simp_all) (by first | assumption | omega | simp_all)))) (fun A52 i53 j54 f55 r56 g60 g61 g57 g58 g59 => ?_))
        have f62 := frm_c f45 f55 rfl
        have t63 := ivf_at j54 6 rfl
        have t64 : A52 0 (fd 28) = A41 0 (fd 28) := (frm_f f55 rfl)
        have t65 := ivf_at j54 8 rfl
        have t66 := ivf_at j54 9 rfl
        have t67 := ivf_at j54 4 rfl
        have t68 : A52 0 (fd 35) = A41 0 (fd 35) := (frm_f f55 rfl)
        exact Exists.intro (r56 * (201 - A52 0 (fd 27)) + 5000 : Int).toNat (And.intro i53 (And.intro j54 (And.intro f62 (And.intro rfl (And.intro (by omega) (And.intro (by omega) (And.intro (by first | exact Or.inl rfl | assumption | (exact Or.inr (Or.resolve_left g57 (by omega)))) (And.intro (by omega) (And.intro (Eq.trans (Eq.trans (Eq.trans (Eq.trans (frm_a f55 rfl) (st_a e42 rfl)) (st_a e31 rfl)) (st_a e20 rfl)) (st_a e9 rfl)) (And.intro (Eq.trans (Eq.trans (Eq.trans (Eq.trans (frm_a f55 rfl) (st_a e42 rfl)) (st_a e31 rfl)) (st_a e20 rfl)) (st_a e9 rfl)) (And.intro (Eq.trans (Eq.trans (Eq.trans (Eq.trans (frm_a f55 rfl) (st_a e42 rfl)) (st_a e31 rfl)) (st_a e20 rfl)) (st_a e9 rfl)) (And.intro (Eq.trans (Eq.trans (Eq.trans (Eq.trans (frm_a f55 rfl) (st_a e42 rfl)) (st_a e31 rfl)) (st_a e20 rfl)) (st_a e9 rfl)) (by omega)))))))))))))
      · exact hK _ i0 j0 f0 _ (by first | exact wI_rng _ | omega | (exact (hA _ _).2 rfl)) (by first | assumption | omega | simp_all)
    · refine And.intro (fun h69 => ?_) (fun h69 => by exfalso; omega)
      exact hK _ i0 j0 f0 _ (by first | exact wI_rng _ | omega | (exact (hA _ _).2 rfl)) (by first | assumption | omega | simp_all)
