def sM_endsPiece : qS := fun as A K => ∃ u0 : Int → Int, ∃ f : Int, ∃ x : Int, as = [rf 0] ∧ (iva IM A ∧ ivf JM A ∧ (PS A u0 f (A 0 (fd 32)) 1 x) ∧ (0 ≤ x)) ∧ (∀ A' : qA, iva IM A' → ivf JM A' → frm [23] [(0, 30), (0, 31), (0, 32)] A A' → (PS A' u0 f (A' 0 (fd 32)) 1 x) → (1 ≤ A 0 (fd 32) → 1 ≤ A' 0 (fd 32)) → K none A')
theorem okM_endsPiece : okM LM 2 176 sM_endsPiece := by
  refine qmeth [] true [(169, sM_top), (167, sM_notes)] 28 rfl ⟨okM_top.le (by decide), ⟨okM_notes.le (by decide), trivial⟩⟩ ?_
  rintro _ A K hA has ⟨u0, f, x, rfl, ⟨i0, j0, p1, p2⟩, hK⟩
  have f0 := frm_0 [23] [(0, 30), (0, 31), (0, 32)] A
  have hb_0_27 := ivf_at j0 6 rfl
  have hb_0_28 := ivf_at j0 7 rfl
  have hb_0_31 := ivf_at j0 8 rfl
  have hb_0_32 := ivf_at j0 9 rfl
  refine ⟨Nat.le_of_ble_eq_true rfl, [(0, [(0, 2, 0)], fun zs B nn => match zs with | [] => iva IM B ∧ ivf JM B ∧ frm [23] [(0, 30), (0, 31), (0, 32)] A B ∧ nn = (B 0 (fd 32) : Int).toNat ∧ (PS B u0 f (B 0 (fd 32)) 1 x) ∧ (1 ≤ A 0 (fd 32) → 1 ≤ B 0 (fd 32)) | _ => False)], ?_, ?_⟩
  · refine ⟨⟨rfl, ?_⟩, trivial⟩
    · refine fun  B mm hB hz hI => ?_
      obtain ⟨i1, j1, f1, hm, c0, c1⟩ := hI
      have hc_0_27 := ivf_at j1 6 rfl
      have hc_0_28 := ivf_at j1 7 rfl
      have hc_0_31 := ivf_at j1 8 rfl
      have hc_0_32 := ivf_at j1 9 rfl
      refine And.intro rfl (And.intro (And.intro i1 j1) (fun r54 g56 g55 => ?_))
      refine And.intro (fun h57 => ?_) (fun h57 => ?_)
      · exact hK _ i1 j1 f1 (PS_k c0 rfl rfl (by omega) (by omega) (by omega) (by omega) (by omega) (by omega)) (by first | assumption | omega | simp_all)
      · have hw1 := PS_w1 c0 (by omega) (by omega) (by omega)
        have z58 := PS_bd c0
        refine Exists.intro 10 (Exists.intro 0 (And.intro rfl (And.intro (And.intro i1 (And.intro j1 (And.intro (by omega) (And.intro (by omega) (And.intro (by omega) (And.intro (by omega) (by first | assumption | omega | simp_all))))))) (fun A59 i60 j61 f62 g63 g64 => ?_))))
        have f65 := frm_c f1 f62 rfl
        have t66 : A59 0 (fd 27) = B 0 (fd 27) := (frm_f f62 rfl)
        have t67 : A59 0 (fd 28) = B 0 (fd 28) := (frm_f f62 rfl)
        have t68 := ivf_at j61 8 rfl
        have t69 : A59 0 (fd 32) = B 0 (fd 32) := (frm_f f62 rfl)
        have ps70 := (PS_n c0 g63 (frm_a f62 rfl) (by omega) (by omega) (by omega) (by omega) (by omega) (by omega) (by omega) : PS A59 u0 f (B 0 (fd 32)) 1 (x - 1))
        have z71 := PS_bd ps70
        have z72 := top_k (A := B) (A' := A59) (frm_a f62 rfl) (by omega)
        refine fun v73 gv73 e74 => ?_
        have b75 := ivf_at j61 9 rfl
        refine fun v76 e77 => ?_
        have w80 := wI_rng v76
        have w81 : wI v76 = v76 := wI_id (by omega)
        refine fun A78 e79 => ?_
        have i82 := iva_sf i60 e79 rfl
        have j83 := ivf_st j61 e79 (And.intro (by omega) trivial)
        have f84 := frm_sf f65 e79 rfl
        have t85 : A78 0 (fd 27) = A59 0 (fd 27) := (st_f e79 rfl)
        have t86 : A78 0 (fd 28) = A59 0 (fd 28) := (st_f e79 rfl)
        have t87 : A78 0 (fd 31) = A59 0 (fd 31) := (st_f e79 rfl)
        have t88 := st_v e79
        have ps89 := (PS_p ps70 (st_a e79 rfl) (st_a e79 rfl) (by omega) (by omega) (by omega) (by omega) (by omega) (by omega) (by omega) (by omega) : PS A78 u0 f (A78 0 (fd 32)) 1 x)
        have z90 := PS_bd ps89
        refine fun v91 gv91 e92 => ?_
        refine fun v93 e94 => ?_
        have w97 := wI_rng v93
        refine fun A95 e96 => ?_
        have i98 := iva_sf i82 e96 rfl
        have j99 := ivf_st j83 e96 trivial
        have f100 := frm_sf f84 e96 rfl
        have t101 : A95 0 (fd 27) = A78 0 (fd 27) := (st_f e96 rfl)
        have t102 : A95 0 (fd 28) = A78 0 (fd 28) := (st_f e96 rfl)
        have t103 : A95 0 (fd 31) = A78 0 (fd 31) := (st_f e96 rfl)
        have t104 : A95 0 (fd 32) = A78 0 (fd 32) := (st_f e96 rfl)
        exact Exists.intro (A95 0 (fd 32) : Int).toNat (And.intro (by omega) (And.intro i98 (And.intro j99 (And.intro f100 (And.intro rfl (And.intro (PS_k ps89 (st_a e96 rfl) (st_a e96 rfl) (by omega) (by omega) (by omega) (by omega) (by omega) (by omega)) (by omega)))))))
  · refine And.intro rfl (And.intro (And.intro i0 j0) (fun r3 g5 g4 => ?_))
    refine And.intro (fun h6 => ?_) (fun h6 => ?_)
    · exact hK _ i0 j0 f0 (PS_k p1 rfl rfl (by omega) (by omega) (by omega) (by omega) (by omega) (by omega)) (by first | assumption | omega | simp_all)
    · have hw1 := PS_w1 p1 (by omega) (by omega) (by omega)
      have z7 := PS_bd p1
      refine Exists.intro 10 (Exists.intro 0 (And.intro rfl (And.intro (And.intro i0 (And.intro j0 (And.intro (by omega) (And.intro (by omega) (And.intro (by omega) (And.intro (by omega) (by first | assumption | omega | simp_all))))))) (fun A8 i9 j10 f11 g12 g13 => ?_))))
      have f14 := frm_c f0 f11 rfl
      have t15 : A8 0 (fd 27) = A 0 (fd 27) := (frm_f f11 rfl)
      have t16 : A8 0 (fd 28) = A 0 (fd 28) := (frm_f f11 rfl)
      have t17 := ivf_at j10 8 rfl
      have t18 : A8 0 (fd 32) = A 0 (fd 32) := (frm_f f11 rfl)
      have ps19 := (PS_n p1 g12 (frm_a f11 rfl) (by omega) (by omega) (by omega) (by omega) (by omega) (by omega) (by omega) : PS A8 u0 f (A 0 (fd 32)) 1 (x - 1))
      have z20 := PS_bd ps19
      have z21 := top_k (A := A) (A' := A8) (frm_a f11 rfl) (by omega)
      refine fun v22 gv22 e23 => ?_
      have b24 := ivf_at j10 9 rfl
      refine fun v25 e26 => ?_
      have w29 := wI_rng v25
      have w30 : wI v25 = v25 := wI_id (by omega)
      refine fun A27 e28 => ?_
      have i31 := iva_sf i9 e28 rfl
      have j32 := ivf_st j10 e28 (And.intro (by omega) trivial)
      have f33 := frm_sf f14 e28 rfl
      have t34 : A27 0 (fd 27) = A8 0 (fd 27) := (st_f e28 rfl)
      have t35 : A27 0 (fd 28) = A8 0 (fd 28) := (st_f e28 rfl)
      have t36 : A27 0 (fd 31) = A8 0 (fd 31) := (st_f e28 rfl)
      have t37 := st_v e28
      have ps38 := (PS_p ps19 (st_a e28 rfl) (st_a e28 rfl) (by omega) (by omega) (by omega) (by omega) (by omega) (by omega) (by omega) (by omega) : PS A27 u0 f (A27 0 (fd 32)) 1 x)
      have z39 := PS_bd ps38
      refine fun v40 gv40 e41 => ?_
      refine fun v42 e43 => ?_
      have w46 := wI_rng v42
      refine fun A44 e45 => ?_
      have i47 := iva_sf i31 e45 rfl
      have j48 := ivf_st j32 e45 trivial
      have f49 := frm_sf f33 e45 rfl
      have t50 : A44 0 (fd 27) = A27 0 (fd 27) := (st_f e45 rfl)
      have t51 : A44 0 (fd 28) = A27 0 (fd 28) := (st_f e45 rfl)
      have t52 : A44 0 (fd 31) = A27 0 (fd 31) := (st_f e45 rfl)
      have t53 : A44 0 (fd 32) = A27 0 (fd 32) := (st_f e45 rfl)
      exact Exists.intro (A44 0 (fd 32) : Int).toNat (And.intro i47 (And.intro j48 (And.intro f49 (And.intro rfl (And.intro (PS_k ps38 (st_a e45 rfl) (st_a e45 rfl) (by omega) (by omega) (by omega) (by omega) (by omega) (by omega)) (by omega))))))
def sM_lands : qS := fun as A K => ∃ a : Int, ∃ u0 : Int → Int, ∃ f : Int, ∃ x : Int, as = [rf 0, ni a] ∧ (iva IM A ∧ ivf JM A ∧ 0 ≤ a ∧ a ≤ 1 ∧ (PS A u0 f (A 0 (fd 32)) 1 x) ∧ (0 ≤ x)) ∧ (∀ A' : qA, iva IM A' → ivf JM A' → frm [23] [(0, 32)] A A' → (PS A' u0 f (A' 0 (fd 32)) 1 x) → (1 ≤ A 0 (fd 32) → 1 ≤ A' 0 (fd 32)) → (a = 1 → (A' 0 (fd 32) = 0 ∨ (A' 24 (A' 0 (fd 32) - 1) / 1048576 ≠ 11 ∧ A' 24 (A' 0 (fd 32) - 1) / 1048576 ≠ 12))) → K none A')
theorem okM_lands : okM LM 2 177 sM_lands := by
  refine qmeth [] false [(169, sM_top)] 49 rfl ⟨okM_top.le (by decide), trivial⟩ ?_
  rintro _ A K hA has ⟨a, u0, f, x, rfl, ⟨i0, j0, p1, p2, p3, p4⟩, hK⟩
  have rg_a : rng a := has (ni a) (by simp)
  have f0 := frm_0 [23] [(0, 32)] A
  have hb_0_27 := ivf_at j0 6 rfl
  have hb_0_28 := ivf_at j0 7 rfl
  have hb_0_31 := ivf_at j0 8 rfl
  have hb_0_32 := ivf_at j0 9 rfl
  refine ⟨Nat.le_of_ble_eq_true rfl, [(0, [(0, 2, 0), (1, 0, 0)], fun zs B nn => match zs with | [l1] => iva IM B ∧ ivf JM B ∧ frm [23] [(0, 32)] A B ∧ nn = (B 0 (fd 32) : Int).toNat ∧ (l1 = a) ∧ (PS B u0 f (B 0 (fd 32)) 1 x) ∧ (1 ≤ A 0 (fd 32) → 1 ≤ B 0 (fd 32)) | _ => False)], ?_, ?_⟩
  · refine ⟨⟨rfl, ?_⟩, trivial⟩
    · refine fun l1 B mm hB hz hI => ?_
      obtain ⟨i1, j1, f1, hm, c0, c1, c2⟩ := hI
      obtain ⟨hz_l1, _⟩ := hz
      have hc_0_27 := ivf_at j1 6 rfl
      have hc_0_28 := ivf_at j1 7 rfl
      have hc_0_31 := ivf_at j1 8 rfl
      have hc_0_32 := ivf_at j1 9 rfl
      refine And.intro rfl (And.intro (And.intro i1 j1) (fun r120 g122 g121 => ?_))
      refine And.intro (fun h123 => ?_) (fun h123 => ?_)
      · have hw1 := PS_w1 c1 (by omega) (by omega) (by omega)
        have hfr := PS_fr c1 (by omega) (by omega)
        have hz9 := PS_bd c1
        refine fun v124 gv124 e125 => ?_
        have b126 := ivf_at j1 9 rfl
        refine fun v127 e128 => ?_
        have hix : B 24 v127 = B 24 (B 0 (fd 32) - 1) := by rw [show B 0 (fd 32) - 1 = v127 by omega]
        refine And.intro (by omega) (fun v129 gv129 e130 => ?_)
        have b131 := iva_at i1 12 rfl (i := v127) (by omega) (by omega)
        have k132 : qn 1048576 = 1048576 := by decide
        refine And.intro (by omega) (fun v133 e134 => ?_)
        have h135 := qm_nn (a := v129) (b := (qn 1048576)) (by omega)
        rw [show qn 1048576 = 1048576 by decide] at h135 e134
        have k136 : qn 1048576 = 1048576 := by decide
        refine And.intro (by omega) (fun v137 gv137 e138 => ?_)
        have b139 := iva_at i1 11 rfl (i := v133) (by omega) (by omega)
        have k140 : qn 1048576 = 1048576 := by decide
        refine And.intro (by omega) (fun v141 e142 => ?_)
        have h143 := qd_nn (a := v137) (b := (qn 1048576)) (by omega)
        rw [show qn 1048576 = 1048576 by decide] at h143 e142
        refine fun v144 e145 => ?_
        rw [show qn 1048576 = 1048576 by decide] at e145
        refine fun v146 gv146 e147 => ?_
        have b148 := ivf_at j1 8 rfl
        refine fun v149 e150 => ?_
        refine And.intro (by omega) (And.intro (by omega) (fun A151 e152 => ?_))
        have i153 := iva_st i1 e152 (And.intro (by omega) trivial)
        have j154 := ivf_sa j1 e152 rfl
        have f155 := frm_s f1 e152 rfl
        have t156 : A151 0 (fd 27) = B 0 (fd 27) := (congrFun (st_a e152 rfl) _)
        have t157 : A151 0 (fd 28) = B 0 (fd 28) := (congrFun (st_a e152 rfl) _)
        have t158 : A151 0 (fd 31) = B 0 (fd 31) := (congrFun (st_a e152 rfl) _)
        have t159 : A151 0 (fd 32) = B 0 (fd 32) := (congrFun (st_a e152 rfl) _)
        refine fun v160 gv160 e161 => ?_
        have b162 := ivf_at j154 9 rfl
        have q163 : v124 = v160 := (e161.trans ((congrFun (st_a e152 rfl) _).trans e125.symm)).symm
        subst q163
        refine fun v164 e165 => ?_
        refine And.intro (by omega) (fun A166 e167 => ?_)
        have i168 := iva_sf i153 e167 rfl
        have j169 := ivf_st j154 e167 (And.intro (by omega) trivial)
        have f170 := frm_sf f155 e167 rfl
        have t171 : A166 0 (fd 27) = A151 0 (fd 27) := (st_f e167 rfl)
        have t172 : A166 0 (fd 28) = A151 0 (fd 28) := (st_f e167 rfl)
        have t173 : A166 0 (fd 31) = A151 0 (fd 31) := (st_f e167 rfl)
        have t174 := st_v e167
        have ps175 := (PS_l c1 (Eq.trans (st_a e167 rfl) (st_u e152)) (Eq.trans (st_a e167 rfl) (st_a e152 rfl)) (by omega) (by omega) (by omega) (by omega) (by omega) (by omega) (by omega) (by omega) (by omega) (by omega) (by omega) (by omega) (by omega) : PS A166 u0 f (A166 0 (fd 32)) 1 x)
        have z176 := PS_bd ps175
        exact Exists.intro (A166 0 (fd 32) : Int).toNat (And.intro (by omega) (And.intro i168 (And.intro j169 (And.intro f170 (And.intro rfl (And.intro (by omega) (And.intro (PS_k ps175 rfl rfl (by omega) (by omega) (by omega) (by omega) (by omega) (by omega)) (by omega))))))))
      · refine And.intro (fun h177 => ?_) (fun h177 => ?_)
        · exact hK _ i1 j1 f1 (PS_k c1 rfl rfl (by omega) (by omega) (by omega) (by omega) (by omega) (by omega)) (by first | assumption | omega | simp_all) (by first | assumption | omega | simp_all)
        · refine And.intro rfl (And.intro (And.intro i1 j1) (fun r178 g180 g179 => ?_))
          refine And.intro (fun h181 => ?_) (fun h181 => ?_)
          · exact hK _ i1 j1 f1 (PS_k c1 rfl rfl (by omega) (by omega) (by omega) (by omega) (by omega) (by omega)) (by first | assumption | omega | simp_all) (by first | assumption | omega | simp_all)
          · have hw1 := PS_w1 c1 (by omega) (by omega) (by omega)
            have hfr := PS_fr c1 (by omega) (by omega)
            have hz9 := PS_bd c1
            refine fun v182 gv182 e183 => ?_
            have b184 := ivf_at j1 9 rfl
            refine fun v185 e186 => ?_
            have hix : B 24 v185 = B 24 (B 0 (fd 32) - 1) := by rw [show B 0 (fd 32) - 1 = v185 by omega]
            refine And.intro (by omega) (fun v187 gv187 e188 => ?_)
            have b189 := iva_at i1 12 rfl (i := v185) (by omega) (by omega)
            have k190 : qn 1048576 = 1048576 := by decide
            refine And.intro (by omega) (fun v191 e192 => ?_)
            have h193 := qm_nn (a := v187) (b := (qn 1048576)) (by omega)
            rw [show qn 1048576 = 1048576 by decide] at h193 e192
            have k194 : qn 1048576 = 1048576 := by decide
            refine And.intro (by omega) (fun v195 gv195 e196 => ?_)
            have b197 := iva_at i1 11 rfl (i := v191) (by omega) (by omega)
            have k198 : qn 1048576 = 1048576 := by decide
            refine And.intro (by omega) (fun v199 e200 => ?_)
            have h201 := qd_nn (a := v195) (b := (qn 1048576)) (by omega)
            rw [show qn 1048576 = 1048576 by decide] at h201 e200
            refine fun v202 e203 => ?_
            rw [show qn 1048576 = 1048576 by decide] at e203
            refine fun v204 gv204 e205 => ?_
            have b206 := ivf_at j1 8 rfl
            refine fun v207 e208 => ?_
            refine And.intro (by omega) (And.intro (by omega) (fun A209 e210 => ?_))
            have i211 := iva_st i1 e210 (And.intro (by omega) trivial)
            have j212 := ivf_sa j1 e210 rfl
            have f213 := frm_s f1 e210 rfl
            have t214 : A209 0 (fd 27) = B 0 (fd 27) := (congrFun (st_a e210 rfl) _)
            have t215 : A209 0 (fd 28) = B 0 (fd 28) := (congrFun (st_a e210 rfl) _)
            have t216 : A209 0 (fd 31) = B 0 (fd 31) := (congrFun (st_a e210 rfl) _)
            have t217 : A209 0 (fd 32) = B 0 (fd 32) := (congrFun (st_a e210 rfl) _)
            refine fun v218 gv218 e219 => ?_
            have b220 := ivf_at j212 9 rfl
            have q221 : v182 = v218 := (e219.trans ((congrFun (st_a e210 rfl) _).trans e183.symm)).symm
            subst q221
            refine fun v222 e223 => ?_
            refine And.intro (by omega) (fun A224 e225 => ?_)
            have i226 := iva_sf i211 e225 rfl
            have j227 := ivf_st j212 e225 (And.intro (by omega) trivial)
            have f228 := frm_sf f213 e225 rfl
            have t229 : A224 0 (fd 27) = A209 0 (fd 27) := (st_f e225 rfl)
            have t230 : A224 0 (fd 28) = A209 0 (fd 28) := (st_f e225 rfl)
            have t231 : A224 0 (fd 31) = A209 0 (fd 31) := (st_f e225 rfl)
            have t232 := st_v e225
            have ps233 := (PS_l c1 (Eq.trans (st_a e225 rfl) (st_u e210)) (Eq.trans (st_a e225 rfl) (st_a e210 rfl)) (by omega) (by omega) (by omega) (by omega) (by omega) (by omega) (by omega) (by omega) (by omega) (by omega) (by omega) (by omega) (by omega) : PS A224 u0 f (A224 0 (fd 32)) 1 x)
            have z234 := PS_bd ps233
            exact Exists.intro (A224 0 (fd 32) : Int).toNat (And.intro (by omega) (And.intro i226 (And.intro j227 (And.intro f228 (And.intro rfl (And.intro (by omega) (And.intro (PS_k ps233 rfl rfl (by omega) (by omega) (by omega) (by omega) (by omega) (by omega)) (by omega))))))))
  · refine And.intro rfl (And.intro (And.intro i0 j0) (fun r5 g7 g6 => ?_))
    refine And.intro (fun h8 => ?_) (fun h8 => ?_)
    · have hw1 := PS_w1 p3 (by omega) (by omega) (by omega)
      have hfr := PS_fr p3 (by omega) (by omega)
      have hz9 := PS_bd p3
      refine fun v9 gv9 e10 => ?_
      have b11 := ivf_at j0 9 rfl
      refine fun v12 e13 => ?_
      have hix : A 24 v12 = A 24 (A 0 (fd 32) - 1) := by rw [show A 0 (fd 32) - 1 = v12 by omega]
      refine And.intro (by omega) (fun v14 gv14 e15 => ?_)
      have b16 := iva_at i0 12 rfl (i := v12) (by omega) (by omega)
      have k17 : qn 1048576 = 1048576 := by decide
      refine And.intro (by omega) (fun v18 e19 => ?_)
      have h20 := qm_nn (a := v14) (b := (qn 1048576)) (by omega)
      rw [show qn 1048576 = 1048576 by decide] at h20 e19
      have k21 : qn 1048576 = 1048576 := by decide
      refine And.intro (by omega) (fun v22 gv22 e23 => ?_)
      have b24 := iva_at i0 11 rfl (i := v18) (by omega) (by omega)
      have k25 : qn 1048576 = 1048576 := by decide
      refine And.intro (by omega) (fun v26 e27 => ?_)
      have h28 := qd_nn (a := v22) (b := (qn 1048576)) (by omega)
      rw [show qn 1048576 = 1048576 by decide] at h28 e27
      refine fun v29 e30 => ?_
      rw [show qn 1048576 = 1048576 by decide] at e30
      refine fun v31 gv31 e32 => ?_
      have b33 := ivf_at j0 8 rfl
      refine fun v34 e35 => ?_
      refine And.intro (by omega) (And.intro (by omega) (fun A36 e37 => ?_))
      have i38 := iva_st i0 e37 (And.intro (by omega) trivial)
      have j39 := ivf_sa j0 e37 rfl
      have f40 := frm_s f0 e37 rfl
      have t41 : A36 0 (fd 27) = A 0 (fd 27) := (congrFun (st_a e37 rfl) _)
      have t42 : A36 0 (fd 28) = A 0 (fd 28) := (congrFun (st_a e37 rfl) _)
      have t43 : A36 0 (fd 31) = A 0 (fd 31) := (congrFun (st_a e37 rfl) _)
      have t44 : A36 0 (fd 32) = A 0 (fd 32) := (congrFun (st_a e37 rfl) _)
      refine fun v45 gv45 e46 => ?_
      have b47 := ivf_at j39 9 rfl
      have q48 : v9 = v45 := (e46.trans ((congrFun (st_a e37 rfl) _).trans e10.symm)).symm
      subst q48
      refine fun v49 e50 => ?_
      refine And.intro (by omega) (fun A51 e52 => ?_)
      have i53 := iva_sf i38 e52 rfl
      have j54 := ivf_st j39 e52 (And.intro (by omega) trivial)
      have f55 := frm_sf f40 e52 rfl
      have t56 : A51 0 (fd 27) = A36 0 (fd 27) := (st_f e52 rfl)
      have t57 : A51 0 (fd 28) = A36 0 (fd 28) := (st_f e52 rfl)
      have t58 : A51 0 (fd 31) = A36 0 (fd 31) := (st_f e52 rfl)
      have t59 := st_v e52
      have ps60 := (PS_l p3 (Eq.trans (st_a e52 rfl) (st_u e37)) (Eq.trans (st_a e52 rfl) (st_a e37 rfl)) (by omega) (by omega) (by omega) (by omega) (by omega) (by omega) (by omega) (by omega) (by omega) (by omega) (by omega) (by omega) (by omega) : PS A51 u0 f (A51 0 (fd 32)) 1 x)
      have z61 := PS_bd ps60
      exact Exists.intro (A51 0 (fd 32) : Int).toNat (And.intro i53 (And.intro j54 (And.intro f55 (And.intro rfl (And.intro (by omega) (And.intro (PS_k ps60 rfl rfl (by omega) (by omega) (by omega) (by omega) (by omega) (by omega)) (by omega)))))))
    · refine And.intro (fun h62 => ?_) (fun h62 => ?_)
      · exact hK _ i0 j0 f0 (PS_k p3 rfl rfl (by omega) (by omega) (by omega) (by omega) (by omega) (by omega)) (by first | assumption | omega | simp_all) (by first | assumption | omega | simp_all)
      · refine And.intro rfl (And.intro (And.intro i0 j0) (fun r63 g65 g64 => ?_))
        refine And.intro (fun h66 => ?_) (fun h66 => ?_)
        · exact hK _ i0 j0 f0 (PS_k p3 rfl rfl (by omega) (by omega) (by omega) (by omega) (by omega) (by omega)) (by first | assumption | omega | simp_all) (by first | assumption | omega | simp_all)
        · have hw1 := PS_w1 p3 (by omega) (by omega) (by omega)
          have hfr := PS_fr p3 (by omega) (by omega)
          have hz9 := PS_bd p3
          refine fun v67 gv67 e68 => ?_
          have b69 := ivf_at j0 9 rfl
          refine fun v70 e71 => ?_
          have hix : A 24 v70 = A 24 (A 0 (fd 32) - 1) := by rw [show A 0 (fd 32) - 1 = v70 by omega]
          refine And.intro (by omega) (fun v72 gv72 e73 => ?_)
          have b74 := iva_at i0 12 rfl (i := v70) (by omega) (by omega)
          have k75 : qn 1048576 = 1048576 := by decide
          refine And.intro (by omega) (fun v76 e77 => ?_)
          have h78 := qm_nn (a := v72) (b := (qn 1048576)) (by omega)
          rw [show qn 1048576 = 1048576 by decide] at h78 e77
          have k79 : qn 1048576 = 1048576 := by decide
          refine And.intro (by omega) (fun v80 gv80 e81 => ?_)
          have b82 := iva_at i0 11 rfl (i := v76) (by omega) (by omega)
          have k83 : qn 1048576 = 1048576 := by decide
          refine And.intro (by omega) (fun v84 e85 => ?_)
          have h86 := qd_nn (a := v80) (b := (qn 1048576)) (by omega)
          rw [show qn 1048576 = 1048576 by decide] at h86 e85
          refine fun v87 e88 => ?_
          rw [show qn 1048576 = 1048576 by decide] at e88
          refine fun v89 gv89 e90 => ?_
          have b91 := ivf_at j0 8 rfl
          refine fun v92 e93 => ?_
          refine And.intro (by omega) (And.intro (by omega) (fun A94 e95 => ?_))
          have i96 := iva_st i0 e95 (And.intro (by omega) trivial)
          have j97 := ivf_sa j0 e95 rfl
          have f98 := frm_s f0 e95 rfl
          have t99 : A94 0 (fd 27) = A 0 (fd 27) := (congrFun (st_a e95 rfl) _)
          have t100 : A94 0 (fd 28) = A 0 (fd 28) := (congrFun (st_a e95 rfl) _)
          have t101 : A94 0 (fd 31) = A 0 (fd 31) := (congrFun (st_a e95 rfl) _)
          have t102 : A94 0 (fd 32) = A 0 (fd 32) := (congrFun (st_a e95 rfl) _)
          refine fun v103 gv103 e104 => ?_
          have b105 := ivf_at j97 9 rfl
          have q106 : v67 = v103 := (e104.trans ((congrFun (st_a e95 rfl) _).trans e68.symm)).symm
          subst q106
          refine fun v107 e108 => ?_
          refine And.intro (by omega) (fun A109 e110 => ?_)
          have i111 := iva_sf i96 e110 rfl
          have j112 := ivf_st j97 e110 (And.intro (by omega) trivial)
          have f113 := frm_sf f98 e110 rfl
          have t114 : A109 0 (fd 27) = A94 0 (fd 27) := (st_f e110 rfl)
          have t115 : A109 0 (fd 28) = A94 0 (fd 28) := (st_f e110 rfl)
          have t116 : A109 0 (fd 31) = A94 0 (fd 31) := (st_f e110 rfl)
          have t117 := st_v e110
          have ps118 := (PS_l p3 (Eq.trans (st_a e110 rfl) (st_u e95)) (Eq.trans (st_a e110 rfl) (st_a e95 rfl)) (by omega) (by omega) (by omega) (by omega) (by omega) (by omega) (by omega) (by omega) (by omega) (by omega) (by omega) (by omega) (by omega) : PS A109 u0 f (A109 0 (fd 32)) 1 x)
          have z119 := PS_bd ps118
          exact Exists.intro (A109 0 (fd 32) : Int).toNat (And.intro i111 (And.intro j112 (And.intro f113 (And.intro rfl (And.intro (by omega) (And.intro (PS_k ps118 rfl rfl (by omega) (by omega) (by omega) (by omega) (by omega) (by omega)) (by omega)))))))
def sM_jumps : qS := fun as A K => ∃ o : Int, ∃ u0 : Int → Int, ∃ f : Int, ∃ x : Int, as = [rf 0, ni o] ∧ (iva IM A ∧ ivf JM A ∧ 11 ≤ o ∧ o ≤ 12 ∧ (PS A u0 f (A 0 (fd 32)) 1 x) ∧ (0 ≤ x) ∧ (1 ≤ A 0 (fd 32)) ∧ (A 0 (fd 27) < A 0 (fd 28))) ∧ (∀ A' : qA, iva IM A' → ivf JM A' → frm [23, 24] [(0, 27), (0, 31), (0, 32)] A A' → (PS A' u0 f (A' 0 (fd 32)) 0 x) → (A' 0 (fd 32) = A 0 (fd 32) + 1) → (A' 0 (fd 27) = A 0 (fd 27) + 1) → K none A')
theorem okM_jumps : okM LM 2 178 sM_jumps := by
  refine qmeth [] false [(167, sM_notes)] 34 rfl ⟨okM_notes.le (by decide), trivial⟩ ?_
  rintro _ A K hA has ⟨o, u0, f, x, rfl, ⟨i0, j0, p1, p2, p3, p4, p5, p6⟩, hK⟩
  have rg_o : rng o := has (ni o) (by simp)
  have f0 := frm_0 [23, 24] [(0, 27), (0, 31), (0, 32)] A
  have hb_0_27 := ivf_at j0 6 rfl
  have hb_0_28 := ivf_at j0 7 rfl
  have hb_0_31 := ivf_at j0 8 rfl
  have hb_0_32 := ivf_at j0 9 rfl
  refine ⟨Nat.le_of_ble_eq_true rfl, [], trivial, ?_⟩
  have hz9 := PS_bd p3
  refine fun v7 gv7 e8 => ?_
  have b9 := ivf_at j0 9 rfl
  have k10 : qn 1048576 = 1048576 := by decide
  refine fun v11 e12 => ?_
  rw [show qn 1048576 = 1048576 by decide] at e12
  refine fun v13 gv13 e14 => ?_
  have b15 := ivf_at j0 8 rfl
  refine fun v16 e17 => ?_
  refine And.intro (by omega) (And.intro (by omega) (fun A18 e19 => ?_))
  have i20 := iva_st i0 e19 (And.intro (by omega) trivial)
  have j21 := ivf_sa j0 e19 rfl
  have f22 := frm_s f0 e19 rfl
  have t23 : A18 0 (fd 27) = A 0 (fd 27) := (congrFun (st_a e19 rfl) _)
  have t24 : A18 0 (fd 28) = A 0 (fd 28) := (congrFun (st_a e19 rfl) _)
  have t25 : A18 0 (fd 31) = A 0 (fd 31) := (congrFun (st_a e19 rfl) _)
  have t26 : A18 0 (fd 32) = A 0 (fd 32) := (congrFun (st_a e19 rfl) _)
  refine fun v27 gv27 e28 => ?_
  have b29 := ivf_at j21 9 rfl
  have q30 : v7 = v27 := (e28.trans ((congrFun (st_a e19 rfl) _).trans e8.symm)).symm
  subst q30
  refine fun v31 e32 => ?_
  refine And.intro (by omega) (fun A33 e34 => ?_)
  have i35 := iva_sf i20 e34 rfl
  have j36 := ivf_st j21 e34 (And.intro (by omega) trivial)
  have f37 := frm_sf f22 e34 rfl
  have t38 : A33 0 (fd 27) = A18 0 (fd 27) := (st_f e34 rfl)
  have t39 : A33 0 (fd 28) = A18 0 (fd 28) := (st_f e34 rfl)
  have t40 : A33 0 (fd 31) = A18 0 (fd 31) := (st_f e34 rfl)
  have t41 := st_v e34
  refine Exists.intro o (Exists.intro 0 (And.intro rfl (And.intro (And.intro i35 (And.intro j36 (And.intro (by omega) (And.intro (by omega) (And.intro (by omega) (And.intro (by omega) (by first | assumption | omega | simp_all))))))) (fun A42 i43 j44 f45 g46 g47 => ?_))))
  have f48 := frm_c f37 f45 rfl
  have t49 : A42 0 (fd 27) = A33 0 (fd 27) := (frm_f f45 rfl)
  have t50 : A42 0 (fd 28) = A33 0 (fd 28) := (frm_f f45 rfl)
  have t51 := ivf_at j44 8 rfl
  have t52 : A42 0 (fd 32) = A33 0 (fd 32) := (frm_f f45 rfl)
  refine fun v53 gv53 e54 => ?_
  have b55 := ivf_at j44 6 rfl
  refine fun v56 e57 => ?_
  refine And.intro (by omega) (fun A58 e59 => ?_)
  have i60 := iva_sf i43 e59 rfl
  have j61 := ivf_st j44 e59 (And.intro (by omega) trivial)
  have f62 := frm_sf f48 e59 rfl
  have t63 := st_v e59
  have t64 : A58 0 (fd 28) = A42 0 (fd 28) := (st_f e59 rfl)
  have t65 : A58 0 (fd 31) = A42 0 (fd 31) := (st_f e59 rfl)
  have t66 : A58 0 (fd 32) = A42 0 (fd 32) := (st_f e59 rfl)
  have ps67 := (PS_j p3 (Eq.trans (st_a e59 rfl) (Eq.trans g46 (cu (Eq.trans (st_a e34 rfl) (st_a e19 rfl))))) (Eq.trans (Eq.trans (Eq.trans (st_a e59 rfl) (frm_a f45 rfl)) (st_a e34 rfl)) (st_u e19)) (by omega) (by omega) (by omega) (by omega) (by omega) (by omega) (by omega) (by omega) (by omega) (by omega) (by omega) (by omega) (by omega) : PS A58 u0 f (A58 0 (fd 32)) 0 x)
  have z68 := PS_bd ps67
  exact hK _ i60 j61 f62 (PS_k ps67 rfl rfl (by omega) (by omega) (by omega) (by omega) (by omega) (by omega)) (by first | assumption | omega | simp_all) (by first | assumption | omega | simp_all)
def sM_readsCompared : qS := fun as A K => ∃ u0 : Int → Int, ∃ f : Int, ∃ x : Int, as = [rf 0] ∧ (iva IM A ∧ ivf JM A ∧ (PS A u0 f (A 0 (fd 32)) 0 x) ∧ (0 ≤ x) ∧ (1 ≤ A 0 (fd 32))) ∧ (∀ A' : qA, iva IM A' → ivf JM A' → frm [23, 24] [(0, 27), (0, 29), (0, 30), (0, 31), (0, 32), (0, 34)] A A' → ∀ r : Int, 0 ≤ r → r ≤ 1 → (r = 0 ∨ PS A' u0 f (A' 0 (fd 32)) 1 x) → (r = 0 ∨ 1 ≤ A' 0 (fd 32)) → (r = 0 ∨ A 0 (fd 27) < A' 0 (fd 27)) → K (some (ni r)) A')
theorem okM_readsCompared : okM LM 6 179 sM_readsCompared := by
  refine qmeth [] false [(175, sM_readsSum), (162, sM_here), (164, sM_wrongAt), (167, sM_notes), (176, sM_endsPiece)] 59 rfl ⟨okM_readsSum.le (by decide), ⟨okM_here.le (by decide), ⟨okM_wrongAt.le (by decide), ⟨okM_notes.le (by decide), ⟨okM_endsPiece.le (by decide), trivial⟩⟩⟩⟩⟩ ?_
  rintro _ A K hA has ⟨u0, f, x, rfl, ⟨i0, j0, p1, p2, p3⟩, hK⟩
  have f0 := frm_0 [23, 24] [(0, 27), (0, 29), (0, 30), (0, 31), (0, 32), (0, 34)] A
  have hb_0_27 := ivf_at j0 6 rfl
  have hb_0_28 := ivf_at j0 7 rfl
  have hb_0_31 := ivf_at j0 8 rfl
  have hb_0_32 := ivf_at j0 9 rfl
  refine ⟨Nat.le_of_ble_eq_true rfl, [], trivial, ?_⟩
  have z4 := PS_bd p1
  refine Exists.intro u0 (Exists.intro f (Exists.intro 0 (Exists.intro x (And.intro rfl (And.intro (And.intro i0 (And.intro j0 (And.intro (PS_k p1 rfl rfl (by omega) (by omega) (by omega) (by omega) (by omega) (by omega)) (And.intro (by first | assumption | omega | simp_all) (by first | assumption | omega | simp_all))))) (fun A5 i6 j7 f8 r9 g13 g14 g10 g11 g12 => ?_))))))
  have f15 := frm_c f0 f8 rfl
  have t16 := ivf_at j7 6 rfl
  have t17 : A5 0 (fd 28) = A 0 (fd 28) := (frm_f f8 rfl)
  have t18 := ivf_at j7 8 rfl
  have t19 := ivf_at j7 9 rfl
  refine And.intro (fun h20 => ?_) (fun h20 => ?_)
  · refine And.intro rfl (And.intro (And.intro i6 j7) (fun r21 g24 g25 g22 g23 => ?_))
    refine And.intro (fun h26 => ?_) (fun h26 => ?_)
    · refine And.intro rfl (And.intro (And.intro i6 j7) (fun r27 g30 g31 g28 g29 => ?_))
      refine And.intro (fun h32 => ?_) (fun h32 => ?_)
      · refine And.intro rfl (And.intro (And.intro i6 j7) (fun r33 g36 g37 g34 g35 => ?_))
        refine And.intro (fun h38 => ?_) (fun h38 => ?_)
        · refine And.intro (fun h39 => by exfalso; omega) (fun h39 => ?_)
          refine fun v40 gv40 e41 => ?_
          have b42 := ivf_at j7 6 rfl
          refine Exists.intro 1 (Exists.intro v40 (And.intro rfl (And.intro (And.intro i6 (And.intro j7 (And.intro (by omega) (And.intro (by omega) (And.intro (by omega) (by omega)))))) (fun A43 i44 j45 f46 => (fun h47 => ?_)))))
          · have f48 := frm_c f15 f46 rfl
            have t49 : A43 0 (fd 27) = A5 0 (fd 27) := (frm_f f46 rfl)
            have t50 : A43 0 (fd 28) = A5 0 (fd 28) := (frm_f f46 rfl)
            have t51 : A43 0 (fd 31) = A5 0 (fd 31) := (frm_f f46 rfl)
            have t52 : A43 0 (fd 32) = A5 0 (fd 32) := (frm_f f46 rfl)
            exact And.intro (by omega) (hK _ i44 j45 f48 _ (by omega) (by omega) (Or.inl rfl) (by first | assumption | omega | simp_all) (by first | assumption | omega | simp_all))
        · refine And.intro (fun h53 => ?_) (fun h53 => by exfalso; omega)
          refine fun v54 gv54 e55 => ?_
          have b56 := ivf_at j7 6 rfl
          refine fun v57 e58 => ?_
          refine And.intro (by omega) (fun A59 e60 => ?_)
          have i61 := iva_sf i6 e60 rfl
          have j62 := ivf_st j7 e60 (And.intro (by omega) trivial)
          have f63 := frm_sf f15 e60 rfl
          have t64 := st_v e60
          have t65 : A59 0 (fd 28) = A5 0 (fd 28) := (st_f e60 rfl)
          have t66 : A59 0 (fd 31) = A5 0 (fd 31) := (st_f e60 rfl)
          have t67 : A59 0 (fd 32) = A5 0 (fd 32) := (st_f e60 rfl)
          have z68 := PS_bd (Or.resolve_left g10 (by omega))
          refine Exists.intro u0 (Exists.intro f (Exists.intro (0 + 1) (Exists.intro (x + 1) (And.intro rfl (And.intro (And.intro i61 (And.intro j62 (And.intro (PS_k (Or.resolve_left g10 (by omega)) (st_a e60 rfl) (st_a e60 rfl) (by omega) (by omega) (by omega) (by omega) (by omega) (by omega)) (And.intro (by first | assumption | omega | simp_all) (by first | assumption | omega | simp_all))))) (fun A69 i70 j71 f72 r73 g77 g78 g74 g75 g76 => ?_))))))
          have f79 := frm_c f63 f72 rfl
          have t80 := ivf_at j71 6 rfl
          have t81 : A69 0 (fd 28) = A59 0 (fd 28) := (frm_f f72 rfl)
          have t82 := ivf_at j71 8 rfl
          have t83 := ivf_at j71 9 rfl
          refine And.intro (fun h84 => ?_) (fun h84 => ?_)
          · have z85 := PS_bd (Or.resolve_left g74 (by omega))
            refine Exists.intro 9 (Exists.intro 0 (And.intro rfl (And.intro (And.intro i70 (And.intro j71 (And.intro (by omega) (And.intro (by omega) (And.intro (by omega) (And.intro (by omega) (by first | assumption | omega | simp_all))))))) (fun A86 i87 j88 f89 g90 g91 => ?_))))
            have f92 := frm_c f79 f89 rfl
            have t93 : A86 0 (fd 27) = A69 0 (fd 27) := (frm_f f89 rfl)
            have t94 : A86 0 (fd 28) = A69 0 (fd 28) := (frm_f f89 rfl)
            have t95 := ivf_at j88 8 rfl
            have t96 : A86 0 (fd 32) = A69 0 (fd 32) := (frm_f f89 rfl)
            have ps97 := (PS_n (Or.resolve_left g74 (by omega)) g90 (frm_a f89 rfl) (by omega) (by omega) (by omega) (by omega) (by omega) (by omega) (by omega) : PS A86 u0 f (A86 0 (fd 32)) 1 x)
            have z98 := PS_bd ps97
            have z99 := top_k (A := A69) (A' := A86) (frm_a f89 rfl) (by omega)
            have z100 := PS_bd ps97
            refine Exists.intro u0 (Exists.intro f (Exists.intro x (And.intro rfl (And.intro (And.intro i87 (And.intro j88 (And.intro (PS_k ps97 rfl rfl (by omega) (by omega) (by omega) (by omega) (by omega) (by omega)) (by first | assumption | omega | simp_all)))) (fun A101 i102 j103 f104 g105 g106 => ?_)))))
            have f107 := frm_c f92 f104 rfl
            have t108 : A101 0 (fd 27) = A86 0 (fd 27) := (frm_f f104 rfl)
            have t109 : A101 0 (fd 28) = A86 0 (fd 28) := (frm_f f104 rfl)
            have t110 := ivf_at j103 8 rfl
            have t111 := ivf_at j103 9 rfl
            exact And.intro (by omega) (hK _ i102 j103 f107 _ (by omega) (by omega) (Or.inr (PS_k g105 rfl rfl (by omega) (by omega) (by omega) (by omega) (by omega) (by omega))) (by first | assumption | omega | simp_all) (by first | assumption | omega | simp_all))
          · exact And.intro (by omega) (hK _ i70 j71 f79 _ (by omega) (by omega) (Or.inl rfl) (by first | assumption | omega | simp_all) (by first | assumption | omega | simp_all))
      · refine And.intro (fun h112 => ?_) (fun h112 => by exfalso; omega)
        refine fun v113 gv113 e114 => ?_
        have b115 := ivf_at j7 6 rfl
        refine fun v116 e117 => ?_
        refine And.intro (by omega) (fun A118 e119 => ?_)
        have i120 := iva_sf i6 e119 rfl
        have j121 := ivf_st j7 e119 (And.intro (by omega) trivial)
        have f122 := frm_sf f15 e119 rfl
        have t123 := st_v e119
        have t124 : A118 0 (fd 28) = A5 0 (fd 28) := (st_f e119 rfl)
        have t125 : A118 0 (fd 31) = A5 0 (fd 31) := (st_f e119 rfl)
        have t126 : A118 0 (fd 32) = A5 0 (fd 32) := (st_f e119 rfl)
        have z127 := PS_bd (Or.resolve_left g10 (by omega))
        refine Exists.intro u0 (Exists.intro f (Exists.intro (0 + 1) (Exists.intro (x + 1) (And.intro rfl (And.intro (And.intro i120 (And.intro j121 (And.intro (PS_k (Or.resolve_left g10 (by omega)) (st_a e119 rfl) (st_a e119 rfl) (by omega) (by omega) (by omega) (by omega) (by omega) (by omega)) (And.intro (by first | assumption | omega | simp_all) (by first | assumption | omega | simp_all))))) (fun A128 i129 j130 f131 r132 g136 g137 g133 g134 g135 => ?_))))))
        have f138 := frm_c f122 f131 rfl
        have t139 := ivf_at j130 6 rfl
        have t140 : A128 0 (fd 28) = A118 0 (fd 28) := (frm_f f131 rfl)
        have t141 := ivf_at j130 8 rfl
        have t142 := ivf_at j130 9 rfl
        refine And.intro (fun h143 => ?_) (fun h143 => ?_)
        · have z144 := PS_bd (Or.resolve_left g133 (by omega))
          refine Exists.intro 8 (Exists.intro 0 (And.intro rfl (And.intro (And.intro i129 (And.intro j130 (And.intro (by omega) (And.intro (by omega) (And.intro (by omega) (And.intro (by omega) (by first | assumption | omega | simp_all))))))) (fun A145 i146 j147 f148 g149 g150 => ?_))))
          have f151 := frm_c f138 f148 rfl
          have t152 : A145 0 (fd 27) = A128 0 (fd 27) := (frm_f f148 rfl)
          have t153 : A145 0 (fd 28) = A128 0 (fd 28) := (frm_f f148 rfl)
          have t154 := ivf_at j147 8 rfl
          have t155 : A145 0 (fd 32) = A128 0 (fd 32) := (frm_f f148 rfl)
          have ps156 := (PS_n (Or.resolve_left g133 (by omega)) g149 (frm_a f148 rfl) (by omega) (by omega) (by omega) (by omega) (by omega) (by omega) (by omega) : PS A145 u0 f (A145 0 (fd 32)) 1 x)
          have z157 := PS_bd ps156
          have z158 := top_k (A := A128) (A' := A145) (frm_a f148 rfl) (by omega)
          have z159 := PS_bd ps156
          refine Exists.intro u0 (Exists.intro f (Exists.intro x (And.intro rfl (And.intro (And.intro i146 (And.intro j147 (And.intro (PS_k ps156 rfl rfl (by omega) (by omega) (by omega) (by omega) (by omega) (by omega)) (by first | assumption | omega | simp_all)))) (fun A160 i161 j162 f163 g164 g165 => ?_)))))
          have f166 := frm_c f151 f163 rfl
          have t167 : A160 0 (fd 27) = A145 0 (fd 27) := (frm_f f163 rfl)
          have t168 : A160 0 (fd 28) = A145 0 (fd 28) := (frm_f f163 rfl)
          have t169 := ivf_at j162 8 rfl
          have t170 := ivf_at j162 9 rfl
          exact And.intro (by omega) (hK _ i161 j162 f166 _ (by omega) (by omega) (Or.inr (PS_k g164 rfl rfl (by omega) (by omega) (by omega) (by omega) (by omega) (by omega))) (by first | assumption | omega | simp_all) (by first | assumption | omega | simp_all))
        · exact And.intro (by omega) (hK _ i129 j130 f138 _ (by omega) (by omega) (Or.inl rfl) (by first | assumption | omega | simp_all) (by first | assumption | omega | simp_all))
    · refine And.intro (fun h171 => ?_) (fun h171 => by exfalso; omega)
      refine fun v172 gv172 e173 => ?_
      have b174 := ivf_at j7 6 rfl
      refine fun v175 e176 => ?_
      refine And.intro (by omega) (fun A177 e178 => ?_)
      have i179 := iva_sf i6 e178 rfl
      have j180 := ivf_st j7 e178 (And.intro (by omega) trivial)
      have f181 := frm_sf f15 e178 rfl
      have t182 := st_v e178
      have t183 : A177 0 (fd 28) = A5 0 (fd 28) := (st_f e178 rfl)
      have t184 : A177 0 (fd 31) = A5 0 (fd 31) := (st_f e178 rfl)
      have t185 : A177 0 (fd 32) = A5 0 (fd 32) := (st_f e178 rfl)
      have z186 := PS_bd (Or.resolve_left g10 (by omega))
      refine Exists.intro u0 (Exists.intro f (Exists.intro (0 + 1) (Exists.intro (x + 1) (And.intro rfl (And.intro (And.intro i179 (And.intro j180 (And.intro (PS_k (Or.resolve_left g10 (by omega)) (st_a e178 rfl) (st_a e178 rfl) (by omega) (by omega) (by omega) (by omega) (by omega) (by omega)) (And.intro (by first | assumption | omega | simp_all) (by first | assumption | omega | simp_all))))) (fun A187 i188 j189 f190 r191 g195 g196 g192 g193 g194 => ?_))))))
      have f197 := frm_c f181 f190 rfl
      have t198 := ivf_at j189 6 rfl
      have t199 : A187 0 (fd 28) = A177 0 (fd 28) := (frm_f f190 rfl)
      have t200 := ivf_at j189 8 rfl
      have t201 := ivf_at j189 9 rfl
      refine And.intro (fun h202 => ?_) (fun h202 => ?_)
      · have z203 := PS_bd (Or.resolve_left g192 (by omega))
        refine Exists.intro 7 (Exists.intro 0 (And.intro rfl (And.intro (And.intro i188 (And.intro j189 (And.intro (by omega) (And.intro (by omega) (And.intro (by omega) (And.intro (by omega) (by first | assumption | omega | simp_all))))))) (fun A204 i205 j206 f207 g208 g209 => ?_))))
        have f210 := frm_c f197 f207 rfl
        have t211 : A204 0 (fd 27) = A187 0 (fd 27) := (frm_f f207 rfl)
        have t212 : A204 0 (fd 28) = A187 0 (fd 28) := (frm_f f207 rfl)
        have t213 := ivf_at j206 8 rfl
        have t214 : A204 0 (fd 32) = A187 0 (fd 32) := (frm_f f207 rfl)
        have ps215 := (PS_n (Or.resolve_left g192 (by omega)) g208 (frm_a f207 rfl) (by omega) (by omega) (by omega) (by omega) (by omega) (by omega) (by omega) : PS A204 u0 f (A204 0 (fd 32)) 1 x)
        have z216 := PS_bd ps215
        have z217 := top_k (A := A187) (A' := A204) (frm_a f207 rfl) (by omega)
        have z218 := PS_bd ps215
        refine Exists.intro u0 (Exists.intro f (Exists.intro x (And.intro rfl (And.intro (And.intro i205 (And.intro j206 (And.intro (PS_k ps215 rfl rfl (by omega) (by omega) (by omega) (by omega) (by omega) (by omega)) (by first | assumption | omega | simp_all)))) (fun A219 i220 j221 f222 g223 g224 => ?_)))))
        have f225 := frm_c f210 f222 rfl
        have t226 : A219 0 (fd 27) = A204 0 (fd 27) := (frm_f f222 rfl)
        have t227 : A219 0 (fd 28) = A204 0 (fd 28) := (frm_f f222 rfl)
        have t228 := ivf_at j221 8 rfl
        have t229 := ivf_at j221 9 rfl
        exact And.intro (by omega) (hK _ i220 j221 f225 _ (by omega) (by omega) (Or.inr (PS_k g223 rfl rfl (by omega) (by omega) (by omega) (by omega) (by omega) (by omega))) (by first | assumption | omega | simp_all) (by first | assumption | omega | simp_all))
      · exact And.intro (by omega) (hK _ i188 j189 f197 _ (by omega) (by omega) (Or.inl rfl) (by first | assumption | omega | simp_all) (by first | assumption | omega | simp_all))
  · exact And.intro (by omega) (hK _ i6 j7 f15 _ (by omega) (by omega) (Or.inl rfl) (by first | assumption | omega | simp_all) (by first | assumption | omega | simp_all))
def sM_readsCondition : qS := fun as A K => as = [rf 0] ∧ (iva IM A ∧ ivf JM A ∧ (A 0 (fd 31) ≤ A 0 (fd 27))) ∧ (∀ A' : qA, iva IM A' → ivf JM A' → frm [23, 24] [(0, 27), (0, 29), (0, 30), (0, 31), (0, 32), (0, 34)] A A' → ∀ r : Int, 0 ≤ r → r ≤ 1 → (r = 0 ∨ PS A' (A 23) (A 0 (fd 31)) (A' 0 (fd 32)) 1 0) → (r = 0 ∨ A' 0 (fd 32) = 0) → (r = 0 ∨ A 0 (fd 27) < A' 0 (fd 27)) → K (some (ni r)) A')
theorem okM_readsCondition : okM LM 7 180 sM_readsCondition := by
  refine qmeth [] true [(162, sM_here), (168, sM_opens), (164, sM_wrongAt), (179, sM_readsCompared), (177, sM_lands), (178, sM_jumps), (176, sM_endsPiece)] 119 rfl ⟨okM_here.le (by decide), ⟨okM_opens.le (by decide), ⟨okM_wrongAt.le (by decide), ⟨okM_readsCompared.le (by decide), ⟨okM_lands.le (by decide), ⟨okM_jumps.le (by decide), ⟨okM_endsPiece.le (by decide), trivial⟩⟩⟩⟩⟩⟩⟩ ?_
  rintro _ A K hA has ⟨rfl, ⟨i0, j0, p1⟩, hK⟩
  have f0 := frm_0 [23, 24] [(0, 27), (0, 29), (0, 30), (0, 31), (0, 32), (0, 34)] A
  have hb_0_27 := ivf_at j0 6 rfl
  have hb_0_28 := ivf_at j0 7 rfl
  have hb_0_31 := ivf_at j0 8 rfl
  have hb_0_32 := ivf_at j0 9 rfl
  refine ⟨Nat.le_of_ble_eq_true rfl, [(22, [(0, 2, 0)], fun zs B nn => match zs with | [] => iva IM B ∧ ivf JM B ∧ frm [23, 24] [(0, 27), (0, 29), (0, 30), (0, 31), (0, 32), (0, 34)] A B ∧ nn = (200 - B 0 (fd 27) : Int).toNat ∧ (PS B (A 23) (A 0 (fd 31)) (B 0 (fd 32)) 0 0) ∧ (1 ≤ B 0 (fd 32)) ∧ (A 0 (fd 27) < B 0 (fd 27)) | _ => False), (47, [(0, 2, 0)], fun zs B nn => match zs with | [] => iva IM B ∧ ivf JM B ∧ frm [23, 24] [(0, 27), (0, 29), (0, 30), (0, 31), (0, 32), (0, 34)] A B ∧ nn = (200 - B 0 (fd 27) : Int).toNat ∧ (PS B (A 23) (A 0 (fd 31)) (B 0 (fd 32)) 1 0) ∧ (1 ≤ B 0 (fd 32)) ∧ (A 0 (fd 27) < B 0 (fd 27)) | _ => False)], ?_, ?_⟩
  · refine ⟨⟨rfl, ?_⟩, ⟨rfl, ?_⟩, trivial⟩
    · refine fun  B mm hB hz hI => ?_
      obtain ⟨i1, j1, f1, hm, c0, c1, c2⟩ := hI
      have hc_0_27 := ivf_at j1 6 rfl
      have hc_0_28 := ivf_at j1 7 rfl
      have hc_0_31 := ivf_at j1 8 rfl
      have hc_0_32 := ivf_at j1 9 rfl
      refine And.intro rfl (And.intro (And.intro i1 j1) (fun r57 g60 g61 g58 g59 => ?_))
      refine And.intro (fun h62 => ?_) (fun h62 => ?_)
      · refine And.intro rfl (And.intro (And.intro i1 j1) (fun r63 g66 g67 g64 g65 => ?_))
        refine And.intro (fun h68 => ?_) (fun h68 => ?_)
        · have z69 := PS_bd c0
          refine Exists.intro 13 (And.intro rfl (And.intro (And.intro i1 (And.intro j1 (And.intro (by omega) (And.intro (by omega) (And.intro (by first | assumption | omega | simp_all) (by first | assumption | omega | simp_all)))))) (fun A70 i71 j72 f73 r74 g78 g79 g75 g76 g77 => ?_)))
          have f80 := frm_c f1 f73 rfl
          have t81 := ivf_at j72 6 rfl
          have t82 : A70 0 (fd 28) = B 0 (fd 28) := (frm_f f73 rfl)
          have t83 : A70 0 (fd 31) = B 0 (fd 31) := (frm_f f73 rfl)
          have t84 := ivf_at j72 9 rfl
          refine And.intro (fun h85 => ?_) (fun h85 => ?_)
          · exact Exists.intro (200 - A70 0 (fd 27) : Int).toNat (And.intro (by omega) (And.intro i71 (And.intro j72 (And.intro f80 (And.intro rfl (And.intro (PS_k (PS_q c0 (frm_a f73 rfl) (Or.resolve_left g75 (by omega)) (by omega) (by omega) (by omega) (by omega) (by omega) (by omega) : PS A70 (A 23) (A 0 (fd 31)) (A70 0 (fd 32)) 0 0) rfl rfl (by omega) (by omega) (by omega) (by omega) (by omega) (by omega)) (And.intro (by omega) (by omega))))))))
          · exact And.intro (by omega) (hK _ i71 j72 f80 _ (by omega) (by omega) (Or.inl rfl) (by first | assumption | omega | simp_all) (by first | assumption | omega | simp_all))
        · have z86 := PS_bd c0
          refine Exists.intro 10 (And.intro rfl (And.intro (And.intro i1 (And.intro j1 (And.intro (by omega) (And.intro (by omega) (And.intro (by first | assumption | omega | simp_all) (by first | assumption | omega | simp_all)))))) (fun A87 i88 j89 f90 r91 g95 g96 g92 g93 g94 => ?_)))
          have f97 := frm_c f1 f90 rfl
          have t98 := ivf_at j89 6 rfl
          have t99 : A87 0 (fd 28) = B 0 (fd 28) := (frm_f f90 rfl)
          have t100 : A87 0 (fd 31) = B 0 (fd 31) := (frm_f f90 rfl)
          have t101 := ivf_at j89 9 rfl
          refine And.intro (fun h102 => ?_) (fun h102 => ?_)
          · exact Exists.intro (200 - A87 0 (fd 27) : Int).toNat (And.intro (by omega) (And.intro i88 (And.intro j89 (And.intro f97 (And.intro rfl (And.intro (PS_k (PS_q c0 (frm_a f90 rfl) (Or.resolve_left g92 (by omega)) (by omega) (by omega) (by omega) (by omega) (by omega) (by omega) : PS A87 (A 23) (A 0 (fd 31)) (A87 0 (fd 32)) 0 0) rfl rfl (by omega) (by omega) (by omega) (by omega) (by omega) (by omega)) (And.intro (by omega) (by omega))))))))
          · exact And.intro (by omega) (hK _ i88 j89 f97 _ (by omega) (by omega) (Or.inl rfl) (by first | assumption | omega | simp_all) (by first | assumption | omega | simp_all))
      · refine And.intro rfl (And.intro (And.intro i1 j1) (fun r103 g106 g107 g104 g105 => ?_))
        refine And.intro (fun h108 => ?_) (fun h108 => ?_)
        · have z109 := PS_bd c0
          refine Exists.intro (A 23) (Exists.intro (A 0 (fd 31)) (Exists.intro 0 (And.intro rfl (And.intro (And.intro i1 (And.intro j1 (And.intro (PS_k c0 rfl rfl (by omega) (by omega) (by omega) (by omega) (by omega) (by omega)) (And.intro (by first | assumption | omega | simp_all) (by first | assumption | omega | simp_all))))) (fun A110 i111 j112 f113 r114 g118 g119 g115 g116 g117 => ?_)))))
          have f120 := frm_c f1 f113 rfl
          have t121 := ivf_at j112 6 rfl
          have t122 : A110 0 (fd 28) = B 0 (fd 28) := (frm_f f113 rfl)
          have t123 := ivf_at j112 8 rfl
          have t124 := ivf_at j112 9 rfl
          refine And.intro (fun h125 => ?_) (fun h125 => ?_)
          · exact Exists.intro (200 - A110 0 (fd 27) : Int).toNat (And.intro (by omega) (And.intro i111 (And.intro j112 (And.intro f120 (And.intro rfl (And.intro (PS_k (Or.resolve_left g115 (by omega)) rfl rfl (by omega) (by omega) (by omega) (by omega) (by omega) (by omega)) (And.intro (by omega) (by omega))))))))
          · exact And.intro (by omega) (hK _ i111 j112 f120 _ (by omega) (by omega) (Or.inl rfl) (by first | assumption | omega | simp_all) (by first | assumption | omega | simp_all))
        · refine And.intro rfl (And.intro (And.intro i1 j1) (fun r126 g129 g130 g127 g128 => ?_))
          refine And.intro (fun h131 => ?_) (fun h131 => ?_)
          · have z132 := PS_bd c0
            refine Exists.intro 13 (And.intro rfl (And.intro (And.intro i1 (And.intro j1 (And.intro (by omega) (And.intro (by omega) (And.intro (by first | assumption | omega | simp_all) (by first | assumption | omega | simp_all)))))) (fun A133 i134 j135 f136 r137 g141 g142 g138 g139 g140 => ?_)))
            have f143 := frm_c f1 f136 rfl
            have t144 := ivf_at j135 6 rfl
            have t145 : A133 0 (fd 28) = B 0 (fd 28) := (frm_f f136 rfl)
            have t146 : A133 0 (fd 31) = B 0 (fd 31) := (frm_f f136 rfl)
            have t147 := ivf_at j135 9 rfl
            refine And.intro (fun h148 => ?_) (fun h148 => ?_)
            · exact Exists.intro (200 - A133 0 (fd 27) : Int).toNat (And.intro (by omega) (And.intro i134 (And.intro j135 (And.intro f143 (And.intro rfl (And.intro (PS_k (PS_q c0 (frm_a f136 rfl) (Or.resolve_left g138 (by omega)) (by omega) (by omega) (by omega) (by omega) (by omega) (by omega) : PS A133 (A 23) (A 0 (fd 31)) (A133 0 (fd 32)) 0 0) rfl rfl (by omega) (by omega) (by omega) (by omega) (by omega) (by omega)) (And.intro (by omega) (by omega))))))))
            · exact And.intro (by omega) (hK _ i134 j135 f143 _ (by omega) (by omega) (Or.inl rfl) (by first | assumption | omega | simp_all) (by first | assumption | omega | simp_all))
          · have z149 := PS_bd c0
            refine Exists.intro 10 (And.intro rfl (And.intro (And.intro i1 (And.intro j1 (And.intro (by omega) (And.intro (by omega) (And.intro (by first | assumption | omega | simp_all) (by first | assumption | omega | simp_all)))))) (fun A150 i151 j152 f153 r154 g158 g159 g155 g156 g157 => ?_)))
            have f160 := frm_c f1 f153 rfl
            have t161 := ivf_at j152 6 rfl
            have t162 : A150 0 (fd 28) = B 0 (fd 28) := (frm_f f153 rfl)
            have t163 : A150 0 (fd 31) = B 0 (fd 31) := (frm_f f153 rfl)
            have t164 := ivf_at j152 9 rfl
            refine And.intro (fun h165 => ?_) (fun h165 => ?_)
            · exact Exists.intro (200 - A150 0 (fd 27) : Int).toNat (And.intro (by omega) (And.intro i151 (And.intro j152 (And.intro f160 (And.intro rfl (And.intro (PS_k (PS_q c0 (frm_a f153 rfl) (Or.resolve_left g155 (by omega)) (by omega) (by omega) (by omega) (by omega) (by omega) (by omega) : PS A150 (A 23) (A 0 (fd 31)) (A150 0 (fd 32)) 0 0) rfl rfl (by omega) (by omega) (by omega) (by omega) (by omega) (by omega)) (And.intro (by omega) (by omega))))))))
            · exact And.intro (by omega) (hK _ i151 j152 f160 _ (by omega) (by omega) (Or.inl rfl) (by first | assumption | omega | simp_all) (by first | assumption | omega | simp_all))
    · refine fun  B mm hB hz hI => ?_
      obtain ⟨i1, j1, f1, hm, c0, c1, c2⟩ := hI
      have hc_0_27 := ivf_at j1 6 rfl
      have hc_0_28 := ivf_at j1 7 rfl
      have hc_0_31 := ivf_at j1 8 rfl
      have hc_0_32 := ivf_at j1 9 rfl
      refine And.intro rfl (And.intro (And.intro i1 j1) (fun r166 g169 g170 g167 g168 => ?_))
      refine And.intro (fun h171 => ?_) (fun h171 => ?_)
      · refine And.intro rfl (And.intro (And.intro i1 j1) (fun r172 g175 g176 g173 g174 => ?_))
        refine And.intro (fun h177 => ?_) (fun h177 => ?_)
        · refine And.intro rfl (And.intro (And.intro i1 j1) (fun r178 g181 g182 g179 g180 => ?_))
          refine And.intro (fun h183 => ?_) (fun h183 => ?_)
          · have z184 := PS_bd c0
            refine Exists.intro 0 (Exists.intro (A 23) (Exists.intro (A 0 (fd 31)) (Exists.intro 0 (And.intro rfl (And.intro (And.intro i1 (And.intro j1 (And.intro (by omega) (And.intro (by omega) (And.intro (PS_k c0 rfl rfl (by omega) (by omega) (by omega) (by omega) (by omega) (by omega)) (by first | assumption | omega | simp_all)))))) (fun A185 i186 j187 f188 g189 g190 g191 => ?_))))))
            have f192 := frm_c f1 f188 rfl
            have t193 : A185 0 (fd 27) = B 0 (fd 27) := (frm_f f188 rfl)
            have t194 : A185 0 (fd 28) = B 0 (fd 28) := (frm_f f188 rfl)
            have t195 : A185 0 (fd 31) = B 0 (fd 31) := (frm_f f188 rfl)
            have t196 := ivf_at j187 9 rfl
            refine And.intro rfl (And.intro (And.intro i186 j187) (fun r197 g200 g201 g198 g199 => ?_))
            refine And.intro (fun h202 => ?_) (fun h202 => ?_)
            · have z203 := PS_bd g189
              refine Exists.intro 12 (Exists.intro (A 23) (Exists.intro (A 0 (fd 31)) (Exists.intro 0 (And.intro rfl (And.intro (And.intro i186 (And.intro j187 (And.intro (by omega) (And.intro (by omega) (And.intro (PS_k g189 rfl rfl (by omega) (by omega) (by omega) (by omega) (by omega) (by omega)) (And.intro (by first | assumption | omega | simp_all) (And.intro (by first | assumption | omega | simp_all) (by first | assumption | omega | simp_all)))))))) (fun A204 i205 j206 f207 g208 g209 g210 => ?_))))))
              have f211 := frm_c f192 f207 rfl
              have t212 := ivf_at j206 6 rfl
              have t213 : A204 0 (fd 28) = A185 0 (fd 28) := (frm_f f207 rfl)
              have t214 := ivf_at j206 8 rfl
              have t215 := ivf_at j206 9 rfl
              exact Exists.intro (200 - A204 0 (fd 27) : Int).toNat (And.intro (by omega) (And.intro i205 (And.intro j206 (And.intro f211 (And.intro rfl (And.intro (PS_k g208 rfl rfl (by omega) (by omega) (by omega) (by omega) (by omega) (by omega)) (And.intro (by omega) (by omega))))))))
            · have z216 := PS_bd g189
              refine Exists.intro 11 (Exists.intro (A 23) (Exists.intro (A 0 (fd 31)) (Exists.intro 0 (And.intro rfl (And.intro (And.intro i186 (And.intro j187 (And.intro (by omega) (And.intro (by omega) (And.intro (PS_k g189 rfl rfl (by omega) (by omega) (by omega) (by omega) (by omega) (by omega)) (And.intro (by first | assumption | omega | simp_all) (And.intro (by first | assumption | omega | simp_all) (by first | assumption | omega | simp_all)))))))) (fun A217 i218 j219 f220 g221 g222 g223 => ?_))))))
              have f224 := frm_c f192 f220 rfl
              have t225 := ivf_at j219 6 rfl
              have t226 : A217 0 (fd 28) = A185 0 (fd 28) := (frm_f f220 rfl)
              have t227 := ivf_at j219 8 rfl
              have t228 := ivf_at j219 9 rfl
              exact Exists.intro (200 - A217 0 (fd 27) : Int).toNat (And.intro (by omega) (And.intro i218 (And.intro j219 (And.intro f224 (And.intro rfl (And.intro (PS_k g221 rfl rfl (by omega) (by omega) (by omega) (by omega) (by omega) (by omega)) (And.intro (by omega) (by omega))))))))
          · have z229 := PS_bd c0
            refine Exists.intro 1 (Exists.intro (A 23) (Exists.intro (A 0 (fd 31)) (Exists.intro 0 (And.intro rfl (And.intro (And.intro i1 (And.intro j1 (And.intro (by omega) (And.intro (by omega) (And.intro (PS_k c0 rfl rfl (by omega) (by omega) (by omega) (by omega) (by omega) (by omega)) (by first | assumption | omega | simp_all)))))) (fun A230 i231 j232 f233 g234 g235 g236 => ?_))))))
            have f237 := frm_c f1 f233 rfl
            have t238 : A230 0 (fd 27) = B 0 (fd 27) := (frm_f f233 rfl)
            have t239 : A230 0 (fd 28) = B 0 (fd 28) := (frm_f f233 rfl)
            have t240 : A230 0 (fd 31) = B 0 (fd 31) := (frm_f f233 rfl)
            have t241 := ivf_at j232 9 rfl
            refine And.intro rfl (And.intro (And.intro i231 j232) (fun r242 g245 g246 g243 g244 => ?_))
            refine And.intro (fun h247 => ?_) (fun h247 => ?_)
            · have z248 := PS_bd g234
              refine Exists.intro 12 (Exists.intro (A 23) (Exists.intro (A 0 (fd 31)) (Exists.intro 0 (And.intro rfl (And.intro (And.intro i231 (And.intro j232 (And.intro (by omega) (And.intro (by omega) (And.intro (PS_k g234 rfl rfl (by omega) (by omega) (by omega) (by omega) (by omega) (by omega)) (And.intro (by first | assumption | omega | simp_all) (And.intro (by first | assumption | omega | simp_all) (by first | assumption | omega | simp_all)))))))) (fun A249 i250 j251 f252 g253 g254 g255 => ?_))))))
              have f256 := frm_c f237 f252 rfl
              have t257 := ivf_at j251 6 rfl
              have t258 : A249 0 (fd 28) = A230 0 (fd 28) := (frm_f f252 rfl)
              have t259 := ivf_at j251 8 rfl
              have t260 := ivf_at j251 9 rfl
              exact Exists.intro (200 - A249 0 (fd 27) : Int).toNat (And.intro (by omega) (And.intro i250 (And.intro j251 (And.intro f256 (And.intro rfl (And.intro (PS_k g253 rfl rfl (by omega) (by omega) (by omega) (by omega) (by omega) (by omega)) (And.intro (by omega) (by omega))))))))
            · have z261 := PS_bd g234
              refine Exists.intro 11 (Exists.intro (A 23) (Exists.intro (A 0 (fd 31)) (Exists.intro 0 (And.intro rfl (And.intro (And.intro i231 (And.intro j232 (And.intro (by omega) (And.intro (by omega) (And.intro (PS_k g234 rfl rfl (by omega) (by omega) (by omega) (by omega) (by omega) (by omega)) (And.intro (by first | assumption | omega | simp_all) (And.intro (by first | assumption | omega | simp_all) (by first | assumption | omega | simp_all)))))))) (fun A262 i263 j264 f265 g266 g267 g268 => ?_))))))
              have f269 := frm_c f237 f265 rfl
              have t270 := ivf_at j264 6 rfl
              have t271 : A262 0 (fd 28) = A230 0 (fd 28) := (frm_f f265 rfl)
              have t272 := ivf_at j264 8 rfl
              have t273 := ivf_at j264 9 rfl
              exact Exists.intro (200 - A262 0 (fd 27) : Int).toNat (And.intro (by omega) (And.intro i263 (And.intro j264 (And.intro f269 (And.intro rfl (And.intro (PS_k g266 rfl rfl (by omega) (by omega) (by omega) (by omega) (by omega) (by omega)) (And.intro (by omega) (by omega))))))))
        · refine And.intro rfl (And.intro (And.intro i1 j1) (fun r274 g277 g278 g275 g276 => ?_))
          refine And.intro (fun h279 => ?_) (fun h279 => ?_)
          · refine And.intro rfl (And.intro (And.intro i1 j1) (fun r280 g283 g284 g281 g282 => ?_))
            refine And.intro (fun h285 => ?_) (fun h285 => ?_)
            · have z286 := PS_bd c0
              refine Exists.intro 0 (Exists.intro (A 23) (Exists.intro (A 0 (fd 31)) (Exists.intro 0 (And.intro rfl (And.intro (And.intro i1 (And.intro j1 (And.intro (by omega) (And.intro (by omega) (And.intro (PS_k c0 rfl rfl (by omega) (by omega) (by omega) (by omega) (by omega) (by omega)) (by first | assumption | omega | simp_all)))))) (fun A287 i288 j289 f290 g291 g292 g293 => ?_))))))
              have f294 := frm_c f1 f290 rfl
              have t295 : A287 0 (fd 27) = B 0 (fd 27) := (frm_f f290 rfl)
              have t296 : A287 0 (fd 28) = B 0 (fd 28) := (frm_f f290 rfl)
              have t297 : A287 0 (fd 31) = B 0 (fd 31) := (frm_f f290 rfl)
              have t298 := ivf_at j289 9 rfl
              refine And.intro rfl (And.intro (And.intro i288 j289) (fun r299 g302 g303 g300 g301 => ?_))
              refine And.intro (fun h304 => ?_) (fun h304 => ?_)
              · have z305 := PS_bd g291
                refine Exists.intro 12 (Exists.intro (A 23) (Exists.intro (A 0 (fd 31)) (Exists.intro 0 (And.intro rfl (And.intro (And.intro i288 (And.intro j289 (And.intro (by omega) (And.intro (by omega) (And.intro (PS_k g291 rfl rfl (by omega) (by omega) (by omega) (by omega) (by omega) (by omega)) (And.intro (by first | assumption | omega | simp_all) (And.intro (by first | assumption | omega | simp_all) (by first | assumption | omega | simp_all)))))))) (fun A306 i307 j308 f309 g310 g311 g312 => ?_))))))
                have f313 := frm_c f294 f309 rfl
                have t314 := ivf_at j308 6 rfl
                have t315 : A306 0 (fd 28) = A287 0 (fd 28) := (frm_f f309 rfl)
                have t316 := ivf_at j308 8 rfl
                have t317 := ivf_at j308 9 rfl
                exact Exists.intro (200 - A306 0 (fd 27) : Int).toNat (And.intro (by omega) (And.intro i307 (And.intro j308 (And.intro f313 (And.intro rfl (And.intro (PS_k g310 rfl rfl (by omega) (by omega) (by omega) (by omega) (by omega) (by omega)) (And.intro (by omega) (by omega))))))))
              · have z318 := PS_bd g291
                refine Exists.intro 11 (Exists.intro (A 23) (Exists.intro (A 0 (fd 31)) (Exists.intro 0 (And.intro rfl (And.intro (And.intro i288 (And.intro j289 (And.intro (by omega) (And.intro (by omega) (And.intro (PS_k g291 rfl rfl (by omega) (by omega) (by omega) (by omega) (by omega) (by omega)) (And.intro (by first | assumption | omega | simp_all) (And.intro (by first | assumption | omega | simp_all) (by first | assumption | omega | simp_all)))))))) (fun A319 i320 j321 f322 g323 g324 g325 => ?_))))))
                have f326 := frm_c f294 f322 rfl
                have t327 := ivf_at j321 6 rfl
                have t328 : A319 0 (fd 28) = A287 0 (fd 28) := (frm_f f322 rfl)
                have t329 := ivf_at j321 8 rfl
                have t330 := ivf_at j321 9 rfl
                exact Exists.intro (200 - A319 0 (fd 27) : Int).toNat (And.intro (by omega) (And.intro i320 (And.intro j321 (And.intro f326 (And.intro rfl (And.intro (PS_k g323 rfl rfl (by omega) (by omega) (by omega) (by omega) (by omega) (by omega)) (And.intro (by omega) (by omega))))))))
            · have z331 := PS_bd c0
              refine Exists.intro 1 (Exists.intro (A 23) (Exists.intro (A 0 (fd 31)) (Exists.intro 0 (And.intro rfl (And.intro (And.intro i1 (And.intro j1 (And.intro (by omega) (And.intro (by omega) (And.intro (PS_k c0 rfl rfl (by omega) (by omega) (by omega) (by omega) (by omega) (by omega)) (by first | assumption | omega | simp_all)))))) (fun A332 i333 j334 f335 g336 g337 g338 => ?_))))))
              have f339 := frm_c f1 f335 rfl
              have t340 : A332 0 (fd 27) = B 0 (fd 27) := (frm_f f335 rfl)
              have t341 : A332 0 (fd 28) = B 0 (fd 28) := (frm_f f335 rfl)
              have t342 : A332 0 (fd 31) = B 0 (fd 31) := (frm_f f335 rfl)
              have t343 := ivf_at j334 9 rfl
              refine And.intro rfl (And.intro (And.intro i333 j334) (fun r344 g347 g348 g345 g346 => ?_))
              refine And.intro (fun h349 => ?_) (fun h349 => ?_)
              · have z350 := PS_bd g336
                refine Exists.intro 12 (Exists.intro (A 23) (Exists.intro (A 0 (fd 31)) (Exists.intro 0 (And.intro rfl (And.intro (And.intro i333 (And.intro j334 (And.intro (by omega) (And.intro (by omega) (And.intro (PS_k g336 rfl rfl (by omega) (by omega) (by omega) (by omega) (by omega) (by omega)) (And.intro (by first | assumption | omega | simp_all) (And.intro (by first | assumption | omega | simp_all) (by first | assumption | omega | simp_all)))))))) (fun A351 i352 j353 f354 g355 g356 g357 => ?_))))))
                have f358 := frm_c f339 f354 rfl
                have t359 := ivf_at j353 6 rfl
                have t360 : A351 0 (fd 28) = A332 0 (fd 28) := (frm_f f354 rfl)
                have t361 := ivf_at j353 8 rfl
                have t362 := ivf_at j353 9 rfl
                exact Exists.intro (200 - A351 0 (fd 27) : Int).toNat (And.intro (by omega) (And.intro i352 (And.intro j353 (And.intro f358 (And.intro rfl (And.intro (PS_k g355 rfl rfl (by omega) (by omega) (by omega) (by omega) (by omega) (by omega)) (And.intro (by omega) (by omega))))))))
              · have z363 := PS_bd g336
                refine Exists.intro 11 (Exists.intro (A 23) (Exists.intro (A 0 (fd 31)) (Exists.intro 0 (And.intro rfl (And.intro (And.intro i333 (And.intro j334 (And.intro (by omega) (And.intro (by omega) (And.intro (PS_k g336 rfl rfl (by omega) (by omega) (by omega) (by omega) (by omega) (by omega)) (And.intro (by first | assumption | omega | simp_all) (And.intro (by first | assumption | omega | simp_all) (by first | assumption | omega | simp_all)))))))) (fun A364 i365 j366 f367 g368 g369 g370 => ?_))))))
                have f371 := frm_c f339 f367 rfl
                have t372 := ivf_at j366 6 rfl
                have t373 : A364 0 (fd 28) = A332 0 (fd 28) := (frm_f f367 rfl)
                have t374 := ivf_at j366 8 rfl
                have t375 := ivf_at j366 9 rfl
                exact Exists.intro (200 - A364 0 (fd 27) : Int).toNat (And.intro (by omega) (And.intro i365 (And.intro j366 (And.intro f371 (And.intro rfl (And.intro (PS_k g368 rfl rfl (by omega) (by omega) (by omega) (by omega) (by omega) (by omega)) (And.intro (by omega) (by omega))))))))
          · refine fun v376 gv376 e377 => ?_
            have b378 := ivf_at j1 6 rfl
            refine Exists.intro 1 (Exists.intro v376 (And.intro rfl (And.intro (And.intro i1 (And.intro j1 (And.intro (by omega) (And.intro (by omega) (And.intro (by omega) (by omega)))))) (fun A379 i380 j381 f382 => (fun h383 => ?_)))))
            · have f384 := frm_c f1 f382 rfl
              have t385 : A379 0 (fd 27) = B 0 (fd 27) := (frm_f f382 rfl)
              have t386 : A379 0 (fd 28) = B 0 (fd 28) := (frm_f f382 rfl)
              have t387 : A379 0 (fd 31) = B 0 (fd 31) := (frm_f f382 rfl)
              have t388 : A379 0 (fd 32) = B 0 (fd 32) := (frm_f f382 rfl)
              exact And.intro (by omega) (hK _ i380 j381 f384 _ (by omega) (by omega) (Or.inl rfl) (by first | assumption | omega | simp_all) (by first | assumption | omega | simp_all))
      · have z389 := PS_bd c0
        refine Exists.intro 1 (Exists.intro (A 23) (Exists.intro (A 0 (fd 31)) (Exists.intro 0 (And.intro rfl (And.intro (And.intro i1 (And.intro j1 (And.intro (by omega) (And.intro (by omega) (And.intro (PS_k c0 rfl rfl (by omega) (by omega) (by omega) (by omega) (by omega) (by omega)) (by first | assumption | omega | simp_all)))))) (fun A390 i391 j392 f393 g394 g395 g396 => ?_))))))
        have f397 := frm_c f1 f393 rfl
        have t398 : A390 0 (fd 27) = B 0 (fd 27) := (frm_f f393 rfl)
        have t399 : A390 0 (fd 28) = B 0 (fd 28) := (frm_f f393 rfl)
        have t400 : A390 0 (fd 31) = B 0 (fd 31) := (frm_f f393 rfl)
        have t401 := ivf_at j392 9 rfl
        have hlow := PS_low g394 (by omega) (by omega)
        refine fun v402 gv402 e403 => ?_
        have b404 := ivf_at j392 9 rfl
        refine fun v405 e406 => ?_
        have w409 := wI_rng v405
        have w410 : wI v405 = v405 := wI_id (by omega)
        refine fun A407 e408 => ?_
        have i411 := iva_sf i391 e408 rfl
        have j412 := ivf_st j392 e408 (And.intro (by omega) trivial)
        have f413 := frm_sf f397 e408 rfl
        have t414 : A407 0 (fd 27) = A390 0 (fd 27) := (st_f e408 rfl)
        have t415 : A407 0 (fd 28) = A390 0 (fd 28) := (st_f e408 rfl)
        have t416 : A407 0 (fd 31) = A390 0 (fd 31) := (st_f e408 rfl)
        have t417 := st_v e408
        refine fun v418 gv418 e419 => ?_
        refine fun v420 e421 => ?_
        have w424 := wI_rng v420
        refine fun A422 e423 => ?_
        have i425 := iva_sf i411 e423 rfl
        have j426 := ivf_st j412 e423 trivial
        have f427 := frm_sf f413 e423 rfl
        have t428 : A422 0 (fd 27) = A407 0 (fd 27) := (st_f e423 rfl)
        have t429 : A422 0 (fd 28) = A407 0 (fd 28) := (st_f e423 rfl)
        have t430 : A422 0 (fd 31) = A407 0 (fd 31) := (st_f e423 rfl)
        have t431 : A422 0 (fd 32) = A407 0 (fd 32) := (st_f e423 rfl)
        refine fun v432 gv432 e433 => ?_
        have b434 := ivf_at j426 6 rfl
        refine fun v435 e436 => ?_
        have w439 := wI_rng v435
        have w440 : wI v435 = v435 := wI_id (by omega)
        refine fun A437 e438 => ?_
        have i441 := iva_sf i425 e438 rfl
        have j442 := ivf_st j426 e438 (And.intro (by omega) trivial)
        have f443 := frm_sf f427 e438 rfl
        have t444 := st_v e438
        have t445 : A437 0 (fd 28) = A422 0 (fd 28) := (st_f e438 rfl)
        have t446 : A437 0 (fd 31) = A422 0 (fd 31) := (st_f e438 rfl)
        have t447 : A437 0 (fd 32) = A422 0 (fd 32) := (st_f e438 rfl)
        have ps448 := (PS_p g394 (Eq.trans (Eq.trans (st_a e438 rfl) (st_a e423 rfl)) (st_a e408 rfl)) (Eq.trans (Eq.trans (st_a e438 rfl) (st_a e423 rfl)) (st_a e408 rfl)) (by omega) (by omega) (by omega) (by omega) (by omega) (by omega) (by omega) (by omega) : PS A437 (A 23) (A 0 (fd 31)) (A437 0 (fd 32)) 1 0)
        have z449 := PS_bd ps448
        refine fun v450 gv450 e451 => ?_
        have b452 := ivf_at j442 9 rfl
        have q453 : (wI v405) = v450 := (e451.trans ((Eq.trans (st_f e438 rfl) (st_f e423 rfl)).trans (st_v e408))).symm
        subst q453
        refine And.intro (fun h454 => ?_) (fun h454 => ?_)
        · have z455 := PS_bd ps448
          refine Exists.intro (A 23) (Exists.intro (A 0 (fd 31)) (Exists.intro 0 (And.intro rfl (And.intro (And.intro i441 (And.intro j442 (And.intro (PS_k ps448 rfl rfl (by omega) (by omega) (by omega) (by omega) (by omega) (by omega)) (by first | assumption | omega | simp_all)))) (fun A456 i457 j458 f459 g460 g461 => ?_)))))
          have f462 := frm_c f443 f459 rfl
          have t463 : A456 0 (fd 27) = A437 0 (fd 27) := (frm_f f459 rfl)
          have t464 : A456 0 (fd 28) = A437 0 (fd 28) := (frm_f f459 rfl)
          have t465 := ivf_at j458 8 rfl
          have t466 := ivf_at j458 9 rfl
          exact Exists.intro (200 - A456 0 (fd 27) : Int).toNat (And.intro (by omega) (And.intro i457 (And.intro j458 (And.intro f462 (And.intro rfl (And.intro (PS_k g460 rfl rfl (by omega) (by omega) (by omega) (by omega) (by omega) (by omega)) (And.intro (by omega) (by omega))))))))
        · exact And.intro (by omega) (hK _ i441 j442 f443 _ (by omega) (by omega) (Or.inr (PS_k ps448 rfl rfl (by omega) (by omega) (by omega) (by omega) (by omega) (by omega))) (by first | assumption | omega | simp_all) (by first | assumption | omega | simp_all))
  · refine And.intro rfl (And.intro (And.intro i0 j0) (fun r2 g5 g6 g3 g4 => ?_))
    refine And.intro (fun h7 => ?_) (fun h7 => ?_)
    · refine fun A8 e9 => ?_
      have i10 := iva_sf i0 e9 rfl
      have j11 := ivf_st j0 e9 trivial
      have f12 := frm_sf f0 e9 rfl
      have t13 : A8 0 (fd 27) = A 0 (fd 27) := (st_f e9 rfl)
      have t14 : A8 0 (fd 28) = A 0 (fd 28) := (st_f e9 rfl)
      have t15 : A8 0 (fd 31) = A 0 (fd 31) := (st_f e9 rfl)
      have t16 : A8 0 (fd 32) = A 0 (fd 32) := (st_f e9 rfl)
      refine fun A17 e18 => ?_
      have i19 := iva_sf i10 e18 rfl
      have j20 := ivf_st j11 e18 (And.intro (by omega) trivial)
      have f21 := frm_sf f12 e18 rfl
      have t22 : A17 0 (fd 27) = A8 0 (fd 27) := (st_f e18 rfl)
      have t23 : A17 0 (fd 28) = A8 0 (fd 28) := (st_f e18 rfl)
      have t24 : A17 0 (fd 31) = A8 0 (fd 31) := (st_f e18 rfl)
      have t25 := st_v e18
      have ps26 : PS A17 (A 23) (A 0 (fd 31)) 0 0 0 := PS_0 (Eq.trans (st_a e18 rfl) (st_a e9 rfl)) (by omega) (by omega) (by omega) (by omega)
      have z27 := PS_bd ps26
      refine Exists.intro 13 (And.intro rfl (And.intro (And.intro i19 (And.intro j20 (And.intro (by omega) (And.intro (by omega) (And.intro (by first | assumption | omega | simp_all) (by first | assumption | omega | simp_all)))))) (fun A28 i29 j30 f31 r32 g36 g37 g33 g34 g35 => ?_)))
      have f38 := frm_c f21 f31 rfl
      have t39 := ivf_at j30 6 rfl
      have t40 : A28 0 (fd 28) = A17 0 (fd 28) := (frm_f f31 rfl)
      have t41 : A28 0 (fd 31) = A17 0 (fd 31) := (frm_f f31 rfl)
      have t42 := ivf_at j30 9 rfl
      refine And.intro (fun h43 => ?_) (fun h43 => ?_)
      · exact Exists.intro (200 - A28 0 (fd 27) : Int).toNat (And.intro i29 (And.intro j30 (And.intro f38 (And.intro rfl (And.intro (PS_k (PS_q ps26 (frm_a f31 rfl) (Or.resolve_left g33 (by omega)) (by omega) (by omega) (by omega) (by omega) (by omega) (by omega) : PS A28 (A 23) (A 0 (fd 31)) (A28 0 (fd 32)) 0 0) rfl rfl (by omega) (by omega) (by omega) (by omega) (by omega) (by omega)) (And.intro (by omega) (by omega)))))))
      · exact And.intro (by omega) (hK _ i29 j30 f38 _ (by omega) (by omega) (Or.inl rfl) (by first | assumption | omega | simp_all) (by first | assumption | omega | simp_all))
    · refine fun v44 gv44 e45 => ?_
      have b46 := ivf_at j0 6 rfl
      refine Exists.intro 1 (Exists.intro v44 (And.intro rfl (And.intro (And.intro i0 (And.intro j0 (And.intro (by omega) (And.intro (by omega) (And.intro (by omega) (by omega)))))) (fun A47 i48 j49 f50 => (fun h51 => ?_)))))
      · have f52 := frm_c f0 f50 rfl
        have t53 : A47 0 (fd 27) = A 0 (fd 27) := (frm_f f50 rfl)
        have t54 : A47 0 (fd 28) = A 0 (fd 28) := (frm_f f50 rfl)
        have t55 : A47 0 (fd 31) = A 0 (fd 31) := (frm_f f50 rfl)
        have t56 : A47 0 (fd 32) = A 0 (fd 32) := (frm_f f50 rfl)
        exact And.intro (by omega) (hK _ i48 j49 f52 _ (by omega) (by omega) (Or.inl rfl) (by first | assumption | omega | simp_all) (by first | assumption | omega | simp_all))
