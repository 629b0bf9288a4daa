def fM_endsPiece_c0 (rec : Nat → List Int → qA → qA) (B : qA) : qA := qlet (fM_top B) fun r56 => (if r56 = 10 then qlet (fM_notes 10 0 B) fun A62 => qlet (A62 0 (fd 32)) fun v77 => qlet (v77 - 1) fun v80 => qlet (qu A62 0 (fd 32) (wI v80)) fun A82 => qlet (A82 0 (fd 30)) fun v95 => qlet (v95 - 1) fun v97 => qlet (qu A82 0 (fd 30) (wI v97)) fun A99 => rec 0 [] A99 else B)
def fM_endsPiece_L : Nat → Nat → List Int → qA → qA
  | 0 => fun _ _ B => B
  | nF + 1 => fun k zs B => bif Nat.beq k 0 then (match zs with | [] => fM_endsPiece_c0 (fM_endsPiece_L nF)  B | _ => B) else B
theorem fM_endsPiece_L0 (nF : Nat) (B : qA) : fM_endsPiece_L (nF + 1) 0 [] B = fM_endsPiece_c0 (fM_endsPiece_L nF)  B := (congrFun (congrFun (congrFun (fM_endsPiece_L.eq_2 nF) 0) []) B).trans (qL1 rfl rfl)
def fM_endsPiece (A : qA) : qA := qlet (fM_top A) fun r3 => (if r3 = 10 then qlet (fM_notes 10 0 A) fun A9 => qlet (A9 0 (fd 32)) fun v24 => qlet (v24 - 1) fun v27 => qlet (qu A9 0 (fd 32) (wI v27)) fun A29 => qlet (A29 0 (fd 30)) fun v42 => qlet (v42 - 1) fun v44 => qlet (qu A29 0 (fd 30) (wI v44)) fun A46 => (fM_endsPiece_L 100000) 0 [] A46 else A)
def sM_endsPiece : qS := fun as A K => ∃ u0 : Int → Int, ∃ f : Int, ∃ x : Int, as = [rf 0] ∧ (iva IM A ∧ ivf JM A ∧ (PS A u0 f (A 0 (fd 32)) 1 x) ∧ (0 ≤ x)) ∧ (∀ A' : qA, iva IM A' → ivf JM A' → frm [23] [(0, 30), (0, 31), (0, 32)] A A' → (PS A' u0 f (A' 0 (fd 32)) 1 x) → (1 ≤ A 0 (fd 32) → 1 ≤ A' 0 (fd 32)) → (A' = fM_endsPiece A) → K none A')
theorem okM_endsPiece : okM LM 2 176 sM_endsPiece := by
  refine qmeth [] true [(169, sM_top), (167, sM_notes)] 28 rfl ⟨okM_top.le (by decide), ⟨okM_notes.le (by decide), trivial⟩⟩ ?_
  rintro _ A K hA has ⟨u0, f, x, rfl, ⟨i0, j0, p1, p2⟩, hK⟩
  have f0 := frm_0 [23] [(0, 30), (0, 31), (0, 32)] A
  have hb_0_27 := ivf_at j0 6 rfl
  have hb_0_28 := ivf_at j0 7 rfl
  have hb_0_31 := ivf_at j0 8 rfl
  have hb_0_32 := ivf_at j0 9 rfl
  have hT : _ = fM_endsPiece A := (fM_endsPiece.eq_1 A).symm
  refine ⟨Nat.le_of_ble_eq_true rfl, [(0, [(0, 2, 0)], fun zs B nn => match zs with | [] => iva IM B ∧ ivf JM B ∧ frm [23] [(0, 30), (0, 31), (0, 32)] A B ∧ nn = (B 0 (fd 32) : Int).toNat ∧ (PS B u0 f (B 0 (fd 32)) 1 x) ∧ (1 ≤ A 0 (fd 32) → 1 ≤ B 0 (fd 32)) ∧ (∃ nf : Nat, nn < nf ∧ fM_endsPiece_L nf 0 [] B = fM_endsPiece A) | _ => False)], ?_, ?_⟩
  · refine ⟨⟨rfl, ?_⟩, trivial⟩
    · refine fun  B mm hB hz hI => ?_
      obtain ⟨i1, j1, f1, hm, c0, c1, ⟨nf, hnf, hT⟩⟩ := hI
      obtain ⟨ng, rfl⟩ : ∃ k, nf = k + 1 := ⟨nf - 1, by omega⟩
      replace hT := (fM_endsPiece_c0.eq_1 (fM_endsPiece_L ng) B).symm.trans ((fM_endsPiece_L0 ng B).symm.trans hT)
      have hc_0_27 := ivf_at j1 6 rfl
      have hc_0_28 := ivf_at j1 7 rfl
      have hc_0_31 := ivf_at j1 8 rfl
      have hc_0_32 := ivf_at j1 9 rfl
      refine And.intro rfl (And.intro (And.intro i1 j1) (fun r56 g59 g57 g58 => ?_))
      replace hT := qlc g58 hT
      clear g58
      refine And.intro (fun h60 => ?_) (fun h60 => ?_)
      · replace hT := (if_neg h60).symm.trans hT
        exact hK _ i1 j1 f1 (PS_kA c0 rfl rfl (by (first | (clear hm hnf; omega) | omega))) (by first | assumption | omega | simp_all) hT
      · replace hT := (if_pos h60).symm.trans hT
        have hw1 := PS_w1 c0 (by (first | (clear hm hnf; omega) | omega)) (by (first | (clear hm hnf; omega) | omega)) (by (first | (clear hm hnf; omega) | omega))
        have z61 := PS_bd c0
        refine Exists.intro 10 (Exists.intro 0 (And.intro rfl (And.intro (And.intro i1 (And.intro j1 (dqA4 (by (first | (clear hm hnf; omega) | omega)) (by first | assumption | omega | simp_all)))) (fun A62 i63 j64 f65 g66 g67 g68 => ?_))))
        replace hT := qlc g68 hT
        have f69 := frm_c f1 f65 rfl
        have t70 : A62 0 (fd 27) = B 0 (fd 27) := (frm_f f65 rfl)
        have t71 : A62 0 (fd 28) = B 0 (fd 28) := (frm_f f65 rfl)
        have t72 := ivf_at j64 8 rfl
        have t73 : A62 0 (fd 32) = B 0 (fd 32) := (frm_f f65 rfl)
        have ps74 := (PS_nA c0 g66 (frm_a f65 rfl) (by (first | (clear hm hnf; omega) | omega)) (by (first | (clear hm hnf; omega) | omega)) : PS A62 u0 f (B 0 (fd 32)) 1 (x - 1))
        have z75 := PS_bd ps74
        have z76 := top_k (A := B) (A' := A62) (frm_a f65 rfl) (by (first | (clear hm hnf; omega) | omega))
        refine fun v77 gv77 e78 => ?_
        replace hT := qlc e78 hT
        have b79 := ivf_at j64 9 rfl
        refine fun v80 e81 => ?_
        replace hT := qlc e81 hT
        have w84 := wI_rng v80
        have w85 : wI v80 = v80 := wI_id (by (first | (clear hm hnf; omega) | omega))
        refine fun A82 e83 => ?_
        replace hT := qlc e83 hT
        have i86 := iva_sf i63 e83 rfl
        have j87 := ivf_st j64 e83 (And.intro (by (first | (clear hm hnf; omega) | omega)) trivial)
        have f88 := frm_sf f69 e83 rfl
        have t89 : A82 0 (fd 27) = A62 0 (fd 27) := (st_f e83 rfl)
        have t90 : A82 0 (fd 28) = A62 0 (fd 28) := (st_f e83 rfl)
        have t91 : A82 0 (fd 31) = A62 0 (fd 31) := (st_f e83 rfl)
        have t92 := st_v e83
        have ps93 := (PS_pA ps74 (st_a e83 rfl) (st_a e83 rfl) (by (first | (clear hm hnf; omega) | omega)) (by (first | (clear hm hnf; omega) | omega)) (by (first | (clear hm hnf; omega) | omega)) (by (first | (clear hm hnf; omega) | omega)) : PS A82 u0 f (A82 0 (fd 32)) 1 x)
        have z94 := PS_bd ps93
        refine fun v95 gv95 e96 => ?_
        replace hT := qlc e96 hT
        refine fun v97 e98 => ?_
        replace hT := qlc e98 hT
        have w101 := wI_rng v97
        refine fun A99 e100 => ?_
        replace hT := qlc e100 hT
        have i102 := iva_sf i86 e100 rfl
        have j103 := ivf_st j87 e100 trivial
        have f104 := frm_sf f88 e100 rfl
        have t105 : A99 0 (fd 27) = A82 0 (fd 27) := (st_f e100 rfl)
        have t106 : A99 0 (fd 28) = A82 0 (fd 28) := (st_f e100 rfl)
        have t107 : A99 0 (fd 31) = A82 0 (fd 31) := (st_f e100 rfl)
        have t108 : A99 0 (fd 32) = A82 0 (fd 32) := (st_f e100 rfl)
        exact Exists.intro (A99 0 (fd 32) : Int).toNat (And.intro (by first | exact qtn hm (by (try clear hm hnf); omega) | omega) (And.intro i102 (And.intro j103 (And.intro f104 (And.intro rfl (And.intro (PS_kA ps93 (st_a e100 rfl) (st_a e100 rfl) (by (first | (clear hm hnf; omega) | omega))) (And.intro (by (first | (clear hm hnf; omega) | omega)) (Exists.intro ng (And.intro (by first | exact qtm hm hnf (by (try clear hm hnf); omega) | omega) hT)))))))))
  · refine And.intro rfl (And.intro (And.intro i0 j0) (fun r3 g6 g4 g5 => ?_))
    replace hT := qlc g5 hT
    clear g5
    refine And.intro (fun h7 => ?_) (fun h7 => ?_)
    · replace hT := (if_neg h7).symm.trans hT
      exact hK _ i0 j0 f0 (PS_kA p1 rfl rfl (by (first | (clear hm hnf; omega) | omega))) (by first | assumption | omega | simp_all) hT
    · replace hT := (if_pos h7).symm.trans hT
      have hw1 := PS_w1 p1 (by (first | (clear hm hnf; omega) | omega)) (by (first | (clear hm hnf; omega) | omega)) (by (first | (clear hm hnf; omega) | omega))
      have z8 := PS_bd p1
      refine Exists.intro 10 (Exists.intro 0 (And.intro rfl (And.intro (And.intro i0 (And.intro j0 (dqA4 (by (first | (clear hm hnf; omega) | omega)) (by first | assumption | omega | simp_all)))) (fun A9 i10 j11 f12 g13 g14 g15 => ?_))))
      replace hT := qlc g15 hT
      have f16 := frm_c f0 f12 rfl
      have t17 : A9 0 (fd 27) = A 0 (fd 27) := (frm_f f12 rfl)
      have t18 : A9 0 (fd 28) = A 0 (fd 28) := (frm_f f12 rfl)
      have t19 := ivf_at j11 8 rfl
      have t20 : A9 0 (fd 32) = A 0 (fd 32) := (frm_f f12 rfl)
      have ps21 := (PS_nA p1 g13 (frm_a f12 rfl) (by (first | (clear hm hnf; omega) | omega)) (by (first | (clear hm hnf; omega) | omega)) : PS A9 u0 f (A 0 (fd 32)) 1 (x - 1))
      have z22 := PS_bd ps21
      have z23 := top_k (A := A) (A' := A9) (frm_a f12 rfl) (by (first | (clear hm hnf; omega) | omega))
      refine fun v24 gv24 e25 => ?_
      replace hT := qlc e25 hT
      have b26 := ivf_at j11 9 rfl
      refine fun v27 e28 => ?_
      replace hT := qlc e28 hT
      have w31 := wI_rng v27
      have w32 : wI v27 = v27 := wI_id (by (first | (clear hm hnf; omega) | omega))
      refine fun A29 e30 => ?_
      replace hT := qlc e30 hT
      have i33 := iva_sf i10 e30 rfl
      have j34 := ivf_st j11 e30 (And.intro (by (first | (clear hm hnf; omega) | omega)) trivial)
      have f35 := frm_sf f16 e30 rfl
      have t36 : A29 0 (fd 27) = A9 0 (fd 27) := (st_f e30 rfl)
      have t37 : A29 0 (fd 28) = A9 0 (fd 28) := (st_f e30 rfl)
      have t38 : A29 0 (fd 31) = A9 0 (fd 31) := (st_f e30 rfl)
      have t39 := st_v e30
      have ps40 := (PS_pA ps21 (st_a e30 rfl) (st_a e30 rfl) (by (first | (clear hm hnf; omega) | omega)) (by (first | (clear hm hnf; omega) | omega)) (by (first | (clear hm hnf; omega) | omega)) (by (first | (clear hm hnf; omega) | omega)) : PS A29 u0 f (A29 0 (fd 32)) 1 x)
      have z41 := PS_bd ps40
      refine fun v42 gv42 e43 => ?_
      replace hT := qlc e43 hT
      refine fun v44 e45 => ?_
      replace hT := qlc e45 hT
      have w48 := wI_rng v44
      refine fun A46 e47 => ?_
      replace hT := qlc e47 hT
      have i49 := iva_sf i33 e47 rfl
      have j50 := ivf_st j34 e47 trivial
      have f51 := frm_sf f35 e47 rfl
      have t52 : A46 0 (fd 27) = A29 0 (fd 27) := (st_f e47 rfl)
      have t53 : A46 0 (fd 28) = A29 0 (fd 28) := (st_f e47 rfl)
      have t54 : A46 0 (fd 31) = A29 0 (fd 31) := (st_f e47 rfl)
      have t55 : A46 0 (fd 32) = A29 0 (fd 32) := (st_f e47 rfl)
      exact Exists.intro (A46 0 (fd 32) : Int).toNat (And.intro i49 (And.intro j50 (And.intro f51 (And.intro rfl (And.intro (PS_kA ps40 (st_a e47 rfl) (st_a e47 rfl) (by (first | (clear hm hnf; omega) | omega))) (And.intro (by (first | (clear hm hnf; omega) | omega)) (Exists.intro 100000 (And.intro (by (first | (clear hm hnf; omega) | omega)) hT))))))))
def fM_lands_c0 (rec : Nat → List Int → qA → qA) (l1 : Int) (B : qA) : qA := qlet (fM_top B) fun r122 => (if r122 = 11 then qlet (B 0 (fd 32)) fun v127 => qlet (v127 - 1) fun v130 => qlet (B 24 v130) fun v132 => qlet (qm v132 (qn 1048576)) fun v136 => qlet (B 23 v136) fun v140 => qlet (qd v140 (qn 1048576)) fun v144 => qlet ((qn 1048576) * v144) fun v147 => qlet (B 0 (fd 31)) fun v149 => qlet (v147 + v149) fun v152 => qlet (qu B 23 v136 v152) fun A154 => qlet (A154 0 (fd 32)) fun v163 => qlet (v127 - 1) fun v167 => qlet (qu A154 0 (fd 32) v167) fun A169 => rec 0 [l1] A169 else (if l1 = 0 then B else qlet (fM_top B) fun r181 => (if r181 = 12 then qlet (B 0 (fd 32)) fun v186 => qlet (v186 - 1) fun v189 => qlet (B 24 v189) fun v191 => qlet (qm v191 (qn 1048576)) fun v195 => qlet (B 23 v195) fun v199 => qlet (qd v199 (qn 1048576)) fun v203 => qlet ((qn 1048576) * v203) fun v206 => qlet (B 0 (fd 31)) fun v208 => qlet (v206 + v208) fun v211 => qlet (qu B 23 v195 v211) fun A213 => qlet (A213 0 (fd 32)) fun v222 => qlet (v186 - 1) fun v226 => qlet (qu A213 0 (fd 32) v226) fun A228 => rec 0 [l1] A228 else B)))
def fM_lands_L : Nat → Nat → List Int → qA → qA
  | 0 => fun _ _ B => B
  | nF + 1 => fun k zs B => bif Nat.beq k 0 then (match zs with | [l1] => fM_lands_c0 (fM_lands_L nF) l1 B | _ => B) else B
theorem fM_lands_L0 (nF : Nat) (l1 : Int) (B : qA) : fM_lands_L (nF + 1) 0 [l1] B = fM_lands_c0 (fM_lands_L nF) l1 B := (congrFun (congrFun (congrFun (fM_lands_L.eq_2 nF) 0) [l1]) B).trans (qL1 rfl rfl)
def fM_lands (a : Int) (A : qA) : qA := qlet (fM_top A) fun r5 => (if r5 = 11 then qlet (A 0 (fd 32)) fun v10 => qlet (v10 - 1) fun v13 => qlet (A 24 v13) fun v15 => qlet (qm v15 (qn 1048576)) fun v19 => qlet (A 23 v19) fun v23 => qlet (qd v23 (qn 1048576)) fun v27 => qlet ((qn 1048576) * v27) fun v30 => qlet (A 0 (fd 31)) fun v32 => qlet (v30 + v32) fun v35 => qlet (qu A 23 v19 v35) fun A37 => qlet (A37 0 (fd 32)) fun v46 => qlet (v10 - 1) fun v50 => qlet (qu A37 0 (fd 32) v50) fun A52 => (fM_lands_L 100000) 0 [a] A52 else (if a = 0 then A else qlet (fM_top A) fun r64 => (if r64 = 12 then qlet (A 0 (fd 32)) fun v69 => qlet (v69 - 1) fun v72 => qlet (A 24 v72) fun v74 => qlet (qm v74 (qn 1048576)) fun v78 => qlet (A 23 v78) fun v82 => qlet (qd v82 (qn 1048576)) fun v86 => qlet ((qn 1048576) * v86) fun v89 => qlet (A 0 (fd 31)) fun v91 => qlet (v89 + v91) fun v94 => qlet (qu A 23 v78 v94) fun A96 => qlet (A96 0 (fd 32)) fun v105 => qlet (v69 - 1) fun v109 => qlet (qu A96 0 (fd 32) v109) fun A111 => (fM_lands_L 100000) 0 [a] A111 else A)))
def sM_lands : qS := fun as A K => ∃ a : Int, ∃ u0 : Int → Int, ∃ f : Int, ∃ x : Int, as = [rf 0, ni a] ∧ (iva IM A ∧ ivf JM A ∧ 0 ≤ a ∧ a ≤ 1 ∧ (PS A u0 f (A 0 (fd 32)) 1 x) ∧ (0 ≤ x)) ∧ (∀ A' : qA, iva IM A' → ivf JM A' → frm [23] [(0, 32)] A A' → (PS A' u0 f (A' 0 (fd 32)) 1 x) → (1 ≤ A 0 (fd 32) → 1 ≤ A' 0 (fd 32)) → (a = 1 → (A' 0 (fd 32) = 0 ∨ (A' 24 (A' 0 (fd 32) - 1) / 1048576 ≠ 11 ∧ A' 24 (A' 0 (fd 32) - 1) / 1048576 ≠ 12))) → (A' = fM_lands a A) → K none A')
theorem okM_lands : okM LM 2 177 sM_lands := by
  refine qmeth [] false [(169, sM_top)] 49 rfl ⟨okM_top.le (by decide), trivial⟩ ?_
  rintro _ A K hA has ⟨a, u0, f, x, rfl, ⟨i0, j0, p1, p2, p3, p4⟩, hK⟩
  have rg_a : rng a := has (ni a) (by simp)
  have f0 := frm_0 [23] [(0, 32)] A
  have hb_0_27 := ivf_at j0 6 rfl
  have hb_0_28 := ivf_at j0 7 rfl
  have hb_0_31 := ivf_at j0 8 rfl
  have hb_0_32 := ivf_at j0 9 rfl
  have hT : _ = fM_lands a A := (fM_lands.eq_1 a A).symm
  refine ⟨Nat.le_of_ble_eq_true rfl, [(0, [(0, 2, 0), (1, 0, 0)], fun zs B nn => match zs with | [l1] => iva IM B ∧ ivf JM B ∧ frm [23] [(0, 32)] A B ∧ nn = (B 0 (fd 32) : Int).toNat ∧ (l1 = a) ∧ (PS B u0 f (B 0 (fd 32)) 1 x) ∧ (1 ≤ A 0 (fd 32) → 1 ≤ B 0 (fd 32)) ∧ (∃ nf : Nat, nn < nf ∧ fM_lands_L nf 0 [l1] B = fM_lands a A) | _ => False)], ?_, ?_⟩
  · refine ⟨⟨rfl, ?_⟩, trivial⟩
    · refine fun l1 B mm hB hz hI => ?_
      obtain ⟨i1, j1, f1, hm, c0, c1, c2, ⟨nf, hnf, hT⟩⟩ := hI
      obtain ⟨hz_l1, _⟩ := hz
      obtain ⟨ng, rfl⟩ : ∃ k, nf = k + 1 := ⟨nf - 1, by omega⟩
      replace hT := (fM_lands_c0.eq_1 (fM_lands_L ng) l1 B).symm.trans ((fM_lands_L0 ng l1 B).symm.trans hT)
      have hc_0_27 := ivf_at j1 6 rfl
      have hc_0_28 := ivf_at j1 7 rfl
      have hc_0_31 := ivf_at j1 8 rfl
      have hc_0_32 := ivf_at j1 9 rfl
      refine And.intro rfl (And.intro (And.intro i1 j1) (fun r122 g125 g123 g124 => ?_))
      replace hT := qlc g124 hT
      clear g124
      refine And.intro (fun h126 => ?_) (fun h126 => ?_)
      · replace hT := (if_pos h126).symm.trans hT
        have hw1 := PS_w1 c1 (by (first | (clear hm hnf; omega) | omega)) (by (first | (clear hm hnf; omega) | omega)) (by (first | (clear hm hnf; omega) | omega))
        have hfr := PS_fr c1 (by (first | (clear hm hnf; omega) | omega)) (by (first | (clear hm hnf; omega) | omega))
        have hz9 := PS_bd c1
        refine fun v127 gv127 e128 => ?_
        replace hT := qlc e128 hT
        have b129 := ivf_at j1 9 rfl
        refine fun v130 e131 => ?_
        replace hT := qlc e131 hT
        have hix : B 24 v130 = B 24 (B 0 (fd 32) - 1) := by rw [show B 0 (fd 32) - 1 = v130 by (first | (clear hm hnf; omega) | omega)]
        refine And.intro (by (first | (clear hm hnf; omega) | omega)) (fun v132 gv132 e133 => ?_)
        replace hT := qlc e133 hT
        have b134 := iva_at i1 12 rfl (i := v130) (by (first | (clear hm hnf; omega) | omega)) (by (first | (clear hm hnf; omega) | omega))
        have k135 : qn 1048576 = 1048576 := by decide
        refine And.intro (by (first | (clear hm hnf; omega) | omega)) (fun v136 e137 => ?_)
        replace hT := qlc e137 hT
        have h138 := qm_nn (a := v132) (b := (qn 1048576)) (by (first | (clear hm hnf; omega) | omega))
        rw [show qn 1048576 = 1048576 by decide] at h138 e137
        have k139 : qn 1048576 = 1048576 := by decide
        refine And.intro (by (first | (clear hm hnf; omega) | omega)) (fun v140 gv140 e141 => ?_)
        replace hT := qlc e141 hT
        have b142 := iva_at i1 11 rfl (i := v136) (by (first | (clear hm hnf; omega) | omega)) (by (first | (clear hm hnf; omega) | omega))
        have k143 : qn 1048576 = 1048576 := by decide
        refine And.intro (by (first | (clear hm hnf; omega) | omega)) (fun v144 e145 => ?_)
        replace hT := qlc e145 hT
        have h146 := qd_nn (a := v140) (b := (qn 1048576)) (by (first | (clear hm hnf; omega) | omega))
        rw [show qn 1048576 = 1048576 by decide] at h146 e145
        refine fun v147 e148 => ?_
        replace hT := qlc e148 hT
        rw [show qn 1048576 = 1048576 by decide] at e148
        refine fun v149 gv149 e150 => ?_
        replace hT := qlc e150 hT
        have b151 := ivf_at j1 8 rfl
        refine fun v152 e153 => ?_
        replace hT := qlc e153 hT
        refine dqA2 (by (first | (clear hm hnf; omega) | omega)) (fun A154 e155 => ?_)
        replace hT := qlc e155 hT
        have i156 := iva_st i1 e155 (And.intro (by (first | (clear hm hnf; omega) | omega)) trivial)
        have j157 := ivf_sa j1 e155 rfl
        have f158 := frm_s f1 e155 rfl
        have t159 : A154 0 (fd 27) = B 0 (fd 27) := (congrFun (st_a e155 rfl) _)
        have t160 : A154 0 (fd 28) = B 0 (fd 28) := (congrFun (st_a e155 rfl) _)
        have t161 : A154 0 (fd 31) = B 0 (fd 31) := (congrFun (st_a e155 rfl) _)
        have t162 : A154 0 (fd 32) = B 0 (fd 32) := (congrFun (st_a e155 rfl) _)
        refine fun v163 gv163 e164 => ?_
        replace hT := qlc e164 hT
        have b165 := ivf_at j157 9 rfl
        have q166 : v127 = v163 := (e164.trans ((congrFun (st_a e155 rfl) _).trans e128.symm)).symm
        subst q166
        refine fun v167 e168 => ?_
        replace hT := qlc e168 hT
        refine And.intro (by (first | (clear hm hnf; omega) | omega)) (fun A169 e170 => ?_)
        replace hT := qlc e170 hT
        have i171 := iva_sf i156 e170 rfl
        have j172 := ivf_st j157 e170 (And.intro (by (first | (clear hm hnf; omega) | omega)) trivial)
        have f173 := frm_sf f158 e170 rfl
        have t174 : A169 0 (fd 27) = A154 0 (fd 27) := (st_f e170 rfl)
        have t175 : A169 0 (fd 28) = A154 0 (fd 28) := (st_f e170 rfl)
        have t176 : A169 0 (fd 31) = A154 0 (fd 31) := (st_f e170 rfl)
        have t177 := st_v e170
        have ps178 := (PS_l c1 (Eq.trans (st_a e170 rfl) (st_u e155)) (Eq.trans (st_a e170 rfl) (st_a e155 rfl)) (by (first | (clear hm hnf; omega) | omega)) (by (first | (clear hm hnf; omega) | omega)) (by (first | (clear hm hnf; omega) | omega)) (by (first | (clear hm hnf; omega) | omega)) (by (first | (clear hm hnf; omega) | omega)) (by (first | (clear hm hnf; omega) | omega)) (by (first | (clear hm hnf; omega) | omega)) (by (first | (clear hm hnf; omega) | omega)) (by (first | (clear hm hnf; omega) | omega)) (by (first | (clear hm hnf; omega) | omega)) (by (first | (clear hm hnf; omega) | omega)) (by (first | (clear hm hnf; omega) | omega)) (by (first | (clear hm hnf; omega) | omega)) : PS A169 u0 f (A169 0 (fd 32)) 1 x)
        have z179 := PS_bd ps178
        exact Exists.intro (A169 0 (fd 32) : Int).toNat (And.intro (by first | exact qtn hm (by (try clear hm hnf); omega) | omega) (And.intro i171 (And.intro j172 (And.intro f173 (And.intro rfl (And.intro (by (first | (clear hm hnf; omega) | omega)) (And.intro (PS_kA ps178 rfl rfl (by (first | (clear hm hnf; omega) | omega))) (And.intro (by (first | (clear hm hnf; omega) | omega)) (Exists.intro ng (And.intro (by first | exact qtm hm hnf (by (try clear hm hnf); omega) | omega) hT))))))))))
      · replace hT := (if_neg h126).symm.trans hT
        refine And.intro (fun h180 => ?_) (fun h180 => ?_)
        · replace hT := (if_pos h180).symm.trans hT
          exact hK _ i1 j1 f1 (PS_kA c1 rfl rfl (by (first | (clear hm hnf; omega) | omega))) (by first | assumption | omega | simp_all) (by first | assumption | omega | simp_all) hT
        · replace hT := (if_neg h180).symm.trans hT
          refine And.intro rfl (And.intro (And.intro i1 j1) (fun r181 g184 g182 g183 => ?_))
          replace hT := qlc g183 hT
          clear g183
          refine And.intro (fun h185 => ?_) (fun h185 => ?_)
          · replace hT := (if_neg h185).symm.trans hT
            exact hK _ i1 j1 f1 (PS_kA c1 rfl rfl (by (first | (clear hm hnf; omega) | omega))) (by first | assumption | omega | simp_all) (by first | assumption | omega | simp_all) hT
          · replace hT := (if_pos h185).symm.trans hT
            have hw1 := PS_w1 c1 (by (first | (clear hm hnf; omega) | omega)) (by (first | (clear hm hnf; omega) | omega)) (by (first | (clear hm hnf; omega) | omega))
            have hfr := PS_fr c1 (by (first | (clear hm hnf; omega) | omega)) (by (first | (clear hm hnf; omega) | omega))
            have hz9 := PS_bd c1
            refine fun v186 gv186 e187 => ?_
            replace hT := qlc e187 hT
            have b188 := ivf_at j1 9 rfl
            refine fun v189 e190 => ?_
            replace hT := qlc e190 hT
            have hix : B 24 v189 = B 24 (B 0 (fd 32) - 1) := by rw [show B 0 (fd 32) - 1 = v189 by (first | (clear hm hnf; omega) | omega)]
            refine And.intro (by (first | (clear hm hnf; omega) | omega)) (fun v191 gv191 e192 => ?_)
            replace hT := qlc e192 hT
            have b193 := iva_at i1 12 rfl (i := v189) (by (first | (clear hm hnf; omega) | omega)) (by (first | (clear hm hnf; omega) | omega))
            have k194 : qn 1048576 = 1048576 := by decide
            refine And.intro (by (first | (clear hm hnf; omega) | omega)) (fun v195 e196 => ?_)
            replace hT := qlc e196 hT
            have h197 := qm_nn (a := v191) (b := (qn 1048576)) (by (first | (clear hm hnf; omega) | omega))
            rw [show qn 1048576 = 1048576 by decide] at h197 e196
            have k198 : qn 1048576 = 1048576 := by decide
            refine And.intro (by (first | (clear hm hnf; omega) | omega)) (fun v199 gv199 e200 => ?_)
            replace hT := qlc e200 hT
            have b201 := iva_at i1 11 rfl (i := v195) (by (first | (clear hm hnf; omega) | omega)) (by (first | (clear hm hnf; omega) | omega))
            have k202 : qn 1048576 = 1048576 := by decide
            refine And.intro (by (first | (clear hm hnf; omega) | omega)) (fun v203 e204 => ?_)
            replace hT := qlc e204 hT
            have h205 := qd_nn (a := v199) (b := (qn 1048576)) (by (first | (clear hm hnf; omega) | omega))
            rw [show qn 1048576 = 1048576 by decide] at h205 e204
            refine fun v206 e207 => ?_
            replace hT := qlc e207 hT
            rw [show qn 1048576 = 1048576 by decide] at e207
            refine fun v208 gv208 e209 => ?_
            replace hT := qlc e209 hT
            have b210 := ivf_at j1 8 rfl
            refine fun v211 e212 => ?_
            replace hT := qlc e212 hT
            refine dqA2 (by (first | (clear hm hnf; omega) | omega)) (fun A213 e214 => ?_)
            replace hT := qlc e214 hT
            have i215 := iva_st i1 e214 (And.intro (by (first | (clear hm hnf; omega) | omega)) trivial)
            have j216 := ivf_sa j1 e214 rfl
            have f217 := frm_s f1 e214 rfl
            have t218 : A213 0 (fd 27) = B 0 (fd 27) := (congrFun (st_a e214 rfl) _)
            have t219 : A213 0 (fd 28) = B 0 (fd 28) := (congrFun (st_a e214 rfl) _)
            have t220 : A213 0 (fd 31) = B 0 (fd 31) := (congrFun (st_a e214 rfl) _)
            have t221 : A213 0 (fd 32) = B 0 (fd 32) := (congrFun (st_a e214 rfl) _)
            refine fun v222 gv222 e223 => ?_
            replace hT := qlc e223 hT
            have b224 := ivf_at j216 9 rfl
            have q225 : v186 = v222 := (e223.trans ((congrFun (st_a e214 rfl) _).trans e187.symm)).symm
            subst q225
            refine fun v226 e227 => ?_
            replace hT := qlc e227 hT
            refine And.intro (by (first | (clear hm hnf; omega) | omega)) (fun A228 e229 => ?_)
            replace hT := qlc e229 hT
            have i230 := iva_sf i215 e229 rfl
            have j231 := ivf_st j216 e229 (And.intro (by (first | (clear hm hnf; omega) | omega)) trivial)
            have f232 := frm_sf f217 e229 rfl
            have t233 : A228 0 (fd 27) = A213 0 (fd 27) := (st_f e229 rfl)
            have t234 : A228 0 (fd 28) = A213 0 (fd 28) := (st_f e229 rfl)
            have t235 : A228 0 (fd 31) = A213 0 (fd 31) := (st_f e229 rfl)
            have t236 := st_v e229
            have ps237 := (PS_l c1 (Eq.trans (st_a e229 rfl) (st_u e214)) (Eq.trans (st_a e229 rfl) (st_a e214 rfl)) (by (first | (clear hm hnf; omega) | omega)) (by (first | (clear hm hnf; omega) | omega)) (by (first | (clear hm hnf; omega) | omega)) (by (first | (clear hm hnf; omega) | omega)) (by (first | (clear hm hnf; omega) | omega)) (by (first | (clear hm hnf; omega) | omega)) (by (first | (clear hm hnf; omega) | omega)) (by (first | (clear hm hnf; omega) | omega)) (by (first | (clear hm hnf; omega) | omega)) (by (first | (clear hm hnf; omega) | omega)) (by (first | (clear hm hnf; omega) | omega)) (by (first | (clear hm hnf; omega) | omega)) (by (first | (clear hm hnf; omega) | omega)) : PS A228 u0 f (A228 0 (fd 32)) 1 x)
            have z238 := PS_bd ps237
            exact Exists.intro (A228 0 (fd 32) : Int).toNat (And.intro (by first | exact qtn hm (by (try clear hm hnf); omega) | omega) (And.intro i230 (And.intro j231 (And.intro f232 (And.intro rfl (And.intro (by (first | (clear hm hnf; omega) | omega)) (And.intro (PS_kA ps237 rfl rfl (by (first | (clear hm hnf; omega) | omega))) (And.intro (by (first | (clear hm hnf; omega) | omega)) (Exists.intro ng (And.intro (by first | exact qtm hm hnf (by (try clear hm hnf); omega) | omega) hT))))))))))
  · refine And.intro rfl (And.intro (And.intro i0 j0) (fun r5 g8 g6 g7 => ?_))
    replace hT := qlc g7 hT
    clear g7
    refine And.intro (fun h9 => ?_) (fun h9 => ?_)
    · replace hT := (if_pos h9).symm.trans hT
      have hw1 := PS_w1 p3 (by (first | (clear hm hnf; omega) | omega)) (by (first | (clear hm hnf; omega) | omega)) (by (first | (clear hm hnf; omega) | omega))
      have hfr := PS_fr p3 (by (first | (clear hm hnf; omega) | omega)) (by (first | (clear hm hnf; omega) | omega))
      have hz9 := PS_bd p3
      refine fun v10 gv10 e11 => ?_
      replace hT := qlc e11 hT
      have b12 := ivf_at j0 9 rfl
      refine fun v13 e14 => ?_
      replace hT := qlc e14 hT
      have hix : A 24 v13 = A 24 (A 0 (fd 32) - 1) := by rw [show A 0 (fd 32) - 1 = v13 by (first | (clear hm hnf; omega) | omega)]
      refine And.intro (by (first | (clear hm hnf; omega) | omega)) (fun v15 gv15 e16 => ?_)
      replace hT := qlc e16 hT
      have b17 := iva_at i0 12 rfl (i := v13) (by (first | (clear hm hnf; omega) | omega)) (by (first | (clear hm hnf; omega) | omega))
      have k18 : qn 1048576 = 1048576 := by decide
      refine And.intro (by (first | (clear hm hnf; omega) | omega)) (fun v19 e20 => ?_)
      replace hT := qlc e20 hT
      have h21 := qm_nn (a := v15) (b := (qn 1048576)) (by (first | (clear hm hnf; omega) | omega))
      rw [show qn 1048576 = 1048576 by decide] at h21 e20
      have k22 : qn 1048576 = 1048576 := by decide
      refine And.intro (by (first | (clear hm hnf; omega) | omega)) (fun v23 gv23 e24 => ?_)
      replace hT := qlc e24 hT
      have b25 := iva_at i0 11 rfl (i := v19) (by (first | (clear hm hnf; omega) | omega)) (by (first | (clear hm hnf; omega) | omega))
      have k26 : qn 1048576 = 1048576 := by decide
      refine And.intro (by (first | (clear hm hnf; omega) | omega)) (fun v27 e28 => ?_)
      replace hT := qlc e28 hT
      have h29 := qd_nn (a := v23) (b := (qn 1048576)) (by (first | (clear hm hnf; omega) | omega))
      rw [show qn 1048576 = 1048576 by decide] at h29 e28
      refine fun v30 e31 => ?_
      replace hT := qlc e31 hT
      rw [show qn 1048576 = 1048576 by decide] at e31
      refine fun v32 gv32 e33 => ?_
      replace hT := qlc e33 hT
      have b34 := ivf_at j0 8 rfl
      refine fun v35 e36 => ?_
      replace hT := qlc e36 hT
      refine dqA2 (by (first | (clear hm hnf; omega) | omega)) (fun A37 e38 => ?_)
      replace hT := qlc e38 hT
      have i39 := iva_st i0 e38 (And.intro (by (first | (clear hm hnf; omega) | omega)) trivial)
      have j40 := ivf_sa j0 e38 rfl
      have f41 := frm_s f0 e38 rfl
      have t42 : A37 0 (fd 27) = A 0 (fd 27) := (congrFun (st_a e38 rfl) _)
      have t43 : A37 0 (fd 28) = A 0 (fd 28) := (congrFun (st_a e38 rfl) _)
      have t44 : A37 0 (fd 31) = A 0 (fd 31) := (congrFun (st_a e38 rfl) _)
      have t45 : A37 0 (fd 32) = A 0 (fd 32) := (congrFun (st_a e38 rfl) _)
      refine fun v46 gv46 e47 => ?_
      replace hT := qlc e47 hT
      have b48 := ivf_at j40 9 rfl
      have q49 : v10 = v46 := (e47.trans ((congrFun (st_a e38 rfl) _).trans e11.symm)).symm
      subst q49
      refine fun v50 e51 => ?_
      replace hT := qlc e51 hT
      refine And.intro (by (first | (clear hm hnf; omega) | omega)) (fun A52 e53 => ?_)
      replace hT := qlc e53 hT
      have i54 := iva_sf i39 e53 rfl
      have j55 := ivf_st j40 e53 (And.intro (by (first | (clear hm hnf; omega) | omega)) trivial)
      have f56 := frm_sf f41 e53 rfl
      have t57 : A52 0 (fd 27) = A37 0 (fd 27) := (st_f e53 rfl)
      have t58 : A52 0 (fd 28) = A37 0 (fd 28) := (st_f e53 rfl)
      have t59 : A52 0 (fd 31) = A37 0 (fd 31) := (st_f e53 rfl)
      have t60 := st_v e53
      have ps61 := (PS_l p3 (Eq.trans (st_a e53 rfl) (st_u e38)) (Eq.trans (st_a e53 rfl) (st_a e38 rfl)) (by (first | (clear hm hnf; omega) | omega)) (by (first | (clear hm hnf; omega) | omega)) (by (first | (clear hm hnf; omega) | omega)) (by (first | (clear hm hnf; omega) | omega)) (by (first | (clear hm hnf; omega) | omega)) (by (first | (clear hm hnf; omega) | omega)) (by (first | (clear hm hnf; omega) | omega)) (by (first | (clear hm hnf; omega) | omega)) (by (first | (clear hm hnf; omega) | omega)) (by (first | (clear hm hnf; omega) | omega)) (by (first | (clear hm hnf; omega) | omega)) (by (first | (clear hm hnf; omega) | omega)) (by (first | (clear hm hnf; omega) | omega)) : PS A52 u0 f (A52 0 (fd 32)) 1 x)
      have z62 := PS_bd ps61
      exact Exists.intro (A52 0 (fd 32) : Int).toNat (And.intro i54 (And.intro j55 (And.intro f56 (And.intro rfl (And.intro (by (first | (clear hm hnf; omega) | omega)) (And.intro (PS_kA ps61 rfl rfl (by (first | (clear hm hnf; omega) | omega))) (And.intro (by (first | (clear hm hnf; omega) | omega)) (Exists.intro 100000 (And.intro (by (first | (clear hm hnf; omega) | omega)) hT)))))))))
    · replace hT := (if_neg h9).symm.trans hT
      refine And.intro (fun h63 => ?_) (fun h63 => ?_)
      · replace hT := (if_pos h63).symm.trans hT
        exact hK _ i0 j0 f0 (PS_kA p3 rfl rfl (by (first | (clear hm hnf; omega) | omega))) (by first | assumption | omega | simp_all) (by first | assumption | omega | simp_all) hT
      · replace hT := (if_neg h63).symm.trans hT
        refine And.intro rfl (And.intro (And.intro i0 j0) (fun r64 g67 g65 g66 => ?_))
        replace hT := qlc g66 hT
        clear g66
        refine And.intro (fun h68 => ?_) (fun h68 => ?_)
        · replace hT := (if_neg h68).symm.trans hT
          exact hK _ i0 j0 f0 (PS_kA p3 rfl rfl (by (first | (clear hm hnf; omega) | omega))) (by first | assumption | omega | simp_all) (by first | assumption | omega | simp_all) hT
        · replace hT := (if_pos h68).symm.trans hT
          have hw1 := PS_w1 p3 (by (first | (clear hm hnf; omega) | omega)) (by (first | (clear hm hnf; omega) | omega)) (by (first | (clear hm hnf; omega) | omega))
          have hfr := PS_fr p3 (by (first | (clear hm hnf; omega) | omega)) (by (first | (clear hm hnf; omega) | omega))
          have hz9 := PS_bd p3
          refine fun v69 gv69 e70 => ?_
          replace hT := qlc e70 hT
          have b71 := ivf_at j0 9 rfl
          refine fun v72 e73 => ?_
          replace hT := qlc e73 hT
          have hix : A 24 v72 = A 24 (A 0 (fd 32) - 1) := by rw [show A 0 (fd 32) - 1 = v72 by (first | (clear hm hnf; omega) | omega)]
          refine And.intro (by (first | (clear hm hnf; omega) | omega)) (fun v74 gv74 e75 => ?_)
          replace hT := qlc e75 hT
          have b76 := iva_at i0 12 rfl (i := v72) (by (first | (clear hm hnf; omega) | omega)) (by (first | (clear hm hnf; omega) | omega))
          have k77 : qn 1048576 = 1048576 := by decide
          refine And.intro (by (first | (clear hm hnf; omega) | omega)) (fun v78 e79 => ?_)
          replace hT := qlc e79 hT
          have h80 := qm_nn (a := v74) (b := (qn 1048576)) (by (first | (clear hm hnf; omega) | omega))
          rw [show qn 1048576 = 1048576 by decide] at h80 e79
          have k81 : qn 1048576 = 1048576 := by decide
          refine And.intro (by (first | (clear hm hnf; omega) | omega)) (fun v82 gv82 e83 => ?_)
          replace hT := qlc e83 hT
          have b84 := iva_at i0 11 rfl (i := v78) (by (first | (clear hm hnf; omega) | omega)) (by (first | (clear hm hnf; omega) | omega))
          have k85 : qn 1048576 = 1048576 := by decide
          refine And.intro (by (first | (clear hm hnf; omega) | omega)) (fun v86 e87 => ?_)
          replace hT := qlc e87 hT
          have h88 := qd_nn (a := v82) (b := (qn 1048576)) (by (first | (clear hm hnf; omega) | omega))
          rw [show qn 1048576 = 1048576 by decide] at h88 e87
          refine fun v89 e90 => ?_
          replace hT := qlc e90 hT
          rw [show qn 1048576 = 1048576 by decide] at e90
          refine fun v91 gv91 e92 => ?_
          replace hT := qlc e92 hT
          have b93 := ivf_at j0 8 rfl
          refine fun v94 e95 => ?_
          replace hT := qlc e95 hT
          refine dqA2 (by (first | (clear hm hnf; omega) | omega)) (fun A96 e97 => ?_)
          replace hT := qlc e97 hT
          have i98 := iva_st i0 e97 (And.intro (by (first | (clear hm hnf; omega) | omega)) trivial)
          have j99 := ivf_sa j0 e97 rfl
          have f100 := frm_s f0 e97 rfl
          have t101 : A96 0 (fd 27) = A 0 (fd 27) := (congrFun (st_a e97 rfl) _)
          have t102 : A96 0 (fd 28) = A 0 (fd 28) := (congrFun (st_a e97 rfl) _)
          have t103 : A96 0 (fd 31) = A 0 (fd 31) := (congrFun (st_a e97 rfl) _)
          have t104 : A96 0 (fd 32) = A 0 (fd 32) := (congrFun (st_a e97 rfl) _)
          refine fun v105 gv105 e106 => ?_
          replace hT := qlc e106 hT
          have b107 := ivf_at j99 9 rfl
          have q108 : v69 = v105 := (e106.trans ((congrFun (st_a e97 rfl) _).trans e70.symm)).symm
          subst q108
          refine fun v109 e110 => ?_
          replace hT := qlc e110 hT
          refine And.intro (by (first | (clear hm hnf; omega) | omega)) (fun A111 e112 => ?_)
          replace hT := qlc e112 hT
          have i113 := iva_sf i98 e112 rfl
          have j114 := ivf_st j99 e112 (And.intro (by (first | (clear hm hnf; omega) | omega)) trivial)
          have f115 := frm_sf f100 e112 rfl
          have t116 : A111 0 (fd 27) = A96 0 (fd 27) := (st_f e112 rfl)
          have t117 : A111 0 (fd 28) = A96 0 (fd 28) := (st_f e112 rfl)
          have t118 : A111 0 (fd 31) = A96 0 (fd 31) := (st_f e112 rfl)
          have t119 := st_v e112
          have ps120 := (PS_l p3 (Eq.trans (st_a e112 rfl) (st_u e97)) (Eq.trans (st_a e112 rfl) (st_a e97 rfl)) (by (first | (clear hm hnf; omega) | omega)) (by (first | (clear hm hnf; omega) | omega)) (by (first | (clear hm hnf; omega) | omega)) (by (first | (clear hm hnf; omega) | omega)) (by (first | (clear hm hnf; omega) | omega)) (by (first | (clear hm hnf; omega) | omega)) (by (first | (clear hm hnf; omega) | omega)) (by (first | (clear hm hnf; omega) | omega)) (by (first | (clear hm hnf; omega) | omega)) (by (first | (clear hm hnf; omega) | omega)) (by (first | (clear hm hnf; omega) | omega)) (by (first | (clear hm hnf; omega) | omega)) (by (first | (clear hm hnf; omega) | omega)) : PS A111 u0 f (A111 0 (fd 32)) 1 x)
          have z121 := PS_bd ps120
          exact Exists.intro (A111 0 (fd 32) : Int).toNat (And.intro i113 (And.intro j114 (And.intro f115 (And.intro rfl (And.intro (by (first | (clear hm hnf; omega) | omega)) (And.intro (PS_kA ps120 rfl rfl (by (first | (clear hm hnf; omega) | omega))) (And.intro (by (first | (clear hm hnf; omega) | omega)) (Exists.intro 100000 (And.intro (by (first | (clear hm hnf; omega) | omega)) hT)))))))))
def fM_jumps (o : Int) (A : qA) : qA := qlet (A 0 (fd 32)) fun v7 => qlet ((qn 1048576) * o) fun v11 => qlet (A 0 (fd 31)) fun v13 => qlet (v11 + v13) fun v16 => qlet (qu A 24 v7 v16) fun A18 => qlet (A18 0 (fd 32)) fun v27 => qlet (v7 + 1) fun v31 => qlet (qu A18 0 (fd 32) v31) fun A33 => qlet (fM_notes o 0 A33) fun A42 => qlet (A42 0 (fd 27)) fun v54 => qlet (v54 + 1) fun v57 => qlet (qu A42 0 (fd 27) v57) fun A59 => A59
def sM_jumps : qS := fun as A K => ∃ o : Int, ∃ u0 : Int → Int, ∃ f : Int, ∃ x : Int, as = [rf 0, ni o] ∧ (iva IM A ∧ ivf JM A ∧ 11 ≤ o ∧ o ≤ 12 ∧ (PS A u0 f (A 0 (fd 32)) 1 x) ∧ (0 ≤ x) ∧ (1 ≤ A 0 (fd 32)) ∧ (A 0 (fd 27) < A 0 (fd 28))) ∧ (∀ A' : qA, iva IM A' → ivf JM A' → frm [23, 24] [(0, 27), (0, 31), (0, 32)] A A' → (PS A' u0 f (A' 0 (fd 32)) 0 x) → (A' 0 (fd 32) = A 0 (fd 32) + 1) → (A' 0 (fd 27) = A 0 (fd 27) + 1) → (A' = fM_jumps o A) → K none A')
theorem okM_jumps : okM LM 2 178 sM_jumps := by
  refine qmeth [] false [(167, sM_notes)] 34 rfl ⟨okM_notes.le (by decide), trivial⟩ ?_
  rintro _ A K hA has ⟨o, u0, f, x, rfl, ⟨i0, j0, p1, p2, p3, p4, p5, p6⟩, hK⟩
  have rg_o : rng o := has (ni o) (by simp)
  have f0 := frm_0 [23, 24] [(0, 27), (0, 31), (0, 32)] A
  have hb_0_27 := ivf_at j0 6 rfl
  have hb_0_28 := ivf_at j0 7 rfl
  have hb_0_31 := ivf_at j0 8 rfl
  have hb_0_32 := ivf_at j0 9 rfl
  have hT : _ = fM_jumps o A := (fM_jumps.eq_1 o A).symm
  refine ⟨Nat.le_of_ble_eq_true rfl, [], trivial, ?_⟩
  have hz9 := PS_bd p3
  refine fun v7 gv7 e8 => ?_
  replace hT := qlc e8 hT
  have b9 := ivf_at j0 9 rfl
  have k10 : qn 1048576 = 1048576 := by decide
  refine fun v11 e12 => ?_
  replace hT := qlc e12 hT
  rw [show qn 1048576 = 1048576 by decide] at e12
  refine fun v13 gv13 e14 => ?_
  replace hT := qlc e14 hT
  have b15 := ivf_at j0 8 rfl
  refine fun v16 e17 => ?_
  replace hT := qlc e17 hT
  refine dqA2 (by (first | (clear hm hnf; omega) | omega)) (fun A18 e19 => ?_)
  replace hT := qlc e19 hT
  have i20 := iva_st i0 e19 (And.intro (by (first | (clear hm hnf; omega) | omega)) trivial)
  have j21 := ivf_sa j0 e19 rfl
  have f22 := frm_s f0 e19 rfl
  have t23 : A18 0 (fd 27) = A 0 (fd 27) := (congrFun (st_a e19 rfl) _)
  have t24 : A18 0 (fd 28) = A 0 (fd 28) := (congrFun (st_a e19 rfl) _)
  have t25 : A18 0 (fd 31) = A 0 (fd 31) := (congrFun (st_a e19 rfl) _)
  have t26 : A18 0 (fd 32) = A 0 (fd 32) := (congrFun (st_a e19 rfl) _)
  refine fun v27 gv27 e28 => ?_
  replace hT := qlc e28 hT
  have b29 := ivf_at j21 9 rfl
  have q30 : v7 = v27 := (e28.trans ((congrFun (st_a e19 rfl) _).trans e8.symm)).symm
  subst q30
  refine fun v31 e32 => ?_
  replace hT := qlc e32 hT
  refine And.intro (by (first | (clear hm hnf; omega) | omega)) (fun A33 e34 => ?_)
  replace hT := qlc e34 hT
  have i35 := iva_sf i20 e34 rfl
  have j36 := ivf_st j21 e34 (And.intro (by (first | (clear hm hnf; omega) | omega)) trivial)
  have f37 := frm_sf f22 e34 rfl
  have t38 : A33 0 (fd 27) = A18 0 (fd 27) := (st_f e34 rfl)
  have t39 : A33 0 (fd 28) = A18 0 (fd 28) := (st_f e34 rfl)
  have t40 : A33 0 (fd 31) = A18 0 (fd 31) := (st_f e34 rfl)
  have t41 := st_v e34
  refine Exists.intro o (Exists.intro 0 (And.intro rfl (And.intro (And.intro i35 (And.intro j36 (dqA4 (by (first | (clear hm hnf; omega) | omega)) (by first | assumption | omega | simp_all)))) (fun A42 i43 j44 f45 g46 g47 g48 => ?_))))
  replace hT := qlc g48 hT
  have f49 := frm_c f37 f45 rfl
  have t50 : A42 0 (fd 27) = A33 0 (fd 27) := (frm_f f45 rfl)
  have t51 : A42 0 (fd 28) = A33 0 (fd 28) := (frm_f f45 rfl)
  have t52 := ivf_at j44 8 rfl
  have t53 : A42 0 (fd 32) = A33 0 (fd 32) := (frm_f f45 rfl)
  refine fun v54 gv54 e55 => ?_
  replace hT := qlc e55 hT
  have b56 := ivf_at j44 6 rfl
  refine fun v57 e58 => ?_
  replace hT := qlc e58 hT
  refine And.intro (by (first | (clear hm hnf; omega) | omega)) (fun A59 e60 => ?_)
  replace hT := qlc e60 hT
  have i61 := iva_sf i43 e60 rfl
  have j62 := ivf_st j44 e60 (And.intro (by (first | (clear hm hnf; omega) | omega)) trivial)
  have f63 := frm_sf f49 e60 rfl
  have t64 := st_v e60
  have t65 : A59 0 (fd 28) = A42 0 (fd 28) := (st_f e60 rfl)
  have t66 : A59 0 (fd 31) = A42 0 (fd 31) := (st_f e60 rfl)
  have t67 : A59 0 (fd 32) = A42 0 (fd 32) := (st_f e60 rfl)
  have ps68 := (PS_j p3 (Eq.trans (st_a e60 rfl) (Eq.trans g46 (cu (Eq.trans (st_a e34 rfl) (st_a e19 rfl))))) (Eq.trans (Eq.trans (Eq.trans (st_a e60 rfl) (frm_a f45 rfl)) (st_a e34 rfl)) (st_u e19)) (by (first | (clear hm hnf; omega) | omega)) (by (first | (clear hm hnf; omega) | omega)) (by (first | (clear hm hnf; omega) | omega)) (by (first | (clear hm hnf; omega) | omega)) (by (first | (clear hm hnf; omega) | omega)) (by (first | (clear hm hnf; omega) | omega)) (by (first | (clear hm hnf; omega) | omega)) (by (first | (clear hm hnf; omega) | omega)) (by (first | (clear hm hnf; omega) | omega)) (by (first | (clear hm hnf; omega) | omega)) (by (first | (clear hm hnf; omega) | omega)) (by (first | (clear hm hnf; omega) | omega)) (by (first | (clear hm hnf; omega) | omega)) : PS A59 u0 f (A59 0 (fd 32)) 0 x)
  have z69 := PS_bd ps68
  exact hK _ i61 j62 f63 (PS_kA ps68 rfl rfl (by (first | (clear hm hnf; omega) | omega))) (by first | assumption | omega | simp_all) (by first | assumption | omega | simp_all) hT
def fM_readsCompared (A : qA) : Int × qA := qlp (fM_readsSum A) fun r9 A5 => (if r9 = 0 then (0, A5) else qlet (fM_here A5) fun r23 => (if r23 = 60 then qlet (A5 0 (fd 27)) fun v186 => qlet (v186 + 1) fun v189 => qlet (qu A5 0 (fd 27) v189) fun A191 => qlp (fM_readsSum A191) fun r205 A201 => (if r205 = 0 then (0, A201) else qlet (fM_notes 7 0 A201) fun A220 => qlet (fM_endsPiece A220) fun A236 => (1, A236)) else qlet (fM_here A5) fun r30 => (if r30 = 62 then qlet (A5 0 (fd 27)) fun v123 => qlet (v123 + 1) fun v126 => qlet (qu A5 0 (fd 27) v126) fun A128 => qlp (fM_readsSum A128) fun r142 A138 => (if r142 = 0 then (0, A138) else qlet (fM_notes 8 0 A138) fun A157 => qlet (fM_endsPiece A157) fun A173 => (1, A173)) else qlet (fM_here A5) fun r37 => (if r37 = 61 then qlet (A5 0 (fd 27)) fun v60 => qlet (v60 + 1) fun v63 => qlet (qu A5 0 (fd 27) v63) fun A65 => qlp (fM_readsSum A65) fun r79 A75 => (if r79 = 0 then (0, A75) else qlet (fM_notes 9 0 A75) fun A94 => qlet (fM_endsPiece A94) fun A110 => (1, A110)) else qlet (A5 0 (fd 27)) fun v45 => qlet (fM_wrongAt 1 v45 A5) fun A48 => (0, A48)))))
def sM_readsCompared : qS := fun as A K => ∃ u0 : Int → Int, ∃ f : Int, ∃ x : Int, as = [rf 0] ∧ (iva IM A ∧ ivf JM A ∧ (PS A u0 f (A 0 (fd 32)) 0 x) ∧ (0 ≤ x) ∧ (1 ≤ A 0 (fd 32))) ∧ (∀ A' : qA, iva IM A' → ivf JM A' → frm [23, 24] [(0, 27), (0, 29), (0, 30), (0, 31), (0, 32), (0, 34)] A A' → ∀ r : Int, 0 ≤ r → r ≤ 1 → (r = 0 ∨ PS A' u0 f (A' 0 (fd 32)) 1 x) → (r = 0 ∨ 1 ≤ A' 0 (fd 32)) → (r = 0 ∨ A 0 (fd 27) < A' 0 (fd 27)) → (r = (fM_readsCompared A).1) → (A' = (fM_readsCompared A).2) → K (some (ni r)) A')
theorem okM_readsCompared : okM LM 6 179 sM_readsCompared := by
  refine qmeth [] false [(175, sM_readsSum), (162, sM_here), (164, sM_wrongAt), (167, sM_notes), (176, sM_endsPiece)] 59 rfl ⟨okM_readsSum.le (by decide), ⟨okM_here.le (by decide), ⟨okM_wrongAt.le (by decide), ⟨okM_notes.le (by decide), ⟨okM_endsPiece.le (by decide), trivial⟩⟩⟩⟩⟩ ?_
  rintro _ A K hA has ⟨u0, f, x, rfl, ⟨i0, j0, p1, p2, p3⟩, hK⟩
  have f0 := frm_0 [23, 24] [(0, 27), (0, 29), (0, 30), (0, 31), (0, 32), (0, 34)] A
  have hb_0_27 := ivf_at j0 6 rfl
  have hb_0_28 := ivf_at j0 7 rfl
  have hb_0_31 := ivf_at j0 8 rfl
  have hb_0_32 := ivf_at j0 9 rfl
  have hT : _ = fM_readsCompared A := (fM_readsCompared.eq_1 A).symm
  refine ⟨Nat.le_of_ble_eq_true rfl, [], trivial, ?_⟩
  have z4 := PS_bd p1
  refine Exists.intro u0 (Exists.intro f (Exists.intro 0 (Exists.intro x (And.intro rfl (And.intro (And.intro i0 (And.intro j0 (And.intro (PS_kA p1 rfl rfl (by (first | (clear hm hnf; omega) | omega))) (And.intro (by first | assumption | omega | simp_all) (by first | assumption | omega | simp_all))))) (fun A5 i6 j7 f8 r9 g15 g16 g10 g11 g12 g13 g14 => ?_))))))
  replace hT := qlpc g13 g14 hT
  clear g13 g14
  have f17 := frm_c f0 f8 rfl
  have t18 := ivf_at j7 6 rfl
  have t19 : A5 0 (fd 28) = A 0 (fd 28) := (frm_f f8 rfl)
  have t20 := ivf_at j7 8 rfl
  have t21 := ivf_at j7 9 rfl
  refine And.intro (fun h22 => ?_) (fun h22 => ?_)
  · replace hT := (if_neg h22).symm.trans hT
    refine And.intro rfl (And.intro (And.intro i6 j7) (fun r23 g27 g28 g24 g25 g26 => ?_))
    replace hT := qlc g26 hT
    clear g26
    refine And.intro (fun h29 => ?_) (fun h29 => ?_)
    · replace hT := (if_neg h29).symm.trans hT
      refine And.intro rfl (And.intro (And.intro i6 j7) (fun r30 g34 g35 g31 g32 g33 => ?_))
      replace hT := qlc g33 hT
      clear g33
      refine And.intro (fun h36 => ?_) (fun h36 => ?_)
      · replace hT := (if_neg h36).symm.trans hT
        refine And.intro rfl (And.intro (And.intro i6 j7) (fun r37 g41 g42 g38 g39 g40 => ?_))
        replace hT := qlc g40 hT
        clear g40
        refine And.intro (fun h43 => ?_) (fun h43 => ?_)
        · replace hT := (if_neg h43).symm.trans hT
          refine And.intro (fun h44 => by exfalso; omega) (fun h44 => ?_)
          refine fun v45 gv45 e46 => ?_
          replace hT := qlc e46 hT
          have b47 := ivf_at j7 6 rfl
          refine Exists.intro 1 (Exists.intro v45 (And.intro rfl (And.intro (And.intro i6 (And.intro j7 (dqA3 (by (first | (clear hm hnf; omega) | omega)) (by (first | (clear hm hnf; omega) | omega))))) (fun A48 i49 j50 f51 g52 => (fun h53 => ?_)))))
          · replace hT := qlc g52 hT
            have f54 := frm_c f17 f51 rfl
            have t55 : A48 0 (fd 27) = A5 0 (fd 27) := (frm_f f51 rfl)
            have t56 : A48 0 (fd 28) = A5 0 (fd 28) := (frm_f f51 rfl)
            have t57 : A48 0 (fd 31) = A5 0 (fd 31) := (frm_f f51 rfl)
            have t58 : A48 0 (fd 32) = A5 0 (fd 32) := (frm_f f51 rfl)
            exact And.intro (by (first | (clear hm hnf; omega) | omega)) (hK _ i49 j50 f54 _ (by (first | (clear hm hnf; omega) | omega)) (by (first | (clear hm hnf; omega) | omega)) (Or.inl rfl) (by first | assumption | omega | simp_all) (by first | assumption | omega | simp_all) (congrArg Prod.fst hT) (congrArg Prod.snd hT))
        · replace hT := (if_pos h43).symm.trans hT
          refine And.intro (fun h59 => ?_) (fun h59 => by exfalso; omega)
          refine fun v60 gv60 e61 => ?_
          replace hT := qlc e61 hT
          have b62 := ivf_at j7 6 rfl
          refine fun v63 e64 => ?_
          replace hT := qlc e64 hT
          refine And.intro (by (first | (clear hm hnf; omega) | omega)) (fun A65 e66 => ?_)
          replace hT := qlc e66 hT
          have i67 := iva_sf i6 e66 rfl
          have j68 := ivf_st j7 e66 (And.intro (by (first | (clear hm hnf; omega) | omega)) trivial)
          have f69 := frm_sf f17 e66 rfl
          have t70 := st_v e66
          have t71 : A65 0 (fd 28) = A5 0 (fd 28) := (st_f e66 rfl)
          have t72 : A65 0 (fd 31) = A5 0 (fd 31) := (st_f e66 rfl)
          have t73 : A65 0 (fd 32) = A5 0 (fd 32) := (st_f e66 rfl)
          have z74 := PS_bd (Or.resolve_left g10 (by (first | (clear hm hnf; omega) | omega)))
          refine Exists.intro u0 (Exists.intro f (Exists.intro (0 + 1) (Exists.intro (x + 1) (And.intro rfl (And.intro (And.intro i67 (And.intro j68 (And.intro (PS_kA (Or.resolve_left g10 (by (first | (clear hm hnf; omega) | omega))) (st_a e66 rfl) (st_a e66 rfl) (by (first | (clear hm hnf; omega) | omega))) (And.intro (by first | assumption | omega | simp_all) (by first | assumption | omega | simp_all))))) (fun A75 i76 j77 f78 r79 g85 g86 g80 g81 g82 g83 g84 => ?_))))))
          replace hT := qlpc g83 g84 hT
          clear g83 g84
          have f87 := frm_c f69 f78 rfl
          have t88 := ivf_at j77 6 rfl
          have t89 : A75 0 (fd 28) = A65 0 (fd 28) := (frm_f f78 rfl)
          have t90 := ivf_at j77 8 rfl
          have t91 := ivf_at j77 9 rfl
          refine And.intro (fun h92 => ?_) (fun h92 => ?_)
          · replace hT := (if_neg h92).symm.trans hT
            have z93 := PS_bd (Or.resolve_left g80 (by (first | (clear hm hnf; omega) | omega)))
            refine Exists.intro 9 (Exists.intro 0 (And.intro rfl (And.intro (And.intro i76 (And.intro j77 (dqA4 (by (first | (clear hm hnf; omega) | omega)) (by first | assumption | omega | simp_all)))) (fun A94 i95 j96 f97 g98 g99 g100 => ?_))))
            replace hT := qlc g100 hT
            have f101 := frm_c f87 f97 rfl
            have t102 : A94 0 (fd 27) = A75 0 (fd 27) := (frm_f f97 rfl)
            have t103 : A94 0 (fd 28) = A75 0 (fd 28) := (frm_f f97 rfl)
            have t104 := ivf_at j96 8 rfl
            have t105 : A94 0 (fd 32) = A75 0 (fd 32) := (frm_f f97 rfl)
            have ps106 := (PS_nA (Or.resolve_left g80 (by (first | (clear hm hnf; omega) | omega))) g98 (frm_a f97 rfl) (by (first | (clear hm hnf; omega) | omega)) (by (first | (clear hm hnf; omega) | omega)) : PS A94 u0 f (A94 0 (fd 32)) 1 x)
            have z107 := PS_bd ps106
            have z108 := top_k (A := A75) (A' := A94) (frm_a f97 rfl) (by (first | (clear hm hnf; omega) | omega))
            have z109 := PS_bd ps106
            refine Exists.intro u0 (Exists.intro f (Exists.intro x (And.intro rfl (And.intro (And.intro i95 (And.intro j96 (And.intro (PS_kA ps106 rfl rfl (by (first | (clear hm hnf; omega) | omega))) (by first | assumption | omega | simp_all)))) (fun A110 i111 j112 f113 g114 g115 g116 => ?_)))))
            replace hT := qlc g116 hT
            have f117 := frm_c f101 f113 rfl
            have t118 : A110 0 (fd 27) = A94 0 (fd 27) := (frm_f f113 rfl)
            have t119 : A110 0 (fd 28) = A94 0 (fd 28) := (frm_f f113 rfl)
            have t120 := ivf_at j112 8 rfl
            have t121 := ivf_at j112 9 rfl
            exact And.intro (by (first | (clear hm hnf; omega) | omega)) (hK _ i111 j112 f117 _ (by (first | (clear hm hnf; omega) | omega)) (by (first | (clear hm hnf; omega) | omega)) (Or.inr (PS_kA g114 rfl rfl (by (first | (clear hm hnf; omega) | omega)))) (by first | assumption | omega | simp_all) (by first | assumption | omega | simp_all) (congrArg Prod.fst hT) (congrArg Prod.snd hT))
          · replace hT := (if_pos h92).symm.trans hT
            exact And.intro (by (first | (clear hm hnf; omega) | omega)) (hK _ i76 j77 f87 _ (by (first | (clear hm hnf; omega) | omega)) (by (first | (clear hm hnf; omega) | omega)) (Or.inl rfl) (by first | assumption | omega | simp_all) (by first | assumption | omega | simp_all) (congrArg Prod.fst hT) (congrArg Prod.snd hT))
      · replace hT := (if_pos h36).symm.trans hT
        refine And.intro (fun h122 => ?_) (fun h122 => by exfalso; omega)
        refine fun v123 gv123 e124 => ?_
        replace hT := qlc e124 hT
        have b125 := ivf_at j7 6 rfl
        refine fun v126 e127 => ?_
        replace hT := qlc e127 hT
        refine And.intro (by (first | (clear hm hnf; omega) | omega)) (fun A128 e129 => ?_)
        replace hT := qlc e129 hT
        have i130 := iva_sf i6 e129 rfl
        have j131 := ivf_st j7 e129 (And.intro (by (first | (clear hm hnf; omega) | omega)) trivial)
        have f132 := frm_sf f17 e129 rfl
        have t133 := st_v e129
        have t134 : A128 0 (fd 28) = A5 0 (fd 28) := (st_f e129 rfl)
        have t135 : A128 0 (fd 31) = A5 0 (fd 31) := (st_f e129 rfl)
        have t136 : A128 0 (fd 32) = A5 0 (fd 32) := (st_f e129 rfl)
        have z137 := PS_bd (Or.resolve_left g10 (by (first | (clear hm hnf; omega) | omega)))
        refine Exists.intro u0 (Exists.intro f (Exists.intro (0 + 1) (Exists.intro (x + 1) (And.intro rfl (And.intro (And.intro i130 (And.intro j131 (And.intro (PS_kA (Or.resolve_left g10 (by (first | (clear hm hnf; omega) | omega))) (st_a e129 rfl) (st_a e129 rfl) (by (first | (clear hm hnf; omega) | omega))) (And.intro (by first | assumption | omega | simp_all) (by first | assumption | omega | simp_all))))) (fun A138 i139 j140 f141 r142 g148 g149 g143 g144 g145 g146 g147 => ?_))))))
        replace hT := qlpc g146 g147 hT
        clear g146 g147
        have f150 := frm_c f132 f141 rfl
        have t151 := ivf_at j140 6 rfl
        have t152 : A138 0 (fd 28) = A128 0 (fd 28) := (frm_f f141 rfl)
        have t153 := ivf_at j140 8 rfl
        have t154 := ivf_at j140 9 rfl
        refine And.intro (fun h155 => ?_) (fun h155 => ?_)
        · replace hT := (if_neg h155).symm.trans hT
          have z156 := PS_bd (Or.resolve_left g143 (by (first | (clear hm hnf; omega) | omega)))
          refine Exists.intro 8 (Exists.intro 0 (And.intro rfl (And.intro (And.intro i139 (And.intro j140 (dqA4 (by (first | (clear hm hnf; omega) | omega)) (by first | assumption | omega | simp_all)))) (fun A157 i158 j159 f160 g161 g162 g163 => ?_))))
          replace hT := qlc g163 hT
          have f164 := frm_c f150 f160 rfl
          have t165 : A157 0 (fd 27) = A138 0 (fd 27) := (frm_f f160 rfl)
          have t166 : A157 0 (fd 28) = A138 0 (fd 28) := (frm_f f160 rfl)
          have t167 := ivf_at j159 8 rfl
          have t168 : A157 0 (fd 32) = A138 0 (fd 32) := (frm_f f160 rfl)
          have ps169 := (PS_nA (Or.resolve_left g143 (by (first | (clear hm hnf; omega) | omega))) g161 (frm_a f160 rfl) (by (first | (clear hm hnf; omega) | omega)) (by (first | (clear hm hnf; omega) | omega)) : PS A157 u0 f (A157 0 (fd 32)) 1 x)
          have z170 := PS_bd ps169
          have z171 := top_k (A := A138) (A' := A157) (frm_a f160 rfl) (by (first | (clear hm hnf; omega) | omega))
          have z172 := PS_bd ps169
          refine Exists.intro u0 (Exists.intro f (Exists.intro x (And.intro rfl (And.intro (And.intro i158 (And.intro j159 (And.intro (PS_kA ps169 rfl rfl (by (first | (clear hm hnf; omega) | omega))) (by first | assumption | omega | simp_all)))) (fun A173 i174 j175 f176 g177 g178 g179 => ?_)))))
          replace hT := qlc g179 hT
          have f180 := frm_c f164 f176 rfl
          have t181 : A173 0 (fd 27) = A157 0 (fd 27) := (frm_f f176 rfl)
          have t182 : A173 0 (fd 28) = A157 0 (fd 28) := (frm_f f176 rfl)
          have t183 := ivf_at j175 8 rfl
          have t184 := ivf_at j175 9 rfl
          exact And.intro (by (first | (clear hm hnf; omega) | omega)) (hK _ i174 j175 f180 _ (by (first | (clear hm hnf; omega) | omega)) (by (first | (clear hm hnf; omega) | omega)) (Or.inr (PS_kA g177 rfl rfl (by (first | (clear hm hnf; omega) | omega)))) (by first | assumption | omega | simp_all) (by first | assumption | omega | simp_all) (congrArg Prod.fst hT) (congrArg Prod.snd hT))
        · replace hT := (if_pos h155).symm.trans hT
          exact And.intro (by (first | (clear hm hnf; omega) | omega)) (hK _ i139 j140 f150 _ (by (first | (clear hm hnf; omega) | omega)) (by (first | (clear hm hnf; omega) | omega)) (Or.inl rfl) (by first | assumption | omega | simp_all) (by first | assumption | omega | simp_all) (congrArg Prod.fst hT) (congrArg Prod.snd hT))
    · replace hT := (if_pos h29).symm.trans hT
      refine And.intro (fun h185 => ?_) (fun h185 => by exfalso; omega)
      refine fun v186 gv186 e187 => ?_
      replace hT := qlc e187 hT
      have b188 := ivf_at j7 6 rfl
      refine fun v189 e190 => ?_
      replace hT := qlc e190 hT
      refine And.intro (by (first | (clear hm hnf; omega) | omega)) (fun A191 e192 => ?_)
      replace hT := qlc e192 hT
      have i193 := iva_sf i6 e192 rfl
      have j194 := ivf_st j7 e192 (And.intro (by (first | (clear hm hnf; omega) | omega)) trivial)
      have f195 := frm_sf f17 e192 rfl
      have t196 := st_v e192
      have t197 : A191 0 (fd 28) = A5 0 (fd 28) := (st_f e192 rfl)
      have t198 : A191 0 (fd 31) = A5 0 (fd 31) := (st_f e192 rfl)
      have t199 : A191 0 (fd 32) = A5 0 (fd 32) := (st_f e192 rfl)
      have z200 := PS_bd (Or.resolve_left g10 (by (first | (clear hm hnf; omega) | omega)))
      refine Exists.intro u0 (Exists.intro f (Exists.intro (0 + 1) (Exists.intro (x + 1) (And.intro rfl (And.intro (And.intro i193 (And.intro j194 (And.intro (PS_kA (Or.resolve_left g10 (by (first | (clear hm hnf; omega) | omega))) (st_a e192 rfl) (st_a e192 rfl) (by (first | (clear hm hnf; omega) | omega))) (And.intro (by first | assumption | omega | simp_all) (by first | assumption | omega | simp_all))))) (fun A201 i202 j203 f204 r205 g211 g212 g206 g207 g208 g209 g210 => ?_))))))
      replace hT := qlpc g209 g210 hT
      clear g209 g210
      have f213 := frm_c f195 f204 rfl
      have t214 := ivf_at j203 6 rfl
      have t215 : A201 0 (fd 28) = A191 0 (fd 28) := (frm_f f204 rfl)
      have t216 := ivf_at j203 8 rfl
      have t217 := ivf_at j203 9 rfl
      refine And.intro (fun h218 => ?_) (fun h218 => ?_)
      · replace hT := (if_neg h218).symm.trans hT
        have z219 := PS_bd (Or.resolve_left g206 (by (first | (clear hm hnf; omega) | omega)))
        refine Exists.intro 7 (Exists.intro 0 (And.intro rfl (And.intro (And.intro i202 (And.intro j203 (dqA4 (by (first | (clear hm hnf; omega) | omega)) (by first | assumption | omega | simp_all)))) (fun A220 i221 j222 f223 g224 g225 g226 => ?_))))
        replace hT := qlc g226 hT
        have f227 := frm_c f213 f223 rfl
        have t228 : A220 0 (fd 27) = A201 0 (fd 27) := (frm_f f223 rfl)
        have t229 : A220 0 (fd 28) = A201 0 (fd 28) := (frm_f f223 rfl)
        have t230 := ivf_at j222 8 rfl
        have t231 : A220 0 (fd 32) = A201 0 (fd 32) := (frm_f f223 rfl)
        have ps232 := (PS_nA (Or.resolve_left g206 (by (first | (clear hm hnf; omega) | omega))) g224 (frm_a f223 rfl) (by (first | (clear hm hnf; omega) | omega)) (by (first | (clear hm hnf; omega) | omega)) : PS A220 u0 f (A220 0 (fd 32)) 1 x)
        have z233 := PS_bd ps232
        have z234 := top_k (A := A201) (A' := A220) (frm_a f223 rfl) (by (first | (clear hm hnf; omega) | omega))
        have z235 := PS_bd ps232
        refine Exists.intro u0 (Exists.intro f (Exists.intro x (And.intro rfl (And.intro (And.intro i221 (And.intro j222 (And.intro (PS_kA ps232 rfl rfl (by (first | (clear hm hnf; omega) | omega))) (by first | assumption | omega | simp_all)))) (fun A236 i237 j238 f239 g240 g241 g242 => ?_)))))
        replace hT := qlc g242 hT
        have f243 := frm_c f227 f239 rfl
        have t244 : A236 0 (fd 27) = A220 0 (fd 27) := (frm_f f239 rfl)
        have t245 : A236 0 (fd 28) = A220 0 (fd 28) := (frm_f f239 rfl)
        have t246 := ivf_at j238 8 rfl
        have t247 := ivf_at j238 9 rfl
        exact And.intro (by (first | (clear hm hnf; omega) | omega)) (hK _ i237 j238 f243 _ (by (first | (clear hm hnf; omega) | omega)) (by (first | (clear hm hnf; omega) | omega)) (Or.inr (PS_kA g240 rfl rfl (by (first | (clear hm hnf; omega) | omega)))) (by first | assumption | omega | simp_all) (by first | assumption | omega | simp_all) (congrArg Prod.fst hT) (congrArg Prod.snd hT))
      · replace hT := (if_pos h218).symm.trans hT
        exact And.intro (by (first | (clear hm hnf; omega) | omega)) (hK _ i202 j203 f213 _ (by (first | (clear hm hnf; omega) | omega)) (by (first | (clear hm hnf; omega) | omega)) (Or.inl rfl) (by first | assumption | omega | simp_all) (by first | assumption | omega | simp_all) (congrArg Prod.fst hT) (congrArg Prod.snd hT))
  · replace hT := (if_pos h22).symm.trans hT
    exact And.intro (by (first | (clear hm hnf; omega) | omega)) (hK _ i6 j7 f17 _ (by (first | (clear hm hnf; omega) | omega)) (by (first | (clear hm hnf; omega) | omega)) (Or.inl rfl) (by first | assumption | omega | simp_all) (by first | assumption | omega | simp_all) (congrArg Prod.fst hT) (congrArg Prod.snd hT))
def fM_readsCondition_c22 (rec : Nat → List Int → qA → Int × qA) (B : qA) : Int × qA := qlet (fM_here B) fun r61 => (if r61 = 33 then qlet (fM_here B) fun r68 => (if r68 = 33 then qlp (fM_opens 10 B) fun r99 A95 => (if r99 = 0 then (0, A95) else rec 22 [] A95) else qlp (fM_opens 13 B) fun r80 A76 => (if r80 = 0 then (0, A76) else rec 22 [] A76)) else qlet (fM_here B) fun r113 => (if r113 = 40 then qlet (fM_here B) fun r139 => (if r139 = 33 then qlp (fM_opens 10 B) fun r170 A166 => (if r170 = 0 then (0, A166) else rec 22 [] A166) else qlp (fM_opens 13 B) fun r151 A147 => (if r151 = 0 then (0, A147) else rec 22 [] A147)) else qlp (fM_readsCompared B) fun r125 A121 => (if r125 = 0 then (0, A121) else rec 47 [] A121)))
def fM_readsCondition_c47 (rec : Nat → List Int → qA → Int × qA) (B : qA) : Int × qA := qlet (fM_here B) fun r184 => (if r184 = 41 then qlet (fM_lands 1 B) fun A430 => qlet (A430 0 (fd 32)) fun v443 => qlet (v443 - 1) fun v446 => qlet (qu A430 0 (fd 32) (wI v446)) fun A448 => qlet (A448 0 (fd 30)) fun v459 => qlet (v459 - 1) fun v461 => qlet (qu A448 0 (fd 30) (wI v461)) fun A463 => qlet (A463 0 (fd 27)) fun v473 => qlet (v473 + 1) fun v476 => qlet (qu A463 0 (fd 27) (wI v476)) fun A478 => qlet (A478 0 (fd 32)) fun v491 => (if (wI v446) = 0 then (1, A478) else qlet (fM_endsPiece A478) fun A497 => rec 47 [] A497) else qlet (fM_here B) fun r191 => (if r191 = 38 then qlet (fM_here B) fun r198 => (if r198 = 124 then qlet (fM_lands 1 B) fun A255 => qlet (fM_here A255) fun r268 => (if r268 = 38 then qlet (fM_jumps 11 A255) fun A290 => rec 22 [] A290 else qlet (fM_jumps 12 A255) fun A276 => rec 22 [] A276) else qlet (fM_lands 0 B) fun A206 => qlet (fM_here A206) fun r219 => (if r219 = 38 then qlet (fM_jumps 11 A206) fun A241 => rec 22 [] A241 else qlet (fM_jumps 12 A206) fun A227 => rec 22 [] A227)) else qlet (fM_here B) fun r303 => (if r303 = 124 then qlet (fM_here B) fun r310 => (if r310 = 124 then qlet (fM_lands 1 B) fun A367 => qlet (fM_here A367) fun r380 => (if r380 = 38 then qlet (fM_jumps 11 A367) fun A402 => rec 22 [] A402 else qlet (fM_jumps 12 A367) fun A388 => rec 22 [] A388) else qlet (fM_lands 0 B) fun A318 => qlet (fM_here A318) fun r331 => (if r331 = 38 then qlet (fM_jumps 11 A318) fun A353 => rec 22 [] A353 else qlet (fM_jumps 12 A318) fun A339 => rec 22 [] A339)) else qlet (B 0 (fd 27)) fun v415 => qlet (fM_wrongAt 1 v415 B) fun A418 => (0, A418))))
def fM_readsCondition_L : Nat → Nat → List Int → qA → Int × qA
  | 0 => fun _ _ B => (0, B)
  | nF + 1 => fun k zs B => bif Nat.beq k 22 then (match zs with | [] => fM_readsCondition_c22 (fM_readsCondition_L nF)  B | _ => (0, B)) else bif Nat.beq k 47 then (match zs with | [] => fM_readsCondition_c47 (fM_readsCondition_L nF)  B | _ => (0, B)) else (0, B)
theorem fM_readsCondition_L22 (nF : Nat) (B : qA) : fM_readsCondition_L (nF + 1) 22 [] B = fM_readsCondition_c22 (fM_readsCondition_L nF)  B := (congrFun (congrFun (congrFun (fM_readsCondition_L.eq_2 nF) 22) []) B).trans (qL1 rfl rfl)
theorem fM_readsCondition_L47 (nF : Nat) (B : qA) : fM_readsCondition_L (nF + 1) 47 [] B = fM_readsCondition_c47 (fM_readsCondition_L nF)  B := (congrFun (congrFun (congrFun (fM_readsCondition_L.eq_2 nF) 47) []) B).trans (qL0 rfl (qL1 rfl rfl))
def fM_readsCondition (A : qA) : Int × qA := qlet (fM_here A) fun r2 => (if r2 = 40 then qlet (qu A 0 (fd 30) 0) fun A9 => qlet (qu A9 0 (fd 32) 0) fun A18 => qlp (fM_opens 13 A18) fun r33 A29 => (if r33 = 0 then (0, A29) else (fM_readsCondition_L 100000) 22 [] A29) else qlet (A 0 (fd 27)) fun v47 => qlet (fM_wrongAt 1 v47 A) fun A50 => (0, A50))
def sM_readsCondition : qS := fun as A K => as = [rf 0] ∧ (iva IM A ∧ ivf JM A ∧ (A 0 (fd 31) ≤ A 0 (fd 27))) ∧ (∀ A' : qA, iva IM A' → ivf JM A' → frm [23, 24] [(0, 27), (0, 29), (0, 30), (0, 31), (0, 32), (0, 34)] A A' → ∀ r : Int, 0 ≤ r → r ≤ 1 → (r = 0 ∨ PS A' (A 23) (A 0 (fd 31)) (A' 0 (fd 32)) 1 0) → (r = 0 ∨ A' 0 (fd 32) = 0) → (r = 0 ∨ A 0 (fd 27) < A' 0 (fd 27)) → (r = (fM_readsCondition A).1) → (A' = (fM_readsCondition A).2) → K (some (ni r)) A')
theorem okM_readsCondition : okM LM 7 180 sM_readsCondition := by
  refine qmeth [] true [(162, sM_here), (168, sM_opens), (164, sM_wrongAt), (179, sM_readsCompared), (177, sM_lands), (178, sM_jumps), (176, sM_endsPiece)] 119 rfl ⟨okM_here.le (by decide), ⟨okM_opens.le (by decide), ⟨okM_wrongAt.le (by decide), ⟨okM_readsCompared.le (by decide), ⟨okM_lands.le (by decide), ⟨okM_jumps.le (by decide), ⟨okM_endsPiece.le (by decide), trivial⟩⟩⟩⟩⟩⟩⟩ ?_
  rintro _ A K hA has ⟨rfl, ⟨i0, j0, p1⟩, hK⟩
  have f0 := frm_0 [23, 24] [(0, 27), (0, 29), (0, 30), (0, 31), (0, 32), (0, 34)] A
  have hb_0_27 := ivf_at j0 6 rfl
  have hb_0_28 := ivf_at j0 7 rfl
  have hb_0_31 := ivf_at j0 8 rfl
  have hb_0_32 := ivf_at j0 9 rfl
  have hT : _ = fM_readsCondition A := (fM_readsCondition.eq_1 A).symm
  refine ⟨Nat.le_of_ble_eq_true rfl, [(22, [(0, 2, 0)], fun zs B nn => match zs with | [] => iva IM B ∧ ivf JM B ∧ frm [23, 24] [(0, 27), (0, 29), (0, 30), (0, 31), (0, 32), (0, 34)] A B ∧ nn = (200 - B 0 (fd 27) : Int).toNat ∧ (PS B (A 23) (A 0 (fd 31)) (B 0 (fd 32)) 0 0) ∧ (1 ≤ B 0 (fd 32)) ∧ (A 0 (fd 27) < B 0 (fd 27)) ∧ (∃ nf : Nat, nn < nf ∧ fM_readsCondition_L nf 22 [] B = fM_readsCondition A) | _ => False), (47, [(0, 2, 0)], fun zs B nn => match zs with | [] => iva IM B ∧ ivf JM B ∧ frm [23, 24] [(0, 27), (0, 29), (0, 30), (0, 31), (0, 32), (0, 34)] A B ∧ nn = (200 - B 0 (fd 27) : Int).toNat ∧ (PS B (A 23) (A 0 (fd 31)) (B 0 (fd 32)) 1 0) ∧ (1 ≤ B 0 (fd 32)) ∧ (A 0 (fd 27) < B 0 (fd 27)) ∧ (∃ nf : Nat, nn < nf ∧ fM_readsCondition_L nf 47 [] B = fM_readsCondition A) | _ => False)], ?_, ?_⟩
  · refine ⟨⟨rfl, ?_⟩, ⟨rfl, ?_⟩, trivial⟩
    · refine fun  B mm hB hz hI => ?_
      obtain ⟨i1, j1, f1, hm, c0, c1, c2, ⟨nf, hnf, hT⟩⟩ := hI
      obtain ⟨ng, rfl⟩ : ∃ k, nf = k + 1 := ⟨nf - 1, by omega⟩
      replace hT := (fM_readsCondition_c22.eq_1 (fM_readsCondition_L ng) B).symm.trans ((fM_readsCondition_L22 ng B).symm.trans hT)
      have hc_0_27 := ivf_at j1 6 rfl
      have hc_0_28 := ivf_at j1 7 rfl
      have hc_0_31 := ivf_at j1 8 rfl
      have hc_0_32 := ivf_at j1 9 rfl
      refine And.intro rfl (And.intro (And.intro i1 j1) (fun r61 g65 g66 g62 g63 g64 => ?_))
      replace hT := qlc g64 hT
      clear g64
      refine And.intro (fun h67 => ?_) (fun h67 => ?_)
      · replace hT := (if_pos h67).symm.trans hT
        refine And.intro rfl (And.intro (And.intro i1 j1) (fun r68 g72 g73 g69 g70 g71 => ?_))
        replace hT := qlc g71 hT
        clear g71
        refine And.intro (fun h74 => ?_) (fun h74 => ?_)
        · replace hT := (if_neg h74).symm.trans hT
          have z75 := PS_bd c0
          refine Exists.intro 13 (And.intro rfl (And.intro (And.intro i1 (And.intro j1 (dqA2 (by (first | (clear hm hnf; omega) | omega)) (And.intro (by first | assumption | omega | simp_all) (by first | assumption | omega | simp_all))))) (fun A76 i77 j78 f79 r80 g86 g87 g81 g82 g83 g84 g85 => ?_)))
          replace hT := qlpc g84 g85 hT
          clear g84 g85
          have f88 := frm_c f1 f79 rfl
          have t89 := ivf_at j78 6 rfl
          have t90 : A76 0 (fd 28) = B 0 (fd 28) := (frm_f f79 rfl)
          have t91 : A76 0 (fd 31) = B 0 (fd 31) := (frm_f f79 rfl)
          have t92 := ivf_at j78 9 rfl
          refine And.intro (fun h93 => ?_) (fun h93 => ?_)
          · replace hT := (if_neg h93).symm.trans hT
            exact Exists.intro (200 - A76 0 (fd 27) : Int).toNat (And.intro (by first | exact qtn hm (by (try clear hm hnf); omega) | omega) (And.intro i77 (And.intro j78 (And.intro f88 (And.intro rfl (And.intro (PS_k (PS_q c0 (frm_a f79 rfl) (Or.resolve_left g81 (by (first | (clear hm hnf; omega) | omega))) (by (first | (clear hm hnf; omega) | omega)) (by (first | (clear hm hnf; omega) | omega)) (by (first | (clear hm hnf; omega) | omega)) (by (first | (clear hm hnf; omega) | omega)) (by (first | (clear hm hnf; omega) | omega)) (by (first | (clear hm hnf; omega) | omega)) : PS A76 (A 23) (A 0 (fd 31)) (A76 0 (fd 32)) 0 0) rfl rfl (by (first | (clear hm hnf; omega) | omega)) (by (first | (clear hm hnf; omega) | omega)) (by (first | (clear hm hnf; omega) | omega)) (by (first | (clear hm hnf; omega) | omega)) (by (first | (clear hm hnf; omega) | omega)) (by (first | (clear hm hnf; omega) | omega))) (dqA2 (by (first | (clear hm hnf; omega) | omega)) (Exists.intro ng (And.intro (by first | exact qtm hm hnf (by (try clear hm hnf); omega) | omega) hT)))))))))
          · replace hT := (if_pos h93).symm.trans hT
            exact And.intro (by (first | (clear hm hnf; omega) | omega)) (hK _ i77 j78 f88 _ (by (first | (clear hm hnf; omega) | omega)) (by (first | (clear hm hnf; omega) | omega)) (Or.inl rfl) (by first | assumption | omega | simp_all) (by first | assumption | omega | simp_all) (congrArg Prod.fst hT) (congrArg Prod.snd hT))
        · replace hT := (if_pos h74).symm.trans hT
          have z94 := PS_bd c0
          refine Exists.intro 10 (And.intro rfl (And.intro (And.intro i1 (And.intro j1 (dqA2 (by (first | (clear hm hnf; omega) | omega)) (And.intro (by first | assumption | omega | simp_all) (by first | assumption | omega | simp_all))))) (fun A95 i96 j97 f98 r99 g105 g106 g100 g101 g102 g103 g104 => ?_)))
          replace hT := qlpc g103 g104 hT
          clear g103 g104
          have f107 := frm_c f1 f98 rfl
          have t108 := ivf_at j97 6 rfl
          have t109 : A95 0 (fd 28) = B 0 (fd 28) := (frm_f f98 rfl)
          have t110 : A95 0 (fd 31) = B 0 (fd 31) := (frm_f f98 rfl)
          have t111 := ivf_at j97 9 rfl
          refine And.intro (fun h112 => ?_) (fun h112 => ?_)
          · replace hT := (if_neg h112).symm.trans hT
            exact Exists.intro (200 - A95 0 (fd 27) : Int).toNat (And.intro (by first | exact qtn hm (by (try clear hm hnf); omega) | omega) (And.intro i96 (And.intro j97 (And.intro f107 (And.intro rfl (And.intro (PS_k (PS_q c0 (frm_a f98 rfl) (Or.resolve_left g100 (by (first | (clear hm hnf; omega) | omega))) (by (first | (clear hm hnf; omega) | omega)) (by (first | (clear hm hnf; omega) | omega)) (by (first | (clear hm hnf; omega) | omega)) (by (first | (clear hm hnf; omega) | omega)) (by (first | (clear hm hnf; omega) | omega)) (by (first | (clear hm hnf; omega) | omega)) : PS A95 (A 23) (A 0 (fd 31)) (A95 0 (fd 32)) 0 0) rfl rfl (by (first | (clear hm hnf; omega) | omega)) (by (first | (clear hm hnf; omega) | omega)) (by (first | (clear hm hnf; omega) | omega)) (by (first | (clear hm hnf; omega) | omega)) (by (first | (clear hm hnf; omega) | omega)) (by (first | (clear hm hnf; omega) | omega))) (dqA2 (by (first | (clear hm hnf; omega) | omega)) (Exists.intro ng (And.intro (by first | exact qtm hm hnf (by (try clear hm hnf); omega) | omega) hT)))))))))
          · replace hT := (if_pos h112).symm.trans hT
            exact And.intro (by (first | (clear hm hnf; omega) | omega)) (hK _ i96 j97 f107 _ (by (first | (clear hm hnf; omega) | omega)) (by (first | (clear hm hnf; omega) | omega)) (Or.inl rfl) (by first | assumption | omega | simp_all) (by first | assumption | omega | simp_all) (congrArg Prod.fst hT) (congrArg Prod.snd hT))
      · replace hT := (if_neg h67).symm.trans hT
        refine And.intro rfl (And.intro (And.intro i1 j1) (fun r113 g117 g118 g114 g115 g116 => ?_))
        replace hT := qlc g116 hT
        clear g116
        refine And.intro (fun h119 => ?_) (fun h119 => ?_)
        · replace hT := (if_neg h119).symm.trans hT
          have z120 := PS_bd c0
          refine Exists.intro (A 23) (Exists.intro (A 0 (fd 31)) (Exists.intro 0 (And.intro rfl (And.intro (And.intro i1 (And.intro j1 (And.intro (PS_kA c0 rfl rfl (by (first | (clear hm hnf; omega) | omega))) (And.intro (by first | assumption | omega | simp_all) (by first | assumption | omega | simp_all))))) (fun A121 i122 j123 f124 r125 g131 g132 g126 g127 g128 g129 g130 => ?_)))))
          replace hT := qlpc g129 g130 hT
          clear g129 g130
          have f133 := frm_c f1 f124 rfl
          have t134 := ivf_at j123 6 rfl
          have t135 : A121 0 (fd 28) = B 0 (fd 28) := (frm_f f124 rfl)
          have t136 := ivf_at j123 8 rfl
          have t137 := ivf_at j123 9 rfl
          refine And.intro (fun h138 => ?_) (fun h138 => ?_)
          · replace hT := (if_neg h138).symm.trans hT
            exact Exists.intro (200 - A121 0 (fd 27) : Int).toNat (And.intro (by first | exact qtn hm (by (try clear hm hnf); omega) | omega) (And.intro i122 (And.intro j123 (And.intro f133 (And.intro rfl (And.intro (PS_kA (Or.resolve_left g126 (by (first | (clear hm hnf; omega) | omega))) rfl rfl (by (first | (clear hm hnf; omega) | omega))) (dqA2 (by (first | (clear hm hnf; omega) | omega)) (Exists.intro ng (And.intro (by first | exact qtm hm hnf (by (try clear hm hnf); omega) | omega) hT)))))))))
          · replace hT := (if_pos h138).symm.trans hT
            exact And.intro (by (first | (clear hm hnf; omega) | omega)) (hK _ i122 j123 f133 _ (by (first | (clear hm hnf; omega) | omega)) (by (first | (clear hm hnf; omega) | omega)) (Or.inl rfl) (by first | assumption | omega | simp_all) (by first | assumption | omega | simp_all) (congrArg Prod.fst hT) (congrArg Prod.snd hT))
        · replace hT := (if_pos h119).symm.trans hT
          refine And.intro rfl (And.intro (And.intro i1 j1) (fun r139 g143 g144 g140 g141 g142 => ?_))
          replace hT := qlc g142 hT
          clear g142
          refine And.intro (fun h145 => ?_) (fun h145 => ?_)
          · replace hT := (if_neg h145).symm.trans hT
            have z146 := PS_bd c0
            refine Exists.intro 13 (And.intro rfl (And.intro (And.intro i1 (And.intro j1 (dqA2 (by (first | (clear hm hnf; omega) | omega)) (And.intro (by first | assumption | omega | simp_all) (by first | assumption | omega | simp_all))))) (fun A147 i148 j149 f150 r151 g157 g158 g152 g153 g154 g155 g156 => ?_)))
            replace hT := qlpc g155 g156 hT
            clear g155 g156
            have f159 := frm_c f1 f150 rfl
            have t160 := ivf_at j149 6 rfl
            have t161 : A147 0 (fd 28) = B 0 (fd 28) := (frm_f f150 rfl)
            have t162 : A147 0 (fd 31) = B 0 (fd 31) := (frm_f f150 rfl)
            have t163 := ivf_at j149 9 rfl
            refine And.intro (fun h164 => ?_) (fun h164 => ?_)
            · replace hT := (if_neg h164).symm.trans hT
              exact Exists.intro (200 - A147 0 (fd 27) : Int).toNat (And.intro (by first | exact qtn hm (by (try clear hm hnf); omega) | omega) (And.intro i148 (And.intro j149 (And.intro f159 (And.intro rfl (And.intro (PS_k (PS_q c0 (frm_a f150 rfl) (Or.resolve_left g152 (by (first | (clear hm hnf; omega) | omega))) (by (first | (clear hm hnf; omega) | omega)) (by (first | (clear hm hnf; omega) | omega)) (by (first | (clear hm hnf; omega) | omega)) (by (first | (clear hm hnf; omega) | omega)) (by (first | (clear hm hnf; omega) | omega)) (by (first | (clear hm hnf; omega) | omega)) : PS A147 (A 23) (A 0 (fd 31)) (A147 0 (fd 32)) 0 0) rfl rfl (by (first | (clear hm hnf; omega) | omega)) (by (first | (clear hm hnf; omega) | omega)) (by (first | (clear hm hnf; omega) | omega)) (by (first | (clear hm hnf; omega) | omega)) (by (first | (clear hm hnf; omega) | omega)) (by (first | (clear hm hnf; omega) | omega))) (dqA2 (by (first | (clear hm hnf; omega) | omega)) (Exists.intro ng (And.intro (by first | exact qtm hm hnf (by (try clear hm hnf); omega) | omega) hT)))))))))
            · replace hT := (if_pos h164).symm.trans hT
              exact And.intro (by (first | (clear hm hnf; omega) | omega)) (hK _ i148 j149 f159 _ (by (first | (clear hm hnf; omega) | omega)) (by (first | (clear hm hnf; omega) | omega)) (Or.inl rfl) (by first | assumption | omega | simp_all) (by first | assumption | omega | simp_all) (congrArg Prod.fst hT) (congrArg Prod.snd hT))
          · replace hT := (if_pos h145).symm.trans hT
            have z165 := PS_bd c0
            refine Exists.intro 10 (And.intro rfl (And.intro (And.intro i1 (And.intro j1 (dqA2 (by (first | (clear hm hnf; omega) | omega)) (And.intro (by first | assumption | omega | simp_all) (by first | assumption | omega | simp_all))))) (fun A166 i167 j168 f169 r170 g176 g177 g171 g172 g173 g174 g175 => ?_)))
            replace hT := qlpc g174 g175 hT
            clear g174 g175
            have f178 := frm_c f1 f169 rfl
            have t179 := ivf_at j168 6 rfl
            have t180 : A166 0 (fd 28) = B 0 (fd 28) := (frm_f f169 rfl)
            have t181 : A166 0 (fd 31) = B 0 (fd 31) := (frm_f f169 rfl)
            have t182 := ivf_at j168 9 rfl
            refine And.intro (fun h183 => ?_) (fun h183 => ?_)
            · replace hT := (if_neg h183).symm.trans hT
              exact Exists.intro (200 - A166 0 (fd 27) : Int).toNat (And.intro (by first | exact qtn hm (by (try clear hm hnf); omega) | omega) (And.intro i167 (And.intro j168 (And.intro f178 (And.intro rfl (And.intro (PS_k (PS_q c0 (frm_a f169 rfl) (Or.resolve_left g171 (by (first | (clear hm hnf; omega) | omega))) (by (first | (clear hm hnf; omega) | omega)) (by (first | (clear hm hnf; omega) | omega)) (by (first | (clear hm hnf; omega) | omega)) (by (first | (clear hm hnf; omega) | omega)) (by (first | (clear hm hnf; omega) | omega)) (by (first | (clear hm hnf; omega) | omega)) : PS A166 (A 23) (A 0 (fd 31)) (A166 0 (fd 32)) 0 0) rfl rfl (by (first | (clear hm hnf; omega) | omega)) (by (first | (clear hm hnf; omega) | omega)) (by (first | (clear hm hnf; omega) | omega)) (by (first | (clear hm hnf; omega) | omega)) (by (first | (clear hm hnf; omega) | omega)) (by (first | (clear hm hnf; omega) | omega))) (dqA2 (by (first | (clear hm hnf; omega) | omega)) (Exists.intro ng (And.intro (by first | exact qtm hm hnf (by (try clear hm hnf); omega) | omega) hT)))))))))
            · replace hT := (if_pos h183).symm.trans hT
              exact And.intro (by (first | (clear hm hnf; omega) | omega)) (hK _ i167 j168 f178 _ (by (first | (clear hm hnf; omega) | omega)) (by (first | (clear hm hnf; omega) | omega)) (Or.inl rfl) (by first | assumption | omega | simp_all) (by first | assumption | omega | simp_all) (congrArg Prod.fst hT) (congrArg Prod.snd hT))
    · refine fun  B mm hB hz hI => ?_
      obtain ⟨i1, j1, f1, hm, c0, c1, c2, ⟨nf, hnf, hT⟩⟩ := hI
      obtain ⟨ng, rfl⟩ : ∃ k, nf = k + 1 := ⟨nf - 1, by omega⟩
      replace hT := (fM_readsCondition_c47.eq_1 (fM_readsCondition_L ng) B).symm.trans ((fM_readsCondition_L47 ng B).symm.trans hT)
      have hc_0_27 := ivf_at j1 6 rfl
      have hc_0_28 := ivf_at j1 7 rfl
      have hc_0_31 := ivf_at j1 8 rfl
      have hc_0_32 := ivf_at j1 9 rfl
      refine And.intro rfl (And.intro (And.intro i1 j1) (fun r184 g188 g189 g185 g186 g187 => ?_))
      replace hT := qlc g187 hT
      clear g187
      refine And.intro (fun h190 => ?_) (fun h190 => ?_)
      · replace hT := (if_neg h190).symm.trans hT
        refine And.intro rfl (And.intro (And.intro i1 j1) (fun r191 g195 g196 g192 g193 g194 => ?_))
        replace hT := qlc g194 hT
        clear g194
        refine And.intro (fun h197 => ?_) (fun h197 => ?_)
        · replace hT := (if_pos h197).symm.trans hT
          refine And.intro rfl (And.intro (And.intro i1 j1) (fun r198 g202 g203 g199 g200 g201 => ?_))
          replace hT := qlc g201 hT
          clear g201
          refine And.intro (fun h204 => ?_) (fun h204 => ?_)
          · replace hT := (if_neg h204).symm.trans hT
            have z205 := PS_bd c0
            refine Exists.intro 0 (Exists.intro (A 23) (Exists.intro (A 0 (fd 31)) (Exists.intro 0 (And.intro rfl (And.intro (And.intro i1 (And.intro j1 (dqA2 (by (first | (clear hm hnf; omega) | omega)) (And.intro (PS_kA c0 rfl rfl (by (first | (clear hm hnf; omega) | omega))) (by first | assumption | omega | simp_all))))) (fun A206 i207 j208 f209 g210 g211 g212 g213 => ?_))))))
            replace hT := qlc g213 hT
            have f214 := frm_c f1 f209 rfl
            have t215 : A206 0 (fd 27) = B 0 (fd 27) := (frm_f f209 rfl)
            have t216 : A206 0 (fd 28) = B 0 (fd 28) := (frm_f f209 rfl)
            have t217 : A206 0 (fd 31) = B 0 (fd 31) := (frm_f f209 rfl)
            have t218 := ivf_at j208 9 rfl
            refine And.intro rfl (And.intro (And.intro i207 j208) (fun r219 g223 g224 g220 g221 g222 => ?_))
            replace hT := qlc g222 hT
            clear g222
            refine And.intro (fun h225 => ?_) (fun h225 => ?_)
            · replace hT := (if_neg h225).symm.trans hT
              have z226 := PS_bd g210
              refine Exists.intro 12 (Exists.intro (A 23) (Exists.intro (A 0 (fd 31)) (Exists.intro 0 (And.intro rfl (And.intro (And.intro i207 (And.intro j208 (dqA2 (by (first | (clear hm hnf; omega) | omega)) (And.intro (PS_kA g210 rfl rfl (by (first | (clear hm hnf; omega) | omega))) (And.intro (by first | assumption | omega | simp_all) (And.intro (by first | assumption | omega | simp_all) (by first | assumption | omega | simp_all))))))) (fun A227 i228 j229 f230 g231 g232 g233 g234 => ?_))))))
              replace hT := qlc g234 hT
              have f235 := frm_c f214 f230 rfl
              have t236 := ivf_at j229 6 rfl
              have t237 : A227 0 (fd 28) = A206 0 (fd 28) := (frm_f f230 rfl)
              have t238 := ivf_at j229 8 rfl
              have t239 := ivf_at j229 9 rfl
              exact Exists.intro (200 - A227 0 (fd 27) : Int).toNat (And.intro (by first | exact qtn hm (by (try clear hm hnf); omega) | omega) (And.intro i228 (And.intro j229 (And.intro f235 (And.intro rfl (And.intro (PS_kA g231 rfl rfl (by (first | (clear hm hnf; omega) | omega))) (dqA2 (by (first | (clear hm hnf; omega) | omega)) (Exists.intro ng (And.intro (by first | exact qtm hm hnf (by (try clear hm hnf); omega) | omega) hT)))))))))
            · replace hT := (if_pos h225).symm.trans hT
              have z240 := PS_bd g210
              refine Exists.intro 11 (Exists.intro (A 23) (Exists.intro (A 0 (fd 31)) (Exists.intro 0 (And.intro rfl (And.intro (And.intro i207 (And.intro j208 (dqA2 (by (first | (clear hm hnf; omega) | omega)) (And.intro (PS_kA g210 rfl rfl (by (first | (clear hm hnf; omega) | omega))) (And.intro (by first | assumption | omega | simp_all) (And.intro (by first | assumption | omega | simp_all) (by first | assumption | omega | simp_all))))))) (fun A241 i242 j243 f244 g245 g246 g247 g248 => ?_))))))
              replace hT := qlc g248 hT
              have f249 := frm_c f214 f244 rfl
              have t250 := ivf_at j243 6 rfl
              have t251 : A241 0 (fd 28) = A206 0 (fd 28) := (frm_f f244 rfl)
              have t252 := ivf_at j243 8 rfl
              have t253 := ivf_at j243 9 rfl
              exact Exists.intro (200 - A241 0 (fd 27) : Int).toNat (And.intro (by first | exact qtn hm (by (try clear hm hnf); omega) | omega) (And.intro i242 (And.intro j243 (And.intro f249 (And.intro rfl (And.intro (PS_kA g245 rfl rfl (by (first | (clear hm hnf; omega) | omega))) (dqA2 (by (first | (clear hm hnf; omega) | omega)) (Exists.intro ng (And.intro (by first | exact qtm hm hnf (by (try clear hm hnf); omega) | omega) hT)))))))))
          · replace hT := (if_pos h204).symm.trans hT
            have z254 := PS_bd c0
            refine Exists.intro 1 (Exists.intro (A 23) (Exists.intro (A 0 (fd 31)) (Exists.intro 0 (And.intro rfl (And.intro (And.intro i1 (And.intro j1 (dqA2 (by (first | (clear hm hnf; omega) | omega)) (And.intro (PS_kA c0 rfl rfl (by (first | (clear hm hnf; omega) | omega))) (by first | assumption | omega | simp_all))))) (fun A255 i256 j257 f258 g259 g260 g261 g262 => ?_))))))
            replace hT := qlc g262 hT
            have f263 := frm_c f1 f258 rfl
            have t264 : A255 0 (fd 27) = B 0 (fd 27) := (frm_f f258 rfl)
            have t265 : A255 0 (fd 28) = B 0 (fd 28) := (frm_f f258 rfl)
            have t266 : A255 0 (fd 31) = B 0 (fd 31) := (frm_f f258 rfl)
            have t267 := ivf_at j257 9 rfl
            refine And.intro rfl (And.intro (And.intro i256 j257) (fun r268 g272 g273 g269 g270 g271 => ?_))
            replace hT := qlc g271 hT
            clear g271
            refine And.intro (fun h274 => ?_) (fun h274 => ?_)
            · replace hT := (if_neg h274).symm.trans hT
              have z275 := PS_bd g259
              refine Exists.intro 12 (Exists.intro (A 23) (Exists.intro (A 0 (fd 31)) (Exists.intro 0 (And.intro rfl (And.intro (And.intro i256 (And.intro j257 (dqA2 (by (first | (clear hm hnf; omega) | omega)) (And.intro (PS_kA g259 rfl rfl (by (first | (clear hm hnf; omega) | omega))) (And.intro (by first | assumption | omega | simp_all) (And.intro (by first | assumption | omega | simp_all) (by first | assumption | omega | simp_all))))))) (fun A276 i277 j278 f279 g280 g281 g282 g283 => ?_))))))
              replace hT := qlc g283 hT
              have f284 := frm_c f263 f279 rfl
              have t285 := ivf_at j278 6 rfl
              have t286 : A276 0 (fd 28) = A255 0 (fd 28) := (frm_f f279 rfl)
              have t287 := ivf_at j278 8 rfl
              have t288 := ivf_at j278 9 rfl
              exact Exists.intro (200 - A276 0 (fd 27) : Int).toNat (And.intro (by first | exact qtn hm (by (try clear hm hnf); omega) | omega) (And.intro i277 (And.intro j278 (And.intro f284 (And.intro rfl (And.intro (PS_kA g280 rfl rfl (by (first | (clear hm hnf; omega) | omega))) (dqA2 (by (first | (clear hm hnf; omega) | omega)) (Exists.intro ng (And.intro (by first | exact qtm hm hnf (by (try clear hm hnf); omega) | omega) hT)))))))))
            · replace hT := (if_pos h274).symm.trans hT
              have z289 := PS_bd g259
              refine Exists.intro 11 (Exists.intro (A 23) (Exists.intro (A 0 (fd 31)) (Exists.intro 0 (And.intro rfl (And.intro (And.intro i256 (And.intro j257 (dqA2 (by (first | (clear hm hnf; omega) | omega)) (And.intro (PS_kA g259 rfl rfl (by (first | (clear hm hnf; omega) | omega))) (And.intro (by first | assumption | omega | simp_all) (And.intro (by first | assumption | omega | simp_all) (by first | assumption | omega | simp_all))))))) (fun A290 i291 j292 f293 g294 g295 g296 g297 => ?_))))))
              replace hT := qlc g297 hT
              have f298 := frm_c f263 f293 rfl
              have t299 := ivf_at j292 6 rfl
              have t300 : A290 0 (fd 28) = A255 0 (fd 28) := (frm_f f293 rfl)
              have t301 := ivf_at j292 8 rfl
              have t302 := ivf_at j292 9 rfl
              exact Exists.intro (200 - A290 0 (fd 27) : Int).toNat (And.intro (by first | exact qtn hm (by (try clear hm hnf); omega) | omega) (And.intro i291 (And.intro j292 (And.intro f298 (And.intro rfl (And.intro (PS_kA g294 rfl rfl (by (first | (clear hm hnf; omega) | omega))) (dqA2 (by (first | (clear hm hnf; omega) | omega)) (Exists.intro ng (And.intro (by first | exact qtm hm hnf (by (try clear hm hnf); omega) | omega) hT)))))))))
        · replace hT := (if_neg h197).symm.trans hT
          refine And.intro rfl (And.intro (And.intro i1 j1) (fun r303 g307 g308 g304 g305 g306 => ?_))
          replace hT := qlc g306 hT
          clear g306
          refine And.intro (fun h309 => ?_) (fun h309 => ?_)
          · replace hT := (if_pos h309).symm.trans hT
            refine And.intro rfl (And.intro (And.intro i1 j1) (fun r310 g314 g315 g311 g312 g313 => ?_))
            replace hT := qlc g313 hT
            clear g313
            refine And.intro (fun h316 => ?_) (fun h316 => ?_)
            · replace hT := (if_neg h316).symm.trans hT
              have z317 := PS_bd c0
              refine Exists.intro 0 (Exists.intro (A 23) (Exists.intro (A 0 (fd 31)) (Exists.intro 0 (And.intro rfl (And.intro (And.intro i1 (And.intro j1 (dqA2 (by (first | (clear hm hnf; omega) | omega)) (And.intro (PS_kA c0 rfl rfl (by (first | (clear hm hnf; omega) | omega))) (by first | assumption | omega | simp_all))))) (fun A318 i319 j320 f321 g322 g323 g324 g325 => ?_))))))
              replace hT := qlc g325 hT
              have f326 := frm_c f1 f321 rfl
              have t327 : A318 0 (fd 27) = B 0 (fd 27) := (frm_f f321 rfl)
              have t328 : A318 0 (fd 28) = B 0 (fd 28) := (frm_f f321 rfl)
              have t329 : A318 0 (fd 31) = B 0 (fd 31) := (frm_f f321 rfl)
              have t330 := ivf_at j320 9 rfl
              refine And.intro rfl (And.intro (And.intro i319 j320) (fun r331 g335 g336 g332 g333 g334 => ?_))
              replace hT := qlc g334 hT
              clear g334
              refine And.intro (fun h337 => ?_) (fun h337 => ?_)
              · replace hT := (if_neg h337).symm.trans hT
                have z338 := PS_bd g322
                refine Exists.intro 12 (Exists.intro (A 23) (Exists.intro (A 0 (fd 31)) (Exists.intro 0 (And.intro rfl (And.intro (And.intro i319 (And.intro j320 (dqA2 (by (first | (clear hm hnf; omega) | omega)) (And.intro (PS_kA g322 rfl rfl (by (first | (clear hm hnf; omega) | omega))) (And.intro (by first | assumption | omega | simp_all) (And.intro (by first | assumption | omega | simp_all) (by first | assumption | omega | simp_all))))))) (fun A339 i340 j341 f342 g343 g344 g345 g346 => ?_))))))
                replace hT := qlc g346 hT
                have f347 := frm_c f326 f342 rfl
                have t348 := ivf_at j341 6 rfl
                have t349 : A339 0 (fd 28) = A318 0 (fd 28) := (frm_f f342 rfl)
                have t350 := ivf_at j341 8 rfl
                have t351 := ivf_at j341 9 rfl
                exact Exists.intro (200 - A339 0 (fd 27) : Int).toNat (And.intro (by first | exact qtn hm (by (try clear hm hnf); omega) | omega) (And.intro i340 (And.intro j341 (And.intro f347 (And.intro rfl (And.intro (PS_kA g343 rfl rfl (by (first | (clear hm hnf; omega) | omega))) (dqA2 (by (first | (clear hm hnf; omega) | omega)) (Exists.intro ng (And.intro (by first | exact qtm hm hnf (by (try clear hm hnf); omega) | omega) hT)))))))))
              · replace hT := (if_pos h337).symm.trans hT
                have z352 := PS_bd g322
                refine Exists.intro 11 (Exists.intro (A 23) (Exists.intro (A 0 (fd 31)) (Exists.intro 0 (And.intro rfl (And.intro (And.intro i319 (And.intro j320 (dqA2 (by (first | (clear hm hnf; omega) | omega)) (And.intro (PS_kA g322 rfl rfl (by (first | (clear hm hnf; omega) | omega))) (And.intro (by first | assumption | omega | simp_all) (And.intro (by first | assumption | omega | simp_all) (by first | assumption | omega | simp_all))))))) (fun A353 i354 j355 f356 g357 g358 g359 g360 => ?_))))))
                replace hT := qlc g360 hT
                have f361 := frm_c f326 f356 rfl
                have t362 := ivf_at j355 6 rfl
                have t363 : A353 0 (fd 28) = A318 0 (fd 28) := (frm_f f356 rfl)
                have t364 := ivf_at j355 8 rfl
                have t365 := ivf_at j355 9 rfl
                exact Exists.intro (200 - A353 0 (fd 27) : Int).toNat (And.intro (by first | exact qtn hm (by (try clear hm hnf); omega) | omega) (And.intro i354 (And.intro j355 (And.intro f361 (And.intro rfl (And.intro (PS_kA g357 rfl rfl (by (first | (clear hm hnf; omega) | omega))) (dqA2 (by (first | (clear hm hnf; omega) | omega)) (Exists.intro ng (And.intro (by first | exact qtm hm hnf (by (try clear hm hnf); omega) | omega) hT)))))))))
            · replace hT := (if_pos h316).symm.trans hT
              have z366 := PS_bd c0
              refine Exists.intro 1 (Exists.intro (A 23) (Exists.intro (A 0 (fd 31)) (Exists.intro 0 (And.intro rfl (And.intro (And.intro i1 (And.intro j1 (dqA2 (by (first | (clear hm hnf; omega) | omega)) (And.intro (PS_kA c0 rfl rfl (by (first | (clear hm hnf; omega) | omega))) (by first | assumption | omega | simp_all))))) (fun A367 i368 j369 f370 g371 g372 g373 g374 => ?_))))))
              replace hT := qlc g374 hT
              have f375 := frm_c f1 f370 rfl
              have t376 : A367 0 (fd 27) = B 0 (fd 27) := (frm_f f370 rfl)
              have t377 : A367 0 (fd 28) = B 0 (fd 28) := (frm_f f370 rfl)
              have t378 : A367 0 (fd 31) = B 0 (fd 31) := (frm_f f370 rfl)
              have t379 := ivf_at j369 9 rfl
              refine And.intro rfl (And.intro (And.intro i368 j369) (fun r380 g384 g385 g381 g382 g383 => ?_))
              replace hT := qlc g383 hT
              clear g383
              refine And.intro (fun h386 => ?_) (fun h386 => ?_)
              · replace hT := (if_neg h386).symm.trans hT
                have z387 := PS_bd g371
                refine Exists.intro 12 (Exists.intro (A 23) (Exists.intro (A 0 (fd 31)) (Exists.intro 0 (And.intro rfl (And.intro (And.intro i368 (And.intro j369 (dqA2 (by (first | (clear hm hnf; omega) | omega)) (And.intro (PS_kA g371 rfl rfl (by (first | (clear hm hnf; omega) | omega))) (And.intro (by first | assumption | omega | simp_all) (And.intro (by first | assumption | omega | simp_all) (by first | assumption | omega | simp_all))))))) (fun A388 i389 j390 f391 g392 g393 g394 g395 => ?_))))))
                replace hT := qlc g395 hT
                have f396 := frm_c f375 f391 rfl
                have t397 := ivf_at j390 6 rfl
                have t398 : A388 0 (fd 28) = A367 0 (fd 28) := (frm_f f391 rfl)
                have t399 := ivf_at j390 8 rfl
                have t400 := ivf_at j390 9 rfl
                exact Exists.intro (200 - A388 0 (fd 27) : Int).toNat (And.intro (by first | exact qtn hm (by (try clear hm hnf); omega) | omega) (And.intro i389 (And.intro j390 (And.intro f396 (And.intro rfl (And.intro (PS_kA g392 rfl rfl (by (first | (clear hm hnf; omega) | omega))) (dqA2 (by (first | (clear hm hnf; omega) | omega)) (Exists.intro ng (And.intro (by first | exact qtm hm hnf (by (try clear hm hnf); omega) | omega) hT)))))))))
              · replace hT := (if_pos h386).symm.trans hT
                have z401 := PS_bd g371
                refine Exists.intro 11 (Exists.intro (A 23) (Exists.intro (A 0 (fd 31)) (Exists.intro 0 (And.intro rfl (And.intro (And.intro i368 (And.intro j369 (dqA2 (by (first | (clear hm hnf; omega) | omega)) (And.intro (PS_kA g371 rfl rfl (by (first | (clear hm hnf; omega) | omega))) (And.intro (by first | assumption | omega | simp_all) (And.intro (by first | assumption | omega | simp_all) (by first | assumption | omega | simp_all))))))) (fun A402 i403 j404 f405 g406 g407 g408 g409 => ?_))))))
                replace hT := qlc g409 hT
                have f410 := frm_c f375 f405 rfl
                have t411 := ivf_at j404 6 rfl
                have t412 : A402 0 (fd 28) = A367 0 (fd 28) := (frm_f f405 rfl)
                have t413 := ivf_at j404 8 rfl
                have t414 := ivf_at j404 9 rfl
                exact Exists.intro (200 - A402 0 (fd 27) : Int).toNat (And.intro (by first | exact qtn hm (by (try clear hm hnf); omega) | omega) (And.intro i403 (And.intro j404 (And.intro f410 (And.intro rfl (And.intro (PS_kA g406 rfl rfl (by (first | (clear hm hnf; omega) | omega))) (dqA2 (by (first | (clear hm hnf; omega) | omega)) (Exists.intro ng (And.intro (by first | exact qtm hm hnf (by (try clear hm hnf); omega) | omega) hT)))))))))
          · replace hT := (if_neg h309).symm.trans hT
            refine fun v415 gv415 e416 => ?_
            replace hT := qlc e416 hT
            have b417 := ivf_at j1 6 rfl
            refine Exists.intro 1 (Exists.intro v415 (And.intro rfl (And.intro (And.intro i1 (And.intro j1 (dqA3 (by (first | (clear hm hnf; omega) | omega)) (by (first | (clear hm hnf; omega) | omega))))) (fun A418 i419 j420 f421 g422 => (fun h423 => ?_)))))
            · replace hT := qlc g422 hT
              have f424 := frm_c f1 f421 rfl
              have t425 : A418 0 (fd 27) = B 0 (fd 27) := (frm_f f421 rfl)
              have t426 : A418 0 (fd 28) = B 0 (fd 28) := (frm_f f421 rfl)
              have t427 : A418 0 (fd 31) = B 0 (fd 31) := (frm_f f421 rfl)
              have t428 : A418 0 (fd 32) = B 0 (fd 32) := (frm_f f421 rfl)
              exact And.intro (by (first | (clear hm hnf; omega) | omega)) (hK _ i419 j420 f424 _ (by (first | (clear hm hnf; omega) | omega)) (by (first | (clear hm hnf; omega) | omega)) (Or.inl rfl) (by first | assumption | omega | simp_all) (by first | assumption | omega | simp_all) (congrArg Prod.fst hT) (congrArg Prod.snd hT))
      · replace hT := (if_pos h190).symm.trans hT
        have z429 := PS_bd c0
        refine Exists.intro 1 (Exists.intro (A 23) (Exists.intro (A 0 (fd 31)) (Exists.intro 0 (And.intro rfl (And.intro (And.intro i1 (And.intro j1 (dqA2 (by (first | (clear hm hnf; omega) | omega)) (And.intro (PS_kA c0 rfl rfl (by (first | (clear hm hnf; omega) | omega))) (by first | assumption | omega | simp_all))))) (fun A430 i431 j432 f433 g434 g435 g436 g437 => ?_))))))
        replace hT := qlc g437 hT
        have f438 := frm_c f1 f433 rfl
        have t439 : A430 0 (fd 27) = B 0 (fd 27) := (frm_f f433 rfl)
        have t440 : A430 0 (fd 28) = B 0 (fd 28) := (frm_f f433 rfl)
        have t441 : A430 0 (fd 31) = B 0 (fd 31) := (frm_f f433 rfl)
        have t442 := ivf_at j432 9 rfl
        have hlow := PS_low g434 (by (first | (clear hm hnf; omega) | omega)) (by (first | (clear hm hnf; omega) | omega))
        refine fun v443 gv443 e444 => ?_
        replace hT := qlc e444 hT
        have b445 := ivf_at j432 9 rfl
        refine fun v446 e447 => ?_
        replace hT := qlc e447 hT
        have w450 := wI_rng v446
        have w451 : wI v446 = v446 := wI_id (by (first | (clear hm hnf; omega) | omega))
        refine fun A448 e449 => ?_
        replace hT := qlc e449 hT
        have i452 := iva_sf i431 e449 rfl
        have j453 := ivf_st j432 e449 (And.intro (by (first | (clear hm hnf; omega) | omega)) trivial)
        have f454 := frm_sf f438 e449 rfl
        have t455 : A448 0 (fd 27) = A430 0 (fd 27) := (st_f e449 rfl)
        have t456 : A448 0 (fd 28) = A430 0 (fd 28) := (st_f e449 rfl)
        have t457 : A448 0 (fd 31) = A430 0 (fd 31) := (st_f e449 rfl)
        have t458 := st_v e449
        refine fun v459 gv459 e460 => ?_
        replace hT := qlc e460 hT
        refine fun v461 e462 => ?_
        replace hT := qlc e462 hT
        have w465 := wI_rng v461
        refine fun A463 e464 => ?_
        replace hT := qlc e464 hT
        have i466 := iva_sf i452 e464 rfl
        have j467 := ivf_st j453 e464 trivial
        have f468 := frm_sf f454 e464 rfl
        have t469 : A463 0 (fd 27) = A448 0 (fd 27) := (st_f e464 rfl)
        have t470 : A463 0 (fd 28) = A448 0 (fd 28) := (st_f e464 rfl)
        have t471 : A463 0 (fd 31) = A448 0 (fd 31) := (st_f e464 rfl)
        have t472 : A463 0 (fd 32) = A448 0 (fd 32) := (st_f e464 rfl)
        refine fun v473 gv473 e474 => ?_
        replace hT := qlc e474 hT
        have b475 := ivf_at j467 6 rfl
        refine fun v476 e477 => ?_
        replace hT := qlc e477 hT
        have w480 := wI_rng v476
        have w481 : wI v476 = v476 := wI_id (by (first | (clear hm hnf; omega) | omega))
        refine fun A478 e479 => ?_
        replace hT := qlc e479 hT
        have i482 := iva_sf i466 e479 rfl
        have j483 := ivf_st j467 e479 (And.intro (by (first | (clear hm hnf; omega) | omega)) trivial)
        have f484 := frm_sf f468 e479 rfl
        have t485 := st_v e479
        have t486 : A478 0 (fd 28) = A463 0 (fd 28) := (st_f e479 rfl)
        have t487 : A478 0 (fd 31) = A463 0 (fd 31) := (st_f e479 rfl)
        have t488 : A478 0 (fd 32) = A463 0 (fd 32) := (st_f e479 rfl)
        have ps489 := (PS_p g434 (Eq.trans (Eq.trans (st_a e479 rfl) (st_a e464 rfl)) (st_a e449 rfl)) (Eq.trans (Eq.trans (st_a e479 rfl) (st_a e464 rfl)) (st_a e449 rfl)) (by (first | (clear hm hnf; omega) | omega)) (by (first | (clear hm hnf; omega) | omega)) (by (first | (clear hm hnf; omega) | omega)) (by (first | (clear hm hnf; omega) | omega)) (by (first | (clear hm hnf; omega) | omega)) (by (first | (clear hm hnf; omega) | omega)) (by (first | (clear hm hnf; omega) | omega)) (by (first | (clear hm hnf; omega) | omega)) : PS A478 (A 23) (A 0 (fd 31)) (A478 0 (fd 32)) 1 0)
        have z490 := PS_bd ps489
        refine fun v491 gv491 e492 => ?_
        replace hT := qlc e492 hT
        have b493 := ivf_at j483 9 rfl
        have q494 : (wI v446) = v491 := (e492.trans ((Eq.trans (st_f e479 rfl) (st_f e464 rfl)).trans (st_v e449))).symm
        subst q494
        refine And.intro (fun h495 => ?_) (fun h495 => ?_)
        · replace hT := (if_neg h495).symm.trans hT
          have z496 := PS_bd ps489
          refine Exists.intro (A 23) (Exists.intro (A 0 (fd 31)) (Exists.intro 0 (And.intro rfl (And.intro (And.intro i482 (And.intro j483 (And.intro (PS_kA ps489 rfl rfl (by (first | (clear hm hnf; omega) | omega))) (by first | assumption | omega | simp_all)))) (fun A497 i498 j499 f500 g501 g502 g503 => ?_)))))
          replace hT := qlc g503 hT
          have f504 := frm_c f484 f500 rfl
          have t505 : A497 0 (fd 27) = A478 0 (fd 27) := (frm_f f500 rfl)
          have t506 : A497 0 (fd 28) = A478 0 (fd 28) := (frm_f f500 rfl)
          have t507 := ivf_at j499 8 rfl
          have t508 := ivf_at j499 9 rfl
          exact Exists.intro (200 - A497 0 (fd 27) : Int).toNat (And.intro (by first | exact qtn hm (by (try clear hm hnf); omega) | omega) (And.intro i498 (And.intro j499 (And.intro f504 (And.intro rfl (And.intro (PS_kA g501 rfl rfl (by (first | (clear hm hnf; omega) | omega))) (dqA2 (by (first | (clear hm hnf; omega) | omega)) (Exists.intro ng (And.intro (by first | exact qtm hm hnf (by (try clear hm hnf); omega) | omega) hT)))))))))
        · replace hT := (if_pos h495).symm.trans hT
          exact And.intro (by (first | (clear hm hnf; omega) | omega)) (hK _ i482 j483 f484 _ (by (first | (clear hm hnf; omega) | omega)) (by (first | (clear hm hnf; omega) | omega)) (Or.inr (PS_kA ps489 rfl rfl (by (first | (clear hm hnf; omega) | omega)))) (by first | assumption | omega | simp_all) (by first | assumption | omega | simp_all) (congrArg Prod.fst hT) (congrArg Prod.snd hT))
  · refine And.intro rfl (And.intro (And.intro i0 j0) (fun r2 g6 g7 g3 g4 g5 => ?_))
    replace hT := qlc g5 hT
    clear g5
    refine And.intro (fun h8 => ?_) (fun h8 => ?_)
    · replace hT := (if_pos h8).symm.trans hT
      refine fun A9 e10 => ?_
      replace hT := qlc e10 hT
      have i11 := iva_sf i0 e10 rfl
      have j12 := ivf_st j0 e10 trivial
      have f13 := frm_sf f0 e10 rfl
      have t14 : A9 0 (fd 27) = A 0 (fd 27) := (st_f e10 rfl)
      have t15 : A9 0 (fd 28) = A 0 (fd 28) := (st_f e10 rfl)
      have t16 : A9 0 (fd 31) = A 0 (fd 31) := (st_f e10 rfl)
      have t17 : A9 0 (fd 32) = A 0 (fd 32) := (st_f e10 rfl)
      refine fun A18 e19 => ?_
      replace hT := qlc e19 hT
      have i20 := iva_sf i11 e19 rfl
      have j21 := ivf_st j12 e19 (And.intro (by (first | (clear hm hnf; omega) | omega)) trivial)
      have f22 := frm_sf f13 e19 rfl
      have t23 : A18 0 (fd 27) = A9 0 (fd 27) := (st_f e19 rfl)
      have t24 : A18 0 (fd 28) = A9 0 (fd 28) := (st_f e19 rfl)
      have t25 : A18 0 (fd 31) = A9 0 (fd 31) := (st_f e19 rfl)
      have t26 := st_v e19
      have ps27 : PS A18 (A 23) (A 0 (fd 31)) 0 0 0 := PS_0 (Eq.trans (st_a e19 rfl) (st_a e10 rfl)) (by (first | (clear hm hnf; omega) | omega)) (by (first | (clear hm hnf; omega) | omega)) (by (first | (clear hm hnf; omega) | omega)) (by (first | (clear hm hnf; omega) | omega))
      have z28 := PS_bd ps27
      refine Exists.intro 13 (And.intro rfl (And.intro (And.intro i20 (And.intro j21 (dqA2 (by (first | (clear hm hnf; omega) | omega)) (And.intro (by first | assumption | omega | simp_all) (by first | assumption | omega | simp_all))))) (fun A29 i30 j31 f32 r33 g39 g40 g34 g35 g36 g37 g38 => ?_)))
      replace hT := qlpc g37 g38 hT
      clear g37 g38
      have f41 := frm_c f22 f32 rfl
      have t42 := ivf_at j31 6 rfl
      have t43 : A29 0 (fd 28) = A18 0 (fd 28) := (frm_f f32 rfl)
      have t44 : A29 0 (fd 31) = A18 0 (fd 31) := (frm_f f32 rfl)
      have t45 := ivf_at j31 9 rfl
      refine And.intro (fun h46 => ?_) (fun h46 => ?_)
      · replace hT := (if_neg h46).symm.trans hT
        exact Exists.intro (200 - A29 0 (fd 27) : Int).toNat (And.intro i30 (And.intro j31 (And.intro f41 (And.intro rfl (And.intro (PS_k (PS_q ps27 (frm_a f32 rfl) (Or.resolve_left g34 (by (first | (clear hm hnf; omega) | omega))) (by (first | (clear hm hnf; omega) | omega)) (by (first | (clear hm hnf; omega) | omega)) (by (first | (clear hm hnf; omega) | omega)) (by (first | (clear hm hnf; omega) | omega)) (by (first | (clear hm hnf; omega) | omega)) (by (first | (clear hm hnf; omega) | omega)) : PS A29 (A 23) (A 0 (fd 31)) (A29 0 (fd 32)) 0 0) rfl rfl (by (first | (clear hm hnf; omega) | omega)) (by (first | (clear hm hnf; omega) | omega)) (by (first | (clear hm hnf; omega) | omega)) (by (first | (clear hm hnf; omega) | omega)) (by (first | (clear hm hnf; omega) | omega)) (by (first | (clear hm hnf; omega) | omega))) (dqA2 (by (first | (clear hm hnf; omega) | omega)) (Exists.intro 100000 (And.intro (by (first | (clear hm hnf; omega) | omega)) hT))))))))
      · replace hT := (if_pos h46).symm.trans hT
        exact And.intro (by (first | (clear hm hnf; omega) | omega)) (hK _ i30 j31 f41 _ (by (first | (clear hm hnf; omega) | omega)) (by (first | (clear hm hnf; omega) | omega)) (Or.inl rfl) (by first | assumption | omega | simp_all) (by first | assumption | omega | simp_all) (congrArg Prod.fst hT) (congrArg Prod.snd hT))
    · replace hT := (if_neg h8).symm.trans hT
      refine fun v47 gv47 e48 => ?_
      replace hT := qlc e48 hT
      have b49 := ivf_at j0 6 rfl
      refine Exists.intro 1 (Exists.intro v47 (And.intro rfl (And.intro (And.intro i0 (And.intro j0 (dqA3 (by (first | (clear hm hnf; omega) | omega)) (by (first | (clear hm hnf; omega) | omega))))) (fun A50 i51 j52 f53 g54 => (fun h55 => ?_)))))
      · replace hT := qlc g54 hT
        have f56 := frm_c f0 f53 rfl
        have t57 : A50 0 (fd 27) = A 0 (fd 27) := (frm_f f53 rfl)
        have t58 : A50 0 (fd 28) = A 0 (fd 28) := (frm_f f53 rfl)
        have t59 : A50 0 (fd 31) = A 0 (fd 31) := (frm_f f53 rfl)
        have t60 : A50 0 (fd 32) = A 0 (fd 32) := (frm_f f53 rfl)
        exact And.intro (by (first | (clear hm hnf; omega) | omega)) (hK _ i51 j52 f56 _ (by (first | (clear hm hnf; omega) | omega)) (by (first | (clear hm hnf; omega) | omega)) (Or.inl rfl) (by first | assumption | omega | simp_all) (by first | assumption | omega | simp_all) (congrArg Prod.fst hT) (congrArg Prod.snd hT))
theorem pM_readsCondition {A : qA} (hA : qokA LM A) (p0 : iva IM A) (p1 : ivf JM A) (p2 : A 0 (fd 31) ≤ A 0 (fd 27)) : qokA LM (fM_readsCondition A).2 ∧ iva IM (fM_readsCondition A).2 ∧ ivf JM (fM_readsCondition A).2 ∧ frm [23, 24] [(0, 27), (0, 29), (0, 30), (0, 31), (0, 32), (0, 34)] A (fM_readsCondition A).2 ∧ (0 ≤ (fM_readsCondition A).1 ∧ (fM_readsCondition A).1 ≤ 1) ∧ ((fM_readsCondition A).1 = 0 ∨ PS (fM_readsCondition A).2 (A 23) (A 0 (fd 31)) ((fM_readsCondition A).2 0 (fd 32)) 1 0) ∧ ((fM_readsCondition A).1 = 0 ∨ (fM_readsCondition A).2 0 (fd 32) = 0) ∧ ((fM_readsCondition A).1 = 0 ∨ A 0 (fd 27) < (fM_readsCondition A).2 0 (fd 27)) := by
  obtain ⟨r, B, hB, _, hk⟩ := okM_ex okM_readsCondition (as := [rf 0]) (K := fun _ B => B = (fM_readsCondition A).2 ∧ iva IM (fM_readsCondition A).2 ∧ ivf JM (fM_readsCondition A).2 ∧ frm [23, 24] [(0, 27), (0, 29), (0, 30), (0, 31), (0, 32), (0, 34)] A (fM_readsCondition A).2 ∧ (0 ≤ (fM_readsCondition A).1 ∧ (fM_readsCondition A).1 ≤ 1) ∧ ((fM_readsCondition A).1 = 0 ∨ PS (fM_readsCondition A).2 (A 23) (A 0 (fd 31)) ((fM_readsCondition A).2 0 (fd 32)) 1 0) ∧ ((fM_readsCondition A).1 = 0 ∨ (fM_readsCondition A).2 0 (fd 32) = 0) ∧ ((fM_readsCondition A).1 = 0 ∨ A 0 (fd 27) < (fM_readsCondition A).2 0 (fd 27))) hA (qoks_c (show qok (rf _) from trivial) qoks_n) ⟨rfl, ⟨p0, p1, p2⟩, fun A9 i9 j9 f9 r9 g8 g9 x0 x1 x2 x3 x4 => (by rw [← x4]; (try rw [← x3]); exact ⟨rfl, i9, j9, f9, ⟨g8, g9⟩, x0, x1, x2⟩)⟩
  exact ⟨hk.1 ▸ hB, hk.2⟩
