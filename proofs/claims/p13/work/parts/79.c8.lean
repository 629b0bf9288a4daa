def fC_hang (c l s n f w : Int) (A : qA) : Int × qA := (if (0 ≤ c ∧ c ≤ 7) ∧ (0 ≤ l ∧ l ≤ 5) then (if 0 ≤ s ∧ s ≤ 9 then (if 0 ≤ n ∧ n ≤ 9999 then (if 0 ≤ f ∧ f ≤ 7 then (if 0 ≤ w ∧ w ≤ 3 then qlet (c * 6) fun v11 => qlet (v11 + l) fun v13 => (if 0 ≤ v13 ∧ v13 ≤ 47 ∧ HG A v13 then (0, A) else (if 0 < l then qlet (v13 - 1) fun v68 => (if 0 ≤ v68 ∧ v68 ≤ 47 ∧ HG A v68 then qlet (A 1 (fd 0)) fun v72 => qlet ((1 : Int)) fun v74 => qlet (jsl v74 v13) fun v76 => qlet (jo v72 v76) fun v78 => qlet (qu A 1 (fd 0) v78) fun A80 => qlet (qu A80 3 v13 s) fun A85 => qlet (qu A85 2 v13 n) fun A90 => qlet (qu A90 4 v13 f) fun A95 => qlet (qu A95 5 v13 w) fun A100 => qlet (qu A100 8 v13 0) fun A105 => qlet (qu A105 9 v13 0) fun A110 => qlet (fC_clearCrop v13 A110) fun A115 => (1, A115) else (0, A)) else qlet (A 1 (fd 0)) fun v19 => qlet ((1 : Int)) fun v21 => qlet (jsl v21 v13) fun v23 => qlet (jo v19 v23) fun v25 => qlet (qu A 1 (fd 0) v25) fun A27 => qlet (qu A27 3 v13 s) fun A32 => qlet (qu A32 2 v13 n) fun A37 => qlet (qu A37 4 v13 f) fun A42 => qlet (qu A42 5 v13 w) fun A47 => qlet (qu A47 8 v13 0) fun A52 => qlet (qu A52 9 v13 0) fun A57 => qlet (fC_clearCrop v13 A57) fun A62 => (1, A62))) else (0, A)) else (0, A)) else (0, A)) else (0, A)) else (0, A))
def sC_hang : qS := fun as A K => ∃ c l s n f w : Int, as = [rf 0, ni c, ni l, ni s, ni n, ni f, ni w] ∧ (iva IC A ∧ ivf JC A) ∧ (∀ A' : qA, iva IC A' → ivf JC A' → frm [3, 2, 4, 5, 8, 9, 6, 7, 10] [(1, 0)] A A' → ∀ r : Int, 0 ≤ r → r ≤ 1 → (r = (fC_hang c l s n f w A).1) → (A' = (fC_hang c l s n f w A).2) → K (some (ni r)) A')
theorem okC_hang : okM LC 4 95 sC_hang := by
  refine qmeth [] false [(141, sC_isCell), (138, sC_within), (21, sC_hangs), (26, sC_clearCrop)] 101 rfl ⟨okC_isCell.le (by decide), ⟨okC_within.le (by decide), ⟨okC_hangs.le (by decide), ⟨okC_clearCrop.le (by decide), trivial⟩⟩⟩⟩ ?_
  rintro _ A K hA has ⟨c, l, s, n, f, w, rfl, ⟨i0, j0⟩, hK⟩
  have rg_c : rng c := has (ni c) (by simp)
  have rg_l : rng l := has (ni l) (by simp)
  have rg_s : rng s := has (ni s) (by simp)
  have rg_n : rng n := has (ni n) (by simp)
  have rg_f : rng f := has (ni f) (by simp)
  have rg_w : rng w := has (ni w) (by simp)
  have f0 := frm_0 [3, 2, 4, 5, 8, 9, 6, 7, 10] [(1, 0)] A
  have hT : _ = fC_hang c l s n f w A := (fC_hang.eq_1 c l s n f w A).symm
  refine ⟨Nat.le_of_ble_eq_true rfl, [], trivial, ?_⟩
  refine Exists.intro c (Exists.intro l (And.intro rfl (And.intro (fun h1 => ?_) (fun h1 => ?_))))
  · replace hT := (if_pos h1).symm.trans hT
    refine And.intro (fun h2 => by exfalso; omega) (fun h2 => ?_)
    refine Exists.intro s (Exists.intro 9 (And.intro rfl (And.intro (fun h3 => ?_) (fun h3 => ?_))))
    · replace hT := (if_pos h3).symm.trans hT
      refine And.intro (fun h4 => by exfalso; omega) (fun h4 => ?_)
      refine Exists.intro n (Exists.intro 9999 (And.intro rfl (And.intro (fun h5 => ?_) (fun h5 => ?_))))
      · replace hT := (if_pos h5).symm.trans hT
        refine And.intro (fun h6 => by exfalso; omega) (fun h6 => ?_)
        refine Exists.intro f (Exists.intro 7 (And.intro rfl (And.intro (fun h7 => ?_) (fun h7 => ?_))))
        · replace hT := (if_pos h7).symm.trans hT
          refine And.intro (fun h8 => by exfalso; omega) (fun h8 => ?_)
          refine Exists.intro w (Exists.intro 3 (And.intro rfl (And.intro (fun h9 => ?_) (fun h9 => ?_))))
          · replace hT := (if_pos h9).symm.trans hT
            refine And.intro (fun h10 => ?_) (fun h10 => by exfalso; omega)
            refine fun v11 e12 => ?_
            replace hT := qlc e12 hT
            refine fun v13 e14 => ?_
            replace hT := qlc e14 hT
            refine And.intro (by (first | (clear hm hnf; omega) | omega)) (Exists.intro v13 (And.intro rfl (And.intro (fun h15 => ?_) (fun h15 => ?_))))
            · replace hT := (if_pos h15).symm.trans hT
              refine And.intro (fun h16 => ?_) (fun h16 => by exfalso; omega)
              exact And.intro (by (first | (clear hm hnf; omega) | omega)) (hK _ i0 j0 f0 _ (by (first | (clear hm hnf; omega) | omega)) (by (first | (clear hm hnf; omega) | omega)) (congrArg Prod.fst hT) (congrArg Prod.snd hT))
            · replace hT := (if_neg h15).symm.trans hT
              refine And.intro (fun h17 => by exfalso; omega) (fun h17 => ?_)
              refine And.intro (fun h18 => ?_) (fun h18 => ?_)
              · replace hT := (if_neg (Int.not_lt.mpr h18)).symm.trans hT
                refine fun v19 e20 => ?_
                replace hT := qlc e20 hT
                refine fun (v21 : Int) (e22 : v21 = 1) => ?_
                replace hT := qlc e22 hT
                refine fun v23 e24 => ?_
                replace hT := qlc e24 hT
                refine fun v25 e26 => ?_
                replace hT := qlc e26 hT
                refine fun A27 e28 => ?_
                replace hT := qlc e28 hT
                have i29 := iva_sf i0 e28 rfl
                have j30 := ivf_st j0 e28 trivial
                have f31 := frm_sf f0 e28 rfl
                refine And.intro (by (first | (clear hm hnf; omega) | omega)) (fun A32 e33 => ?_)
                replace hT := qlc e33 hT
                have i34 := iva_st i29 e33 trivial
                have j35 := ivf_sa j30 e33 rfl
                have f36 := frm_s f31 e33 rfl
                refine And.intro (by (first | (clear hm hnf; omega) | omega)) (fun A37 e38 => ?_)
                replace hT := qlc e38 hT
                have i39 := iva_st i34 e38 (And.intro (by (first | (clear hm hnf; omega) | omega)) trivial)
                have j40 := ivf_sa j35 e38 rfl
                have f41 := frm_s f36 e38 rfl
                refine And.intro (by (first | (clear hm hnf; omega) | omega)) (fun A42 e43 => ?_)
                replace hT := qlc e43 hT
                have i44 := iva_st i39 e43 trivial
                have j45 := ivf_sa j40 e43 rfl
                have f46 := frm_s f41 e43 rfl
                refine And.intro (by (first | (clear hm hnf; omega) | omega)) (fun A47 e48 => ?_)
                replace hT := qlc e48 hT
                have i49 := iva_st i44 e48 (And.intro (by (first | (clear hm hnf; omega) | omega)) trivial)
                have j50 := ivf_sa j45 e48 rfl
                have f51 := frm_s f46 e48 rfl
                refine And.intro (by (first | (clear hm hnf; omega) | omega)) (fun A52 e53 => ?_)
                replace hT := qlc e53 hT
                have i54 := iva_st i49 e53 trivial
                have j55 := ivf_sa j50 e53 rfl
                have f56 := frm_s f51 e53 rfl
                refine And.intro (by (first | (clear hm hnf; omega) | omega)) (fun A57 e58 => ?_)
                replace hT := qlc e58 hT
                have i59 := iva_st i54 e58 (And.intro (by (first | (clear hm hnf; omega) | omega)) trivial)
                have j60 := ivf_sa j55 e58 rfl
                have f61 := frm_s f56 e58 rfl
                refine And.intro (by (first | (clear hm hnf; omega) | omega)) (Exists.intro v13 (And.intro rfl (And.intro (And.intro i59 (And.intro j60 (And.intro (by (first | (clear hm hnf; omega) | omega)) (by (first | (clear hm hnf; omega) | omega))))) (fun A62 i63 j64 f65 g66 => ?_))))
                replace hT := qlc g66 hT
                have f67 := frm_c f61 f65 rfl
                exact And.intro (by (first | (clear hm hnf; omega) | omega)) (hK _ i63 j64 f67 _ (by (first | (clear hm hnf; omega) | omega)) (by (first | (clear hm hnf; omega) | omega)) (congrArg Prod.fst hT) (congrArg Prod.snd hT))
              · replace hT := (if_pos h18).symm.trans hT
                refine fun v68 e69 => ?_
                replace hT := qlc e69 hT
                refine And.intro (by (first | (clear hm hnf; omega) | omega)) (Exists.intro v68 (And.intro rfl (And.intro (fun h70 => ?_) (fun h70 => ?_))))
                · replace hT := (if_pos h70).symm.trans hT
                  refine And.intro (fun h71 => ?_) (fun h71 => by exfalso; omega)
                  refine fun v72 e73 => ?_
                  replace hT := qlc e73 hT
                  refine fun (v74 : Int) (e75 : v74 = 1) => ?_
                  replace hT := qlc e75 hT
                  refine fun v76 e77 => ?_
                  replace hT := qlc e77 hT
                  refine fun v78 e79 => ?_
                  replace hT := qlc e79 hT
                  refine fun A80 e81 => ?_
                  replace hT := qlc e81 hT
                  have i82 := iva_sf i0 e81 rfl
                  have j83 := ivf_st j0 e81 trivial
                  have f84 := frm_sf f0 e81 rfl
                  refine And.intro (by (first | (clear hm hnf; omega) | omega)) (fun A85 e86 => ?_)
                  replace hT := qlc e86 hT
                  have i87 := iva_st i82 e86 trivial
                  have j88 := ivf_sa j83 e86 rfl
                  have f89 := frm_s f84 e86 rfl
                  refine And.intro (by (first | (clear hm hnf; omega) | omega)) (fun A90 e91 => ?_)
                  replace hT := qlc e91 hT
                  have i92 := iva_st i87 e91 (And.intro (by (first | (clear hm hnf; omega) | omega)) trivial)
                  have j93 := ivf_sa j88 e91 rfl
                  have f94 := frm_s f89 e91 rfl
                  refine And.intro (by (first | (clear hm hnf; omega) | omega)) (fun A95 e96 => ?_)
                  replace hT := qlc e96 hT
                  have i97 := iva_st i92 e96 trivial
                  have j98 := ivf_sa j93 e96 rfl
                  have f99 := frm_s f94 e96 rfl
                  refine And.intro (by (first | (clear hm hnf; omega) | omega)) (fun A100 e101 => ?_)
                  replace hT := qlc e101 hT
                  have i102 := iva_st i97 e101 (And.intro (by (first | (clear hm hnf; omega) | omega)) trivial)
                  have j103 := ivf_sa j98 e101 rfl
                  have f104 := frm_s f99 e101 rfl
                  refine And.intro (by (first | (clear hm hnf; omega) | omega)) (fun A105 e106 => ?_)
                  replace hT := qlc e106 hT
                  have i107 := iva_st i102 e106 trivial
                  have j108 := ivf_sa j103 e106 rfl
                  have f109 := frm_s f104 e106 rfl
                  refine And.intro (by (first | (clear hm hnf; omega) | omega)) (fun A110 e111 => ?_)
                  replace hT := qlc e111 hT
                  have i112 := iva_st i107 e111 (And.intro (by (first | (clear hm hnf; omega) | omega)) trivial)
                  have j113 := ivf_sa j108 e111 rfl
                  have f114 := frm_s f109 e111 rfl
                  refine And.intro (by (first | (clear hm hnf; omega) | omega)) (Exists.intro v13 (And.intro rfl (And.intro (And.intro i112 (And.intro j113 (And.intro (by (first | (clear hm hnf; omega) | omega)) (by (first | (clear hm hnf; omega) | omega))))) (fun A115 i116 j117 f118 g119 => ?_))))
                  replace hT := qlc g119 hT
                  have f120 := frm_c f114 f118 rfl
                  exact And.intro (by (first | (clear hm hnf; omega) | omega)) (hK _ i116 j117 f120 _ (by (first | (clear hm hnf; omega) | omega)) (by (first | (clear hm hnf; omega) | omega)) (congrArg Prod.fst hT) (congrArg Prod.snd hT))
                · replace hT := (if_neg h70).symm.trans hT
                  refine And.intro (fun h121 => by exfalso; omega) (fun h121 => ?_)
                  exact And.intro (by (first | (clear hm hnf; omega) | omega)) (hK _ i0 j0 f0 _ (by (first | (clear hm hnf; omega) | omega)) (by (first | (clear hm hnf; omega) | omega)) (congrArg Prod.fst hT) (congrArg Prod.snd hT))
          · replace hT := (if_neg h9).symm.trans hT
            refine And.intro (fun h122 => by exfalso; omega) (fun h122 => ?_)
            exact And.intro (by (first | (clear hm hnf; omega) | omega)) (hK _ i0 j0 f0 _ (by (first | (clear hm hnf; omega) | omega)) (by (first | (clear hm hnf; omega) | omega)) (congrArg Prod.fst hT) (congrArg Prod.snd hT))
        · replace hT := (if_neg h7).symm.trans hT
          refine And.intro (fun h123 => ?_) (fun h123 => by exfalso; omega)
          exact And.intro (by (first | (clear hm hnf; omega) | omega)) (hK _ i0 j0 f0 _ (by (first | (clear hm hnf; omega) | omega)) (by (first | (clear hm hnf; omega) | omega)) (congrArg Prod.fst hT) (congrArg Prod.snd hT))
      · replace hT := (if_neg h5).symm.trans hT
        refine And.intro (fun h124 => ?_) (fun h124 => by exfalso; omega)
        exact And.intro (by (first | (clear hm hnf; omega) | omega)) (hK _ i0 j0 f0 _ (by (first | (clear hm hnf; omega) | omega)) (by (first | (clear hm hnf; omega) | omega)) (congrArg Prod.fst hT) (congrArg Prod.snd hT))
    · replace hT := (if_neg h3).symm.trans hT
      refine And.intro (fun h125 => ?_) (fun h125 => by exfalso; omega)
      exact And.intro (by (first | (clear hm hnf; omega) | omega)) (hK _ i0 j0 f0 _ (by (first | (clear hm hnf; omega) | omega)) (by (first | (clear hm hnf; omega) | omega)) (congrArg Prod.fst hT) (congrArg Prod.snd hT))
  · replace hT := (if_neg h1).symm.trans hT
    refine And.intro (fun h126 => ?_) (fun h126 => by exfalso; omega)
    exact And.intro (by (first | (clear hm hnf; omega) | omega)) (hK _ i0 j0 f0 _ (by (first | (clear hm hnf; omega) | omega)) (by (first | (clear hm hnf; omega) | omega)) (congrArg Prod.fst hT) (congrArg Prod.snd hT))
theorem pC_hang {c l s n f w : Int} {A : qA} (hA : qokA LC A) (rg_c : rng c) (rg_l : rng l) (rg_s : rng s) (rg_n : rng n) (rg_f : rng f) (rg_w : rng w) (p0 : iva IC A) (p1 : ivf JC A) : qokA LC (fC_hang c l s n f w A).2 ∧ iva IC (fC_hang c l s n f w A).2 ∧ ivf JC (fC_hang c l s n f w A).2 ∧ frm [3, 2, 4, 5, 8, 9, 6, 7, 10] [(1, 0)] A (fC_hang c l s n f w A).2 ∧ (0 ≤ (fC_hang c l s n f w A).1 ∧ (fC_hang c l s n f w A).1 ≤ 1) := by
  obtain ⟨r, B, hB, _, hk⟩ := okM_ex okC_hang (as := [rf 0, ni c, ni l, ni s, ni n, ni f, ni w]) (K := fun _ B => B = (fC_hang c l s n f w A).2 ∧ iva IC (fC_hang c l s n f w A).2 ∧ ivf JC (fC_hang c l s n f w A).2 ∧ frm [3, 2, 4, 5, 8, 9, 6, 7, 10] [(1, 0)] A (fC_hang c l s n f w A).2 ∧ (0 ≤ (fC_hang c l s n f w A).1 ∧ (fC_hang c l s n f w A).1 ≤ 1)) hA (qoks_c (show qok (rf _) from trivial) (qoks_c (rg_c) (qoks_c (rg_l) (qoks_c (rg_s) (qoks_c (rg_n) (qoks_c (rg_f) (qoks_c (rg_w) qoks_n))))))) ⟨c, l, s, n, f, w, rfl, ⟨p0, p1⟩, fun A9 i9 j9 f9 r9 g8 g9 x0 x1 => (by rw [← x1]; (try rw [← x0]); exact ⟨rfl, i9, j9, f9, ⟨g8, g9⟩⟩)⟩
  exact ⟨hk.1 ▸ hB, hk.2⟩
def fC_knot (c l n : Int) (A : qA) : Int × qA := qlet (fC_hungCell c l A) fun r1 => (if r1 < 0 then (0, A) else (if 0 ≤ n ∧ n ≤ 9999 then qlet (qu A 2 r1 n) fun A8 => (1, A8) else (0, A)))
def sC_knot : qS := fun as A K => ∃ c l n : Int, as = [rf 0, ni c, ni l, ni n] ∧ (iva IC A ∧ ivf JC A) ∧ (∀ A' : qA, iva IC A' → ivf JC A' → frm [2] [] A A' → ∀ r : Int, 0 ≤ r → r ≤ 1 → (r = (fC_knot c l n A).1) → (A' = (fC_knot c l n A).2) → K (some (ni r)) A')
theorem okC_knot : okM LC 5 96 sC_knot := by
  refine qmeth [] false [(137, sC_hungCell), (138, sC_within)] 27 rfl ⟨okC_hungCell.le (by decide), ⟨okC_within.le (by decide), trivial⟩⟩ ?_
  rintro _ A K hA has ⟨c, l, n, rfl, ⟨i0, j0⟩, hK⟩
  have rg_c : rng c := has (ni c) (by simp)
  have rg_l : rng l := has (ni l) (by simp)
  have rg_n : rng n := has (ni n) (by simp)
  have f0 := frm_0 [2] [] A
  have hT : _ = fC_knot c l n A := (fC_knot.eq_1 c l n A).symm
  refine ⟨Nat.le_of_ble_eq_true rfl, [], trivial, ?_⟩
  refine Exists.intro c (Exists.intro l (And.intro rfl (And.intro (And.intro i0 j0) (fun r1 g3 g4 g2 => ?_))))
  replace hT := qlc g2 hT
  clear g2
  refine And.intro (fun h5 => ?_) (fun h5 => ?_)
  · replace hT := (if_pos h5).symm.trans hT
    exact And.intro (by (first | (clear hm hnf; omega) | omega)) (hK _ i0 j0 f0 _ (by (first | (clear hm hnf; omega) | omega)) (by (first | (clear hm hnf; omega) | omega)) (congrArg Prod.fst hT) (congrArg Prod.snd hT))
  · replace hT := (if_neg (Int.not_lt.mpr h5)).symm.trans hT
    refine Exists.intro n (Exists.intro 9999 (And.intro rfl (And.intro (fun h6 => ?_) (fun h6 => ?_))))
    · replace hT := (if_pos h6).symm.trans hT
      refine And.intro (fun h7 => ?_) (fun h7 => by exfalso; omega)
      refine And.intro (by (first | (clear hm hnf; omega) | omega)) (fun A8 e9 => ?_)
      replace hT := qlc e9 hT
      have i10 := iva_st i0 e9 (And.intro (by (first | (clear hm hnf; omega) | omega)) trivial)
      have j11 := ivf_sa j0 e9 rfl
      have f12 := frm_s f0 e9 rfl
      exact And.intro (by (first | (clear hm hnf; omega) | omega)) (hK _ i10 j11 f12 _ (by (first | (clear hm hnf; omega) | omega)) (by (first | (clear hm hnf; omega) | omega)) (congrArg Prod.fst hT) (congrArg Prod.snd hT))
    · replace hT := (if_neg h6).symm.trans hT
      refine And.intro (fun h13 => by exfalso; omega) (fun h13 => ?_)
      exact And.intro (by (first | (clear hm hnf; omega) | omega)) (hK _ i0 j0 f0 _ (by (first | (clear hm hnf; omega) | omega)) (by (first | (clear hm hnf; omega) | omega)) (congrArg Prod.fst hT) (congrArg Prod.snd hT))
theorem pC_knot {c l n : Int} {A : qA} (hA : qokA LC A) (rg_c : rng c) (rg_l : rng l) (rg_n : rng n) (p0 : iva IC A) (p1 : ivf JC A) : qokA LC (fC_knot c l n A).2 ∧ iva IC (fC_knot c l n A).2 ∧ ivf JC (fC_knot c l n A).2 ∧ frm [2] [] A (fC_knot c l n A).2 ∧ (0 ≤ (fC_knot c l n A).1 ∧ (fC_knot c l n A).1 ≤ 1) := by
  obtain ⟨r, B, hB, _, hk⟩ := okM_ex okC_knot (as := [rf 0, ni c, ni l, ni n]) (K := fun _ B => B = (fC_knot c l n A).2 ∧ iva IC (fC_knot c l n A).2 ∧ ivf JC (fC_knot c l n A).2 ∧ frm [2] [] A (fC_knot c l n A).2 ∧ (0 ≤ (fC_knot c l n A).1 ∧ (fC_knot c l n A).1 ≤ 1)) hA (qoks_c (show qok (rf _) from trivial) (qoks_c (rg_c) (qoks_c (rg_l) (qoks_c (rg_n) qoks_n)))) ⟨c, l, n, rfl, ⟨p0, p1⟩, fun A9 i9 j9 f9 r9 g8 g9 x0 x1 => (by rw [← x1]; (try rw [← x0]); exact ⟨rfl, i9, j9, f9, ⟨g8, g9⟩⟩)⟩
  exact ⟨hk.1 ▸ hB, hk.2⟩
def fC_kind (k n r w : Int) (A : qA) : qA := (if 0 ≤ k ∧ k ≤ 5 then (if 0 ≤ n ∧ n ≤ 20 then (if r < 1 then A else (if 200 < r then A else (if 0 ≤ w ∧ w ≤ 99 then qlet (qu A 11 k n) fun A9 => qlet (qu A9 12 k r) fun A14 => qlet (qu A14 13 k w) fun A19 => A19 else A))) else A) else A)
def sC_kind : qS := fun as A K => ∃ k n r w : Int, as = [rf 0, ni k, ni n, ni r, ni w] ∧ (iva IC A ∧ ivf JC A) ∧ (∀ A' : qA, iva IC A' → ivf JC A' → frm [11, 12, 13] [] A A' → (A' = fC_kind k n r w A) → ((0 ≤ k ∧ k ≤ 5) ∧ (0 ≤ n ∧ n ≤ 20) ∧ (1 ≤ r ∧ r ≤ 200) ∧ (0 ≤ w ∧ w ≤ 99) → K (some (ni 1)) A') ∧ (¬ ((0 ≤ k ∧ k ≤ 5) ∧ (0 ≤ n ∧ n ≤ 20) ∧ (1 ≤ r ∧ r ≤ 200) ∧ (0 ≤ w ∧ w ≤ 99)) → K (some (ni 0)) A'))
theorem okC_kind : okM LC 2 97 sC_kind := by
  refine qmeth [] false [(138, sC_within)] 46 rfl ⟨okC_within.le (by decide), trivial⟩ ?_
  rintro _ A K hA has ⟨k, n, r, w, rfl, ⟨i0, j0⟩, hK⟩
  have rg_k : rng k := has (ni k) (by simp)
  have rg_n : rng n := has (ni n) (by simp)
  have rg_r : rng r := has (ni r) (by simp)
  have rg_w : rng w := has (ni w) (by simp)
  have f0 := frm_0 [11, 12, 13] [] A
  have hT : _ = fC_kind k n r w A := (fC_kind.eq_1 k n r w A).symm
  refine ⟨Nat.le_of_ble_eq_true rfl, [], trivial, ?_⟩
  refine Exists.intro k (Exists.intro 5 (And.intro rfl (And.intro (fun h1 => ?_) (fun h1 => ?_))))
  · replace hT := (if_pos h1).symm.trans hT
    refine And.intro (fun h2 => by exfalso; omega) (fun h2 => ?_)
    refine Exists.intro n (Exists.intro 20 (And.intro rfl (And.intro (fun h3 => ?_) (fun h3 => ?_))))
    · replace hT := (if_pos h3).symm.trans hT
      refine And.intro (fun h4 => by exfalso; omega) (fun h4 => ?_)
      refine And.intro (fun h5 => ?_) (fun h5 => ?_)
      · replace hT := (if_pos h5).symm.trans hT
        exact And.intro (by (first | (clear hm hnf; omega) | omega)) ((hK _ i0 j0 f0 hT).2 (by first | omega | (subst_vars; omega) | (simp_all; done) | (simp_all; omega)))
      · replace hT := (if_neg (Int.not_lt.mpr h5)).symm.trans hT
        refine And.intro (fun h6 => ?_) (fun h6 => ?_)
        · replace hT := (if_pos h6).symm.trans hT
          exact And.intro (by (first | (clear hm hnf; omega) | omega)) ((hK _ i0 j0 f0 hT).2 (by first | omega | (subst_vars; omega) | (simp_all; done) | (simp_all; omega)))
        · replace hT := (if_neg (Int.not_lt.mpr h6)).symm.trans hT
          refine Exists.intro w (Exists.intro 99 (And.intro rfl (And.intro (fun h7 => ?_) (fun h7 => ?_))))
          · replace hT := (if_pos h7).symm.trans hT
            refine And.intro (fun h8 => ?_) (fun h8 => by exfalso; omega)
            refine And.intro (by (first | (clear hm hnf; omega) | omega)) (fun A9 e10 => ?_)
            replace hT := qlc e10 hT
            have i11 := iva_st i0 e10 (And.intro (by (first | (clear hm hnf; omega) | omega)) trivial)
            have j12 := ivf_sa j0 e10 rfl
            have f13 := frm_s f0 e10 rfl
            refine And.intro (by (first | (clear hm hnf; omega) | omega)) (fun A14 e15 => ?_)
            replace hT := qlc e15 hT
            have i16 := iva_st i11 e15 (And.intro (by (first | (clear hm hnf; omega) | omega)) trivial)
            have j17 := ivf_sa j12 e15 rfl
            have f18 := frm_s f13 e15 rfl
            refine And.intro (by (first | (clear hm hnf; omega) | omega)) (fun A19 e20 => ?_)
            replace hT := qlc e20 hT
            have i21 := iva_st i16 e20 (And.intro (by (first | (clear hm hnf; omega) | omega)) trivial)
            have j22 := ivf_sa j17 e20 rfl
            have f23 := frm_s f18 e20 rfl
            exact And.intro (by (first | (clear hm hnf; omega) | omega)) ((hK _ i21 j22 f23 hT).1 (by first | omega | (subst_vars; omega) | (simp_all; done) | (simp_all; omega)))
          · replace hT := (if_neg h7).symm.trans hT
            refine And.intro (fun h24 => by exfalso; omega) (fun h24 => ?_)
            exact And.intro (by (first | (clear hm hnf; omega) | omega)) ((hK _ i0 j0 f0 hT).2 (by first | omega | (subst_vars; omega) | (simp_all; done) | (simp_all; omega)))
    · replace hT := (if_neg h3).symm.trans hT
      refine And.intro (fun h25 => ?_) (fun h25 => by exfalso; omega)
      exact And.intro (by (first | (clear hm hnf; omega) | omega)) ((hK _ i0 j0 f0 hT).2 (by first | omega | (subst_vars; omega) | (simp_all; done) | (simp_all; omega)))
  · replace hT := (if_neg h1).symm.trans hT
    refine And.intro (fun h26 => ?_) (fun h26 => by exfalso; omega)
    exact And.intro (by (first | (clear hm hnf; omega) | omega)) ((hK _ i0 j0 f0 hT).2 (by first | omega | (subst_vars; omega) | (simp_all; done) | (simp_all; omega)))
theorem pC_kind {k n r w : Int} {A : qA} (hA : qokA LC A) (rg_k : rng k) (rg_n : rng n) (rg_r : rng r) (rg_w : rng w) (p0 : iva IC A) (p1 : ivf JC A) : qokA LC (fC_kind k n r w A) ∧ iva IC (fC_kind k n r w A) ∧ ivf JC (fC_kind k n r w A) ∧ frm [11, 12, 13] [] A (fC_kind k n r w A) := by
  obtain ⟨r, B, hB, _, hk⟩ := okM_ex okC_kind (as := [rf 0, ni k, ni n, ni r, ni w]) (K := fun _ B => B = (fC_kind k n r w A) ∧ iva IC (fC_kind k n r w A) ∧ ivf JC (fC_kind k n r w A) ∧ frm [11, 12, 13] [] A (fC_kind k n r w A)) hA (qoks_c (show qok (rf _) from trivial) (qoks_c (rg_k) (qoks_c (rg_n) (qoks_c (rg_r) (qoks_c (rg_w) qoks_n))))) ⟨k, n, r, w, rfl, ⟨p0, p1⟩, fun A9 i9 j9 f9 x0 => (by rw [← x0]; exact ⟨fun _ => ⟨rfl, i9, j9, f9⟩, fun _ => ⟨rfl, i9, j9, f9⟩⟩)⟩
  exact ⟨hk.1 ▸ hB, hk.2⟩
def fC_plant (c l k w : Int) (A : qA) : Int × qA := qlet (fC_hungCell c l A) fun r1 => (if r1 < 0 then (0, A) else (if 0 ≤ k ∧ k ≤ 5 then (if 0 ≤ w ∧ w ≤ 200 then (if 0 ≤ r1 ∧ r1 ≤ 47 ∧ HG A r1 ∧ 0 ≤ A 6 r1 ∧ A 6 r1 ≤ 5 then (0, A) else qlet (fC_setCrop r1 k w A) fun A15 => (1, A15)) else (0, A)) else (0, A)))
def sC_plant : qS := fun as A K => ∃ c l k w : Int, as = [rf 0, ni c, ni l, ni k, ni w] ∧ (iva IC A ∧ ivf JC A) ∧ (∀ A' : qA, iva IC A' → ivf JC A' → frm [6, 7, 10] [] A A' → ∀ r : Int, 0 ≤ r → r ≤ 1 → (r = (fC_plant c l k w A).1) → (A' = (fC_plant c l k w A).2) → K (some (ni r)) A')
theorem okC_plant : okM LC 5 98 sC_plant := by
  refine qmeth [] false [(137, sC_hungCell), (138, sC_within), (22, sC_hasCrop), (25, sC_setCrop)] 36 rfl ⟨okC_hungCell.le (by decide), ⟨okC_within.le (by decide), ⟨okC_hasCrop.le (by decide), ⟨okC_setCrop.le (by decide), trivial⟩⟩⟩⟩ ?_
  rintro _ A K hA has ⟨c, l, k, w, rfl, ⟨i0, j0⟩, hK⟩
  have rg_c : rng c := has (ni c) (by simp)
  have rg_l : rng l := has (ni l) (by simp)
  have rg_k : rng k := has (ni k) (by simp)
  have rg_w : rng w := has (ni w) (by simp)
  have f0 := frm_0 [6, 7, 10] [] A
  have hT : _ = fC_plant c l k w A := (fC_plant.eq_1 c l k w A).symm
  refine ⟨Nat.le_of_ble_eq_true rfl, [], trivial, ?_⟩
  refine Exists.intro c (Exists.intro l (And.intro rfl (And.intro (And.intro i0 j0) (fun r1 g3 g4 g2 => ?_))))
  replace hT := qlc g2 hT
  clear g2
  refine And.intro (fun h5 => ?_) (fun h5 => ?_)
  · replace hT := (if_pos h5).symm.trans hT
    exact And.intro (by (first | (clear hm hnf; omega) | omega)) (hK _ i0 j0 f0 _ (by (first | (clear hm hnf; omega) | omega)) (by (first | (clear hm hnf; omega) | omega)) (congrArg Prod.fst hT) (congrArg Prod.snd hT))
  · replace hT := (if_neg (Int.not_lt.mpr h5)).symm.trans hT
    refine Exists.intro k (Exists.intro 5 (And.intro rfl (And.intro (fun h6 => ?_) (fun h6 => ?_))))
    · replace hT := (if_pos h6).symm.trans hT
      refine And.intro (fun h7 => by exfalso; omega) (fun h7 => ?_)
      refine Exists.intro w (Exists.intro 200 (And.intro rfl (And.intro (fun h8 => ?_) (fun h8 => ?_))))
      · replace hT := (if_pos h8).symm.trans hT
        refine And.intro (fun h9 => by exfalso; omega) (fun h9 => ?_)
        refine Exists.intro r1 (And.intro rfl (And.intro (fun h10 => ?_) (fun h10 => ?_)))
        · replace hT := (if_pos h10).symm.trans hT
          obtain ⟨v11, e12⟩ : ∃ v, v = A 6 r1 := ⟨_, rfl⟩
          refine And.intro (fun h13 => by exfalso; omega) (fun h13 => ?_)
          exact And.intro (by (first | (clear hm hnf; omega) | omega)) (hK _ i0 j0 f0 _ (by (first | (clear hm hnf; omega) | omega)) (by (first | (clear hm hnf; omega) | omega)) (congrArg Prod.fst hT) (congrArg Prod.snd hT))
        · replace hT := (if_neg h10).symm.trans hT
          refine And.intro (fun h14 => ?_) (fun h14 => by exfalso; omega)
          refine Exists.intro r1 (Exists.intro k (Exists.intro w (And.intro rfl (And.intro (And.intro i0 (And.intro j0 (And.intro (by (first | (clear hm hnf; omega) | omega)) (And.intro (by (first | (clear hm hnf; omega) | omega)) (And.intro (by (first | (clear hm hnf; omega) | omega)) (And.intro (by (first | (clear hm hnf; omega) | omega)) (And.intro (by (first | (clear hm hnf; omega) | omega)) (by (first | (clear hm hnf; omega) | omega))))))))) (fun A15 i16 j17 f18 g19 => ?_)))))
          replace hT := qlc g19 hT
          have f20 := frm_c f0 f18 rfl
          exact And.intro (by (first | (clear hm hnf; omega) | omega)) (hK _ i16 j17 f20 _ (by (first | (clear hm hnf; omega) | omega)) (by (first | (clear hm hnf; omega) | omega)) (congrArg Prod.fst hT) (congrArg Prod.snd hT))
      · replace hT := (if_neg h8).symm.trans hT
        refine And.intro (fun h21 => ?_) (fun h21 => by exfalso; omega)
        exact And.intro (by (first | (clear hm hnf; omega) | omega)) (hK _ i0 j0 f0 _ (by (first | (clear hm hnf; omega) | omega)) (by (first | (clear hm hnf; omega) | omega)) (congrArg Prod.fst hT) (congrArg Prod.snd hT))
    · replace hT := (if_neg h6).symm.trans hT
      refine And.intro (fun h22 => ?_) (fun h22 => by exfalso; omega)
      exact And.intro (by (first | (clear hm hnf; omega) | omega)) (hK _ i0 j0 f0 _ (by (first | (clear hm hnf; omega) | omega)) (by (first | (clear hm hnf; omega) | omega)) (congrArg Prod.fst hT) (congrArg Prod.snd hT))
theorem pC_plant {c l k w : Int} {A : qA} (hA : qokA LC A) (rg_c : rng c) (rg_l : rng l) (rg_k : rng k) (rg_w : rng w) (p0 : iva IC A) (p1 : ivf JC A) : qokA LC (fC_plant c l k w A).2 ∧ iva IC (fC_plant c l k w A).2 ∧ ivf JC (fC_plant c l k w A).2 ∧ frm [6, 7, 10] [] A (fC_plant c l k w A).2 ∧ (0 ≤ (fC_plant c l k w A).1 ∧ (fC_plant c l k w A).1 ≤ 1) := by
  obtain ⟨r, B, hB, _, hk⟩ := okM_ex okC_plant (as := [rf 0, ni c, ni l, ni k, ni w]) (K := fun _ B => B = (fC_plant c l k w A).2 ∧ iva IC (fC_plant c l k w A).2 ∧ ivf JC (fC_plant c l k w A).2 ∧ frm [6, 7, 10] [] A (fC_plant c l k w A).2 ∧ (0 ≤ (fC_plant c l k w A).1 ∧ (fC_plant c l k w A).1 ≤ 1)) hA (qoks_c (show qok (rf _) from trivial) (qoks_c (rg_c) (qoks_c (rg_l) (qoks_c (rg_k) (qoks_c (rg_w) qoks_n))))) ⟨c, l, k, w, rfl, ⟨p0, p1⟩, fun A9 i9 j9 f9 r9 g8 g9 x0 x1 => (by rw [← x1]; (try rw [← x0]); exact ⟨rfl, i9, j9, f9, ⟨g8, g9⟩⟩)⟩
  exact ⟨hk.1 ▸ hB, hk.2⟩
def fC_valve (c d : Int) (A : qA) : qA := (if 0 ≤ c ∧ c ≤ 7 then (if 0 ≤ d ∧ d ≤ 99 then qlet (qu A 16 c d) fun A5 => A5 else A) else A)
def sC_valve : qS := fun as A K => ∃ c d : Int, as = [rf 0, ni c, ni d] ∧ (iva IC A ∧ ivf JC A) ∧ (∀ A' : qA, iva IC A' → ivf JC A' → frm [16] [] A A' → (A' = fC_valve c d A) → ((0 ≤ c ∧ c ≤ 7) ∧ (0 ≤ d ∧ d ≤ 99) → K (some (ni 1)) A') ∧ (¬ ((0 ≤ c ∧ c ≤ 7) ∧ (0 ≤ d ∧ d ≤ 99)) → K (some (ni 0)) A'))
theorem okC_valve : okM LC 3 99 sC_valve := by
  refine qmeth [] false [(139, sC_isColumn), (138, sC_within)] 23 rfl ⟨okC_isColumn.le (by decide), ⟨okC_within.le (by decide), trivial⟩⟩ ?_
  rintro _ A K hA has ⟨c, d, rfl, ⟨i0, j0⟩, hK⟩
  have rg_c : rng c := has (ni c) (by simp)
  have rg_d : rng d := has (ni d) (by simp)
  have f0 := frm_0 [16] [] A
  have hT : _ = fC_valve c d A := (fC_valve.eq_1 c d A).symm
  refine ⟨Nat.le_of_ble_eq_true rfl, [], trivial, ?_⟩
  refine Exists.intro c (And.intro rfl (And.intro (fun h1 => ?_) (fun h1 => ?_)))
  · replace hT := (if_pos h1).symm.trans hT
    refine And.intro (fun h2 => by exfalso; omega) (fun h2 => ?_)
    refine Exists.intro d (Exists.intro 99 (And.intro rfl (And.intro (fun h3 => ?_) (fun h3 => ?_))))
    · replace hT := (if_pos h3).symm.trans hT
      refine And.intro (fun h4 => ?_) (fun h4 => by exfalso; omega)
      refine And.intro (by (first | (clear hm hnf; omega) | omega)) (fun A5 e6 => ?_)
      replace hT := qlc e6 hT
      have i7 := iva_st i0 e6 (And.intro (by (first | (clear hm hnf; omega) | omega)) trivial)
      have j8 := ivf_sa j0 e6 rfl
      have f9 := frm_s f0 e6 rfl
      exact And.intro (by (first | (clear hm hnf; omega) | omega)) ((hK _ i7 j8 f9 hT).1 (by first | omega | (subst_vars; omega) | (simp_all; done) | (simp_all; omega)))
    · replace hT := (if_neg h3).symm.trans hT
      refine And.intro (fun h10 => by exfalso; omega) (fun h10 => ?_)
      exact And.intro (by (first | (clear hm hnf; omega) | omega)) ((hK _ i0 j0 f0 hT).2 (by first | omega | (subst_vars; omega) | (simp_all; done) | (simp_all; omega)))
  · replace hT := (if_neg h1).symm.trans hT
    refine And.intro (fun h11 => ?_) (fun h11 => by exfalso; omega)
    exact And.intro (by (first | (clear hm hnf; omega) | omega)) ((hK _ i0 j0 f0 hT).2 (by first | omega | (subst_vars; omega) | (simp_all; done) | (simp_all; omega)))
theorem pC_valve {c d : Int} {A : qA} (hA : qokA LC A) (rg_c : rng c) (rg_d : rng d) (p0 : iva IC A) (p1 : ivf JC A) : qokA LC (fC_valve c d A) ∧ iva IC (fC_valve c d A) ∧ ivf JC (fC_valve c d A) ∧ frm [16] [] A (fC_valve c d A) := by
  obtain ⟨r, B, hB, _, hk⟩ := okM_ex okC_valve (as := [rf 0, ni c, ni d]) (K := fun _ B => B = (fC_valve c d A) ∧ iva IC (fC_valve c d A) ∧ ivf JC (fC_valve c d A) ∧ frm [16] [] A (fC_valve c d A)) hA (qoks_c (show qok (rf _) from trivial) (qoks_c (rg_c) (qoks_c (rg_d) qoks_n))) ⟨c, d, rfl, ⟨p0, p1⟩, fun A9 i9 j9 f9 x0 => (by rw [← x0]; exact ⟨fun _ => ⟨rfl, i9, j9, f9⟩, fun _ => ⟨rfl, i9, j9, f9⟩⟩)⟩
  exact ⟨hk.1 ▸ hB, hk.2⟩
def fC_kitchen (c o f : Int) (A : qA) : qA := (if 0 ≤ c ∧ c ≤ 7 then (if 0 ≤ o ∧ o ≤ 7 then (if 0 ≤ f ∧ f ≤ 9999 then qlet (qu A 17 c o) fun A7 => qlet (qu A7 18 c f) fun A12 => A12 else A) else A) else A)
def sC_kitchen : qS := fun as A K => ∃ c o f : Int, as = [rf 0, ni c, ni o, ni f] ∧ (iva IC A ∧ ivf JC A) ∧ (∀ A' : qA, iva IC A' → ivf JC A' → frm [17, 18] [] A A' → (A' = fC_kitchen c o f A) → ((0 ≤ c ∧ c ≤ 7) ∧ (0 ≤ o ∧ o ≤ 7) ∧ (0 ≤ f ∧ f ≤ 9999) → K (some (ni 1)) A') ∧ (¬ ((0 ≤ c ∧ c ≤ 7) ∧ (0 ≤ o ∧ o ≤ 7) ∧ (0 ≤ f ∧ f ≤ 9999)) → K (some (ni 0)) A'))
theorem okC_kitchen : okM LC 3 100 sC_kitchen := by
  refine qmeth [] false [(139, sC_isColumn), (140, sC_isPerson), (138, sC_within)] 32 rfl ⟨okC_isColumn.le (by decide), ⟨okC_isPerson.le (by decide), ⟨okC_within.le (by decide), trivial⟩⟩⟩ ?_
  rintro _ A K hA has ⟨c, o, f, rfl, ⟨i0, j0⟩, hK⟩
  have rg_c : rng c := has (ni c) (by simp)
  have rg_o : rng o := has (ni o) (by simp)
  have rg_f : rng f := has (ni f) (by simp)
  have f0 := frm_0 [17, 18] [] A
  have hT : _ = fC_kitchen c o f A := (fC_kitchen.eq_1 c o f A).symm
  refine ⟨Nat.le_of_ble_eq_true rfl, [], trivial, ?_⟩
  refine Exists.intro c (And.intro rfl (And.intro (fun h1 => ?_) (fun h1 => ?_)))
  · replace hT := (if_pos h1).symm.trans hT
    refine And.intro (fun h2 => by exfalso; omega) (fun h2 => ?_)
    refine Exists.intro o (And.intro rfl (And.intro (fun h3 => ?_) (fun h3 => ?_)))
    · replace hT := (if_pos h3).symm.trans hT
      refine And.intro (fun h4 => by exfalso; omega) (fun h4 => ?_)
      refine Exists.intro f (Exists.intro 9999 (And.intro rfl (And.intro (fun h5 => ?_) (fun h5 => ?_))))
      · replace hT := (if_pos h5).symm.trans hT
        refine And.intro (fun h6 => ?_) (fun h6 => by exfalso; omega)
        refine And.intro (by (first | (clear hm hnf; omega) | omega)) (fun A7 e8 => ?_)
        replace hT := qlc e8 hT
        have i9 := iva_st i0 e8 (And.intro (by (first | (clear hm hnf; omega) | omega)) trivial)
        have j10 := ivf_sa j0 e8 rfl
        have f11 := frm_s f0 e8 rfl
        refine And.intro (by (first | (clear hm hnf; omega) | omega)) (fun A12 e13 => ?_)
        replace hT := qlc e13 hT
        have i14 := iva_st i9 e13 (And.intro (by (first | (clear hm hnf; omega) | omega)) trivial)
        have j15 := ivf_sa j10 e13 rfl
        have f16 := frm_s f11 e13 rfl
        exact And.intro (by (first | (clear hm hnf; omega) | omega)) ((hK _ i14 j15 f16 hT).1 (by first | omega | (subst_vars; omega) | (simp_all; done) | (simp_all; omega)))
      · replace hT := (if_neg h5).symm.trans hT
        refine And.intro (fun h17 => by exfalso; omega) (fun h17 => ?_)
        exact And.intro (by (first | (clear hm hnf; omega) | omega)) ((hK _ i0 j0 f0 hT).2 (by first | omega | (subst_vars; omega) | (simp_all; done) | (simp_all; omega)))
    · replace hT := (if_neg h3).symm.trans hT
      refine And.intro (fun h18 => ?_) (fun h18 => by exfalso; omega)
      exact And.intro (by (first | (clear hm hnf; omega) | omega)) ((hK _ i0 j0 f0 hT).2 (by first | omega | (subst_vars; omega) | (simp_all; done) | (simp_all; omega)))
  · replace hT := (if_neg h1).symm.trans hT
    refine And.intro (fun h19 => ?_) (fun h19 => by exfalso; omega)
    exact And.intro (by (first | (clear hm hnf; omega) | omega)) ((hK _ i0 j0 f0 hT).2 (by first | omega | (subst_vars; omega) | (simp_all; done) | (simp_all; omega)))
theorem pC_kitchen {c o f : Int} {A : qA} (hA : qokA LC A) (rg_c : rng c) (rg_o : rng o) (rg_f : rng f) (p0 : iva IC A) (p1 : ivf JC A) : qokA LC (fC_kitchen c o f A) ∧ iva IC (fC_kitchen c o f A) ∧ ivf JC (fC_kitchen c o f A) ∧ frm [17, 18] [] A (fC_kitchen c o f A) := by
  obtain ⟨r, B, hB, _, hk⟩ := okM_ex okC_kitchen (as := [rf 0, ni c, ni o, ni f]) (K := fun _ B => B = (fC_kitchen c o f A) ∧ iva IC (fC_kitchen c o f A) ∧ ivf JC (fC_kitchen c o f A) ∧ frm [17, 18] [] A (fC_kitchen c o f A)) hA (qoks_c (show qok (rf _) from trivial) (qoks_c (rg_c) (qoks_c (rg_o) (qoks_c (rg_f) qoks_n)))) ⟨c, o, f, rfl, ⟨p0, p1⟩, fun A9 i9 j9 f9 x0 => (by rw [← x0]; exact ⟨fun _ => ⟨rfl, i9, j9, f9⟩, fun _ => ⟨rfl, i9, j9, f9⟩⟩)⟩
  exact ⟨hk.1 ▸ hB, hk.2⟩
def fC_rope (c b w : Int) (A : qA) : qA := (if 0 ≤ c ∧ c ≤ 7 then (if 0 ≤ b ∧ b ≤ 999 then (if 0 ≤ w ∧ w ≤ 99 then qlet (qu A 21 c b) fun A7 => qlet (qu A7 22 c w) fun A12 => A12 else A) else A) else A)
def sC_rope : qS := fun as A K => ∃ c b w : Int, as = [rf 0, ni c, ni b, ni w] ∧ (iva IC A ∧ ivf JC A) ∧ (∀ A' : qA, iva IC A' → ivf JC A' → frm [21, 22] [] A A' → (A' = fC_rope c b w A) → ((0 ≤ c ∧ c ≤ 7) ∧ (0 ≤ b ∧ b ≤ 999) ∧ (0 ≤ w ∧ w ≤ 99) → K (some (ni 1)) A') ∧ (¬ ((0 ≤ c ∧ c ≤ 7) ∧ (0 ≤ b ∧ b ≤ 999) ∧ (0 ≤ w ∧ w ≤ 99)) → K (some (ni 0)) A'))
theorem okC_rope : okM LC 3 101 sC_rope := by
  refine qmeth [] false [(139, sC_isColumn), (138, sC_within)] 33 rfl ⟨okC_isColumn.le (by decide), ⟨okC_within.le (by decide), trivial⟩⟩ ?_
  rintro _ A K hA has ⟨c, b, w, rfl, ⟨i0, j0⟩, hK⟩
  have rg_c : rng c := has (ni c) (by simp)
  have rg_b : rng b := has (ni b) (by simp)
  have rg_w : rng w := has (ni w) (by simp)
  have f0 := frm_0 [21, 22] [] A
  have hT : _ = fC_rope c b w A := (fC_rope.eq_1 c b w A).symm
  refine ⟨Nat.le_of_ble_eq_true rfl, [], trivial, ?_⟩
  refine Exists.intro c (And.intro rfl (And.intro (fun h1 => ?_) (fun h1 => ?_)))
  · replace hT := (if_pos h1).symm.trans hT
    refine And.intro (fun h2 => by exfalso; omega) (fun h2 => ?_)
    refine Exists.intro b (Exists.intro 999 (And.intro rfl (And.intro (fun h3 => ?_) (fun h3 => ?_))))
    · replace hT := (if_pos h3).symm.trans hT
      refine And.intro (fun h4 => by exfalso; omega) (fun h4 => ?_)
      refine Exists.intro w (Exists.intro 99 (And.intro rfl (And.intro (fun h5 => ?_) (fun h5 => ?_))))
      · replace hT := (if_pos h5).symm.trans hT
        refine And.intro (fun h6 => ?_) (fun h6 => by exfalso; omega)
        refine And.intro (by (first | (clear hm hnf; omega) | omega)) (fun A7 e8 => ?_)
        replace hT := qlc e8 hT
        have i9 := iva_st i0 e8 (And.intro (by (first | (clear hm hnf; omega) | omega)) trivial)
        have j10 := ivf_sa j0 e8 rfl
        have f11 := frm_s f0 e8 rfl
        refine And.intro (by (first | (clear hm hnf; omega) | omega)) (fun A12 e13 => ?_)
        replace hT := qlc e13 hT
        have i14 := iva_st i9 e13 (And.intro (by (first | (clear hm hnf; omega) | omega)) trivial)
        have j15 := ivf_sa j10 e13 rfl
        have f16 := frm_s f11 e13 rfl
        exact And.intro (by (first | (clear hm hnf; omega) | omega)) ((hK _ i14 j15 f16 hT).1 (by first | omega | (subst_vars; omega) | (simp_all; done) | (simp_all; omega)))
      · replace hT := (if_neg h5).symm.trans hT
        refine And.intro (fun h17 => by exfalso; omega) (fun h17 => ?_)
        exact And.intro (by (first | (clear hm hnf; omega) | omega)) ((hK _ i0 j0 f0 hT).2 (by first | omega | (subst_vars; omega) | (simp_all; done) | (simp_all; omega)))
    · replace hT := (if_neg h3).symm.trans hT
      refine And.intro (fun h18 => ?_) (fun h18 => by exfalso; omega)
      exact And.intro (by (first | (clear hm hnf; omega) | omega)) ((hK _ i0 j0 f0 hT).2 (by first | omega | (subst_vars; omega) | (simp_all; done) | (simp_all; omega)))
  · replace hT := (if_neg h1).symm.trans hT
    refine And.intro (fun h19 => ?_) (fun h19 => by exfalso; omega)
    exact And.intro (by (first | (clear hm hnf; omega) | omega)) ((hK _ i0 j0 f0 hT).2 (by first | omega | (subst_vars; omega) | (simp_all; done) | (simp_all; omega)))
theorem pC_rope {c b w : Int} {A : qA} (hA : qokA LC A) (rg_c : rng c) (rg_b : rng b) (rg_w : rng w) (p0 : iva IC A) (p1 : ivf JC A) : qokA LC (fC_rope c b w A) ∧ iva IC (fC_rope c b w A) ∧ ivf JC (fC_rope c b w A) ∧ frm [21, 22] [] A (fC_rope c b w A) := by
  obtain ⟨r, B, hB, _, hk⟩ := okM_ex okC_rope (as := [rf 0, ni c, ni b, ni w]) (K := fun _ B => B = (fC_rope c b w A) ∧ iva IC (fC_rope c b w A) ∧ ivf JC (fC_rope c b w A) ∧ frm [21, 22] [] A (fC_rope c b w A)) hA (qoks_c (show qok (rf _) from trivial) (qoks_c (rg_c) (qoks_c (rg_b) (qoks_c (rg_w) qoks_n)))) ⟨c, b, w, rfl, ⟨p0, p1⟩, fun A9 i9 j9 f9 x0 => (by rw [← x0]; exact ⟨fun _ => ⟨rfl, i9, j9, f9⟩, fun _ => ⟨rfl, i9, j9, f9⟩⟩)⟩
  exact ⟨hk.1 ▸ hB, hk.2⟩
def fC_seed (x : Int) (A : qA) : qA := (if 0 ≤ x ∧ x ≤ (qn 65535) then qlet (qu A 0 (fd 11) x) fun A4 => A4 else A)
def sC_seed : qS := fun as A K => ∃ x : Int, as = [rf 0, ni x] ∧ (iva IC A ∧ ivf JC A) ∧ (∀ A' : qA, iva IC A' → ivf JC A' → frm [] [(0, 11)] A A' → (A' = fC_seed x A) → (0 ≤ x ∧ x ≤ 65535 → K (some (ni 1)) A') ∧ (¬ (0 ≤ x ∧ x ≤ 65535) → K (some (ni 0)) A'))
theorem okC_seed : okM LC 2 102 sC_seed := by
  refine qmeth [] false [(138, sC_within)] 17 rfl ⟨okC_within.le (by decide), trivial⟩ ?_
  rintro _ A K hA has ⟨x, rfl, ⟨i0, j0⟩, hK⟩
  have rg_x : rng x := has (ni x) (by simp)
  have f0 := frm_0 [] [(0, 11)] A
  have hT : _ = fC_seed x A := (fC_seed.eq_1 x A).symm
  refine ⟨Nat.le_of_ble_eq_true rfl, [], trivial, ?_⟩
  have k1 : qn 65535 = 65535 := by decide
  refine Exists.intro x (Exists.intro (qn 65535) (And.intro rfl (And.intro (fun h2 => ?_) (fun h2 => ?_))))
  · replace hT := (if_pos h2).symm.trans hT
    refine And.intro (fun h3 => ?_) (fun h3 => by exfalso; omega)
    refine fun A4 e5 => ?_
    replace hT := qlc e5 hT
    have i6 := iva_sf i0 e5 rfl
    have j7 := ivf_st j0 e5 (And.intro (by (first | (clear hm hnf; omega) | omega)) trivial)
    have f8 := frm_sf f0 e5 rfl
    exact And.intro (by (first | (clear hm hnf; omega) | omega)) ((hK _ i6 j7 f8 hT).1 (by first | omega | (subst_vars; omega) | (simp_all; done) | (simp_all; omega)))
  · replace hT := (if_neg h2).symm.trans hT
    refine And.intro (fun h9 => by exfalso; omega) (fun h9 => ?_)
    exact And.intro (by (first | (clear hm hnf; omega) | omega)) ((hK _ i0 j0 f0 hT).2 (by first | omega | (subst_vars; omega) | (simp_all; done) | (simp_all; omega)))
theorem pC_seed {x : Int} {A : qA} (hA : qokA LC A) (rg_x : rng x) (p0 : iva IC A) (p1 : ivf JC A) : qokA LC (fC_seed x A) ∧ iva IC (fC_seed x A) ∧ ivf JC (fC_seed x A) ∧ frm [] [(0, 11)] A (fC_seed x A) := by
  obtain ⟨r, B, hB, _, hk⟩ := okM_ex okC_seed (as := [rf 0, ni x]) (K := fun _ B => B = (fC_seed x A) ∧ iva IC (fC_seed x A) ∧ ivf JC (fC_seed x A) ∧ frm [] [(0, 11)] A (fC_seed x A)) hA (qoks_c (show qok (rf _) from trivial) (qoks_c (rg_x) qoks_n)) ⟨x, rfl, ⟨p0, p1⟩, fun A9 i9 j9 f9 x0 => (by rw [← x0]; exact ⟨fun _ => ⟨rfl, i9, j9, f9⟩, fun _ => ⟨rfl, i9, j9, f9⟩⟩)⟩
  exact ⟨hk.1 ▸ hB, hk.2⟩
def fC_feed (a b c d e : Int) (A : qA) : Int × qA := qlet (A 52 (fd 1)) fun v1 => qlet (v1 + 20) fun v4 => (if 220 < v4 then ((-1), A) else qlet (fC_append a A) fun A7 => qlet (fC_append b A7) fun A13 => qlet (fC_append c A13) fun A19 => qlet (fC_append d A19) fun A25 => qlet (fC_append e A25) fun A31 => qlet (A31 52 (fd 1)) fun v37 => (v37, A31))
def sC_feed : qS := fun as A K => ∃ a b c d e : Int, as = [rf 0, ni a, ni b, ni c, ni d, ni e] ∧ (iva IC A ∧ ivf JC A) ∧ (∀ A' : qA, iva IC A' → ivf JC A' → frm [53] [(52, 1)] A A' → ∀ r : Int, (-1) ≤ r → r ≤ 220 → (r = (fC_feed a b c d e A).1) → (A' = (fC_feed a b c d e A).2) → K (some (ni r)) A')
theorem okC_feed : okM LC 2 103 sC_feed := by
  refine qmeth [] false [(84, sC_append)] 39 rfl ⟨okC_append.le (by decide), trivial⟩ ?_
  rintro _ A K hA has ⟨a, b, c, d, e, rfl, ⟨i0, j0⟩, hK⟩
  have rg_a : rng a := has (ni a) (by simp)
  have rg_b : rng b := has (ni b) (by simp)
  have rg_c : rng c := has (ni c) (by simp)
  have rg_d : rng d := has (ni d) (by simp)
  have rg_e : rng e := has (ni e) (by simp)
  have f0 := frm_0 [53] [(52, 1)] A
  have hT : _ = fC_feed a b c d e A := (fC_feed.eq_1 a b c d e A).symm
  refine ⟨Nat.le_of_ble_eq_true rfl, [], trivial, ?_⟩
  refine fun v1 gv1 e2 => ?_
  replace hT := qlc e2 hT
  have b3 := ivf_at j0 3 rfl
  refine fun v4 e5 => ?_
  replace hT := qlc e5 hT
  refine And.intro (by (first | (clear hm hnf; omega) | omega)) (And.intro (fun h6 => ?_) (fun h6 => ?_))
  · replace hT := (if_neg (Int.not_lt.mpr h6)).symm.trans hT
    refine Exists.intro a (And.intro rfl (And.intro (And.intro i0 j0) (fun A7 i8 j9 f10 g11 => ?_)))
    replace hT := qlc g11 hT
    have f12 := frm_c f0 f10 rfl
    refine Exists.intro b (And.intro rfl (And.intro (And.intro i8 j9) (fun A13 i14 j15 f16 g17 => ?_)))
    replace hT := qlc g17 hT
    have f18 := frm_c f12 f16 rfl
    refine Exists.intro c (And.intro rfl (And.intro (And.intro i14 j15) (fun A19 i20 j21 f22 g23 => ?_)))
    replace hT := qlc g23 hT
    have f24 := frm_c f18 f22 rfl
    refine Exists.intro d (And.intro rfl (And.intro (And.intro i20 j21) (fun A25 i26 j27 f28 g29 => ?_)))
    replace hT := qlc g29 hT
    have f30 := frm_c f24 f28 rfl
    refine Exists.intro e (And.intro rfl (And.intro (And.intro i26 j27) (fun A31 i32 j33 f34 g35 => ?_)))
    replace hT := qlc g35 hT
    have f36 := frm_c f30 f34 rfl
    refine fun v37 gv37 e38 => ?_
    replace hT := qlc e38 hT
    have b39 := ivf_at j33 3 rfl
    exact hK _ i32 j33 f36 _ (by (first | (clear hm hnf; omega) | omega)) (by (first | (clear hm hnf; omega) | omega)) (congrArg Prod.fst hT) (congrArg Prod.snd hT)
  · replace hT := (if_pos h6).symm.trans hT
    exact hK _ i0 j0 f0 _ (by (first | (clear hm hnf; omega) | omega)) (by (first | (clear hm hnf; omega) | omega)) (congrArg Prod.fst hT) (congrArg Prod.snd hT)
theorem pC_feed {a b c d e : Int} {A : qA} (hA : qokA LC A) (rg_a : rng a) (rg_b : rng b) (rg_c : rng c) (rg_d : rng d) (rg_e : rng e) (p0 : iva IC A) (p1 : ivf JC A) : qokA LC (fC_feed a b c d e A).2 ∧ iva IC (fC_feed a b c d e A).2 ∧ ivf JC (fC_feed a b c d e A).2 ∧ frm [53] [(52, 1)] A (fC_feed a b c d e A).2 ∧ ((-1) ≤ (fC_feed a b c d e A).1 ∧ (fC_feed a b c d e A).1 ≤ 220) := by
  obtain ⟨r, B, hB, _, hk⟩ := okM_ex okC_feed (as := [rf 0, ni a, ni b, ni c, ni d, ni e]) (K := fun _ B => B = (fC_feed a b c d e A).2 ∧ iva IC (fC_feed a b c d e A).2 ∧ ivf JC (fC_feed a b c d e A).2 ∧ frm [53] [(52, 1)] A (fC_feed a b c d e A).2 ∧ ((-1) ≤ (fC_feed a b c d e A).1 ∧ (fC_feed a b c d e A).1 ≤ 220)) hA (qoks_c (show qok (rf _) from trivial) (qoks_c (rg_a) (qoks_c (rg_b) (qoks_c (rg_c) (qoks_c (rg_d) (qoks_c (rg_e) qoks_n)))))) ⟨a, b, c, d, e, rfl, ⟨p0, p1⟩, fun A9 i9 j9 f9 r9 g8 g9 x0 x1 => (by rw [← x1]; (try rw [← x0]); exact ⟨rfl, i9, j9, f9, ⟨g8, g9⟩⟩)⟩
  exact ⟨hk.1 ▸ hB, hk.2⟩
def fC_cell (c l w : Int) (A : qA) : Int := (if (0 ≤ c ∧ c ≤ 7) ∧ (0 ≤ l ∧ l ≤ 5) then qlet (c * 6) fun v3 => qlet (v3 + l) fun v5 => (if w = 0 then (if 0 ≤ v5 ∧ v5 ≤ 47 ∧ HG A v5 then 1 else 0) else (if 0 ≤ v5 ∧ v5 ≤ 47 ∧ HG A v5 then qlet (fC_netFact v5 w A) fun r10 => r10 else (-1000))) else (-1000))
def sC_cell : qS := fun as A K => ∃ c l w : Int, as = [rf 0, ni c, ni l, ni w] ∧ (iva IC A ∧ ivf JC A) ∧ (∀ r : Int, rng r → (r = fC_cell c l w A) → K (some (ni r)) A)
theorem okC_cell : okM LC 4 105 sC_cell := by
  refine qmeth [] false [(141, sC_isCell), (21, sC_hangs), (28, sC_netFact)] 42 rfl ⟨okC_isCell.le (by decide), ⟨okC_hangs.le (by decide), ⟨okC_netFact.le (by decide), trivial⟩⟩⟩ ?_
  rintro _ A K hA has ⟨c, l, w, rfl, ⟨i0, j0⟩, hK⟩
  have rg_c : rng c := has (ni c) (by simp)
  have rg_l : rng l := has (ni l) (by simp)
  have rg_w : rng w := has (ni w) (by simp)
  have f0 := frm_0 [] [] A
  have hT : _ = fC_cell c l w A := (fC_cell.eq_1 c l w A).symm
  refine ⟨Nat.le_of_ble_eq_true rfl, [], trivial, ?_⟩
  refine Exists.intro c (Exists.intro l (And.intro rfl (And.intro (fun h1 => ?_) (fun h1 => ?_))))
  · replace hT := (if_pos h1).symm.trans hT
    refine And.intro (fun h2 => ?_) (fun h2 => by exfalso; omega)
    refine fun v3 e4 => ?_
    replace hT := qlc e4 hT
    refine fun v5 e6 => ?_
    replace hT := qlc e6 hT
    refine And.intro (fun h7 => ?_) (fun h7 => ?_)
    · replace hT := (if_neg h7).symm.trans hT
      refine And.intro (by (first | (clear hm hnf; omega) | omega)) (Exists.intro v5 (And.intro rfl (And.intro (fun h8 => ?_) (fun h8 => ?_))))
      · replace hT := (if_pos h8).symm.trans hT
        refine And.intro (fun h9 => by exfalso; omega) (fun h9 => ?_)
        refine And.intro (by (first | (clear hm hnf; omega) | omega)) (Exists.intro v5 (Exists.intro w (And.intro rfl (And.intro (And.intro i0 (And.intro j0 (And.intro (by (first | (clear hm hnf; omega) | omega)) (by (first | (clear hm hnf; omega) | omega))))) (fun r10 g12 g11 => ?_)))))
        replace hT := qlc g11 hT
        clear g11
        exact hK _ (by first | assumption | exact wI_rng _ | exact ⟨by (first | (clear hm hnf; omega) | omega), by (first | (clear hm hnf; omega) | omega)⟩ | exact i_rng _ | (subst_vars; exact i_rng _) | exact (hA _ _).2 rfl) hT
      · replace hT := (if_neg h8).symm.trans hT
        refine And.intro (fun h13 => ?_) (fun h13 => by exfalso; omega)
        exact hK _ (by first | assumption | exact wI_rng _ | exact ⟨by (first | (clear hm hnf; omega) | omega), by (first | (clear hm hnf; omega) | omega)⟩ | exact i_rng _ | (subst_vars; exact i_rng _) | exact (hA _ _).2 rfl) hT
    · replace hT := (if_pos h7).symm.trans hT
      refine And.intro (by (first | (clear hm hnf; omega) | omega)) (Exists.intro v5 (And.intro rfl (And.intro (fun h14 => ?_) (fun h14 => ?_))))
      · replace hT := (if_pos h14).symm.trans hT
        refine And.intro (fun h15 => by exfalso; omega) (fun h15 => ?_)
        exact hK _ (by first | assumption | exact wI_rng _ | exact ⟨by (first | (clear hm hnf; omega) | omega), by (first | (clear hm hnf; omega) | omega)⟩ | exact i_rng _ | (subst_vars; exact i_rng _) | exact (hA _ _).2 rfl) hT
      · replace hT := (if_neg h14).symm.trans hT
        refine And.intro (fun h16 => ?_) (fun h16 => by exfalso; omega)
        exact hK _ (by first | assumption | exact wI_rng _ | exact ⟨by (first | (clear hm hnf; omega) | omega), by (first | (clear hm hnf; omega) | omega)⟩ | exact i_rng _ | (subst_vars; exact i_rng _) | exact (hA _ _).2 rfl) hT
  · replace hT := (if_neg h1).symm.trans hT
    refine And.intro (fun h17 => by exfalso; omega) (fun h17 => ?_)
    exact hK _ (by first | assumption | exact wI_rng _ | exact ⟨by (first | (clear hm hnf; omega) | omega), by (first | (clear hm hnf; omega) | omega)⟩ | exact i_rng _ | (subst_vars; exact i_rng _) | exact (hA _ _).2 rfl) hT
theorem pC_cell {c l w : Int} {A : qA} (hA : qokA LC A) (rg_c : rng c) (rg_l : rng l) (rg_w : rng w) (p0 : iva IC A) (p1 : ivf JC A) : rng (fC_cell c l w A) := by
  obtain ⟨r, B, hB, _, hk⟩ := okM_ex okC_cell (as := [rf 0, ni c, ni l, ni w]) (K := fun _ B => B = A ∧ rng (fC_cell c l w A)) hA (qoks_c (show qok (rf _) from trivial) (qoks_c (rg_c) (qoks_c (rg_l) (qoks_c (rg_w) qoks_n)))) ⟨c, l, w, rfl, ⟨p0, p1⟩, fun r9 g9 x0 => (by rw [← x0]; exact ⟨rfl, g9⟩)⟩
  exact hk.2
def fC_byLaw (c l w : Int) (A : qA) : Int × qA := (if (0 ≤ c ∧ c ≤ 7) ∧ (0 ≤ l ∧ l ≤ 5) then (if 0 ≤ w ∧ w ≤ 2 then qlet (c * 6) fun v7 => qlet (v7 + l) fun v9 => (if 0 ≤ v9 ∧ v9 ≤ 47 ∧ HG A v9 then (if w = 2 then qlp (fC_ageing v9 A) fun r47 A43 => (r47, A43) else (if 0 ≤ v9 ∧ v9 ≤ 47 ∧ HG A v9 ∧ 0 ≤ A 6 v9 ∧ A 6 v9 ≤ 5 then (if w = 0 then qlet (A 9 v9) fun v29 => qlp (fC_growth v9 v29 A) fun r36 A32 => (r36, A32) else qlp (fC_odds v9 A) fun r23 A19 => (r23, A19)) else ((-1), A))) else ((-2), A)) else ((-1), A)) else ((-1), A))
def sC_byLaw : qS := fun as A K => ∃ c l w : Int, as = [rf 0, ni c, ni l, ni w] ∧ (iva IC A ∧ ivf JC A ∧ (LW A) ∧ (KO A)) ∧ (∀ A' : qA, iva IC A' → ivf JC A' → frm [35, 43, 78] [(36, 9), (71, 9)] A A' → ∀ r : Int, (-2) ≤ r → r ≤ 1000 → (r = (fC_byLaw c l w A).1) → (A' = (fC_byLaw c l w A).2) → K (some (ni r)) A')
theorem okC_byLaw : okM LC 6 106 sC_byLaw := by
  refine qmeth [] false [(141, sC_isCell), (138, sC_within), (21, sC_hangs), (22, sC_hasCrop), (5, sC_odds), (4, sC_growth), (6, sC_ageing)] 61 rfl ⟨okC_isCell.le (by decide), ⟨okC_within.le (by decide), ⟨okC_hangs.le (by decide), ⟨okC_hasCrop.le (by decide), ⟨okC_odds.le (by decide), ⟨okC_growth.le (by decide), ⟨okC_ageing.le (by decide), trivial⟩⟩⟩⟩⟩⟩⟩ ?_
  rintro _ A K hA has ⟨c, l, w, rfl, ⟨i0, j0, p1, p2⟩, hK⟩
  have rg_c : rng c := has (ni c) (by simp)
  have rg_l : rng l := has (ni l) (by simp)
  have rg_w : rng w := has (ni w) (by simp)
  have f0 := frm_0 [35, 43, 78] [(36, 9), (71, 9)] A
  have hT : _ = fC_byLaw c l w A := (fC_byLaw.eq_1 c l w A).symm
  refine ⟨Nat.le_of_ble_eq_true rfl, [], trivial, ?_⟩
  refine Exists.intro c (Exists.intro l (And.intro rfl (And.intro (fun h3 => ?_) (fun h3 => ?_))))
  · replace hT := (if_pos h3).symm.trans hT
    refine And.intro (fun h4 => by exfalso; omega) (fun h4 => ?_)
    refine Exists.intro w (Exists.intro 2 (And.intro rfl (And.intro (fun h5 => ?_) (fun h5 => ?_))))
    · replace hT := (if_pos h5).symm.trans hT
      refine And.intro (fun h6 => ?_) (fun h6 => by exfalso; omega)
      refine fun v7 e8 => ?_
      replace hT := qlc e8 hT
      refine fun v9 e10 => ?_
      replace hT := qlc e10 hT
      refine And.intro (by (first | (clear hm hnf; omega) | omega)) (Exists.intro v9 (And.intro rfl (And.intro (fun h11 => ?_) (fun h11 => ?_))))
      · replace hT := (if_pos h11).symm.trans hT
        refine And.intro (fun h12 => ?_) (fun h12 => by exfalso; omega)
        refine And.intro (fun h13 => ?_) (fun h13 => ?_)
        · replace hT := (if_neg h13).symm.trans hT
          refine And.intro (by (first | (clear hm hnf; omega) | omega)) (Exists.intro v9 (And.intro rfl (And.intro (fun h14 => ?_) (fun h14 => ?_))))
          · replace hT := (if_pos h14).symm.trans hT
            obtain ⟨v15, e16⟩ : ∃ v, v = A 6 v9 := ⟨_, rfl⟩
            refine And.intro (fun h17 => ?_) (fun h17 => by exfalso; omega)
            refine And.intro (fun h18 => ?_) (fun h18 => ?_)
            · replace hT := (if_neg h18).symm.trans hT
              refine And.intro (by (first | (clear hm hnf; omega) | omega)) (Exists.intro v9 (And.intro rfl (And.intro (And.intro i0 (And.intro j0 (And.intro (by (first | (clear hm hnf; omega) | omega)) (And.intro (by (first | (clear hm hnf; omega) | omega)) (And.intro (LW_fr p1 f0 rfl) (KO_fr p2 f0 rfl)))))) (fun A19 i20 j21 f22 r23 g26 g27 g24 g25 => ?_))))
              replace hT := qlpc g24 g25 hT
              clear g24 g25
              have f28 := frm_c f0 f22 rfl
              exact hK _ i20 j21 f28 _ (by (first | (clear hm hnf; omega) | omega)) (by (first | (clear hm hnf; omega) | omega)) (congrArg Prod.fst hT) (congrArg Prod.snd hT)
            · replace hT := (if_pos h18).symm.trans hT
              refine And.intro (by (first | (clear hm hnf; omega) | omega)) (fun v29 gv29 e30 => ?_)
              replace hT := qlc e30 hT
              have b31 := iva_at i0 4 rfl (i := v9) (by (first | (clear hm hnf; omega) | omega)) (by (first | (clear hm hnf; omega) | omega))
              refine And.intro (by (first | (clear hm hnf; omega) | omega)) (Exists.intro v9 (Exists.intro v29 (And.intro rfl (And.intro (And.intro i0 (And.intro j0 (And.intro (by (first | (clear hm hnf; omega) | omega)) (And.intro (by (first | (clear hm hnf; omega) | omega)) (And.intro (LW_fr p1 f0 rfl) (KO_fr p2 f0 rfl)))))) (fun A32 i33 j34 f35 r36 g39 g40 g37 g38 => ?_)))))
              replace hT := qlpc g37 g38 hT
              clear g37 g38
              have f41 := frm_c f0 f35 rfl
              exact hK _ i33 j34 f41 _ (by (first | (clear hm hnf; omega) | omega)) (by (first | (clear hm hnf; omega) | omega)) (congrArg Prod.fst hT) (congrArg Prod.snd hT)
          · replace hT := (if_neg h14).symm.trans hT
            refine And.intro (fun h42 => by exfalso; omega) (fun h42 => ?_)
            exact hK _ i0 j0 f0 _ (by (first | (clear hm hnf; omega) | omega)) (by (first | (clear hm hnf; omega) | omega)) (congrArg Prod.fst hT) (congrArg Prod.snd hT)
        · replace hT := (if_pos h13).symm.trans hT
          refine And.intro (by (first | (clear hm hnf; omega) | omega)) (Exists.intro v9 (And.intro rfl (And.intro (And.intro i0 (And.intro j0 (And.intro (by (first | (clear hm hnf; omega) | omega)) (And.intro (by (first | (clear hm hnf; omega) | omega)) (And.intro (LW_fr p1 f0 rfl) (KO_fr p2 f0 rfl)))))) (fun A43 i44 j45 f46 r47 g50 g51 g48 g49 => ?_))))
          replace hT := qlpc g48 g49 hT
          clear g48 g49
          have f52 := frm_c f0 f46 rfl
          exact hK _ i44 j45 f52 _ (by (first | (clear hm hnf; omega) | omega)) (by (first | (clear hm hnf; omega) | omega)) (congrArg Prod.fst hT) (congrArg Prod.snd hT)
      · replace hT := (if_neg h11).symm.trans hT
        refine And.intro (fun h53 => by exfalso; omega) (fun h53 => ?_)
        exact hK _ i0 j0 f0 _ (by (first | (clear hm hnf; omega) | omega)) (by (first | (clear hm hnf; omega) | omega)) (congrArg Prod.fst hT) (congrArg Prod.snd hT)
    · replace hT := (if_neg h5).symm.trans hT
      refine And.intro (fun h54 => by exfalso; omega) (fun h54 => ?_)
      exact hK _ i0 j0 f0 _ (by (first | (clear hm hnf; omega) | omega)) (by (first | (clear hm hnf; omega) | omega)) (congrArg Prod.fst hT) (congrArg Prod.snd hT)
  · replace hT := (if_neg h3).symm.trans hT
    refine And.intro (fun h55 => ?_) (fun h55 => by exfalso; omega)
    exact hK _ i0 j0 f0 _ (by (first | (clear hm hnf; omega) | omega)) (by (first | (clear hm hnf; omega) | omega)) (congrArg Prod.fst hT) (congrArg Prod.snd hT)
theorem pC_byLaw {c l w : Int} {A : qA} (hA : qokA LC A) (rg_c : rng c) (rg_l : rng l) (rg_w : rng w) (p0 : iva IC A) (p1 : ivf JC A) (p2 : LW A) (p3 : KO A) : qokA LC (fC_byLaw c l w A).2 ∧ iva IC (fC_byLaw c l w A).2 ∧ ivf JC (fC_byLaw c l w A).2 ∧ frm [35, 43, 78] [(36, 9), (71, 9)] A (fC_byLaw c l w A).2 ∧ ((-2) ≤ (fC_byLaw c l w A).1 ∧ (fC_byLaw c l w A).1 ≤ 1000) := by
  obtain ⟨r, B, hB, _, hk⟩ := okM_ex okC_byLaw (as := [rf 0, ni c, ni l, ni w]) (K := fun _ B => B = (fC_byLaw c l w A).2 ∧ iva IC (fC_byLaw c l w A).2 ∧ ivf JC (fC_byLaw c l w A).2 ∧ frm [35, 43, 78] [(36, 9), (71, 9)] A (fC_byLaw c l w A).2 ∧ ((-2) ≤ (fC_byLaw c l w A).1 ∧ (fC_byLaw c l w A).1 ≤ 1000)) hA (qoks_c (show qok (rf _) from trivial) (qoks_c (rg_c) (qoks_c (rg_l) (qoks_c (rg_w) qoks_n)))) ⟨c, l, w, rfl, ⟨p0, p1, p2, p3⟩, fun A9 i9 j9 f9 r9 g8 g9 x0 x1 => (by rw [← x1]; (try rw [← x0]); exact ⟨rfl, i9, j9, f9, ⟨g8, g9⟩⟩)⟩
  exact ⟨hk.1 ▸ hB, hk.2⟩
def fC_water (A : qA) : Int × qA := qlp (fC_letWaterFlow A) fun r5 A1 => (r5, A1)
def sC_water : qS := fun as A K => as = [rf 0] ∧ (iva IC A ∧ ivf JC A) ∧ (∀ A' : qA, iva IC A' → ivf JC A' → frm [45, 46, 9, 19] [] A A' → ∀ r : Int, rng r → (r = (fC_water A).1) → (A' = (fC_water A).2) → K (some (ni r)) A')
theorem okC_water : okM LC 6 107 sC_water := by
  refine qmeth [] false [(128, sC_letWaterFlow)] 9 rfl ⟨okC_letWaterFlow.le (by decide), trivial⟩ ?_
  rintro _ A K hA has ⟨rfl, ⟨i0, j0⟩, hK⟩
  have f0 := frm_0 [45, 46, 9, 19] [] A
  have hT : _ = fC_water A := (fC_water.eq_1 A).symm
  refine ⟨Nat.le_of_ble_eq_true rfl, [], trivial, ?_⟩
  refine And.intro rfl (And.intro (And.intro i0 j0) (fun A1 i2 j3 f4 r5 g8 g6 g7 => ?_))
  replace hT := qlpc g6 g7 hT
  clear g6 g7
  have f9 := frm_c f0 f4 rfl
  exact hK _ i2 j3 f9 _ (by first | assumption | exact wI_rng _ | exact ⟨by (first | (clear hm hnf; omega) | omega), by (first | (clear hm hnf; omega) | omega)⟩ | exact i_rng _ | (subst_vars; exact i_rng _) | exact (hA _ _).2 rfl) (congrArg Prod.fst hT) (congrArg Prod.snd hT)
theorem pC_water {A : qA} (hA : qokA LC A) (p0 : iva IC A) (p1 : ivf JC A) : qokA LC (fC_water A).2 ∧ iva IC (fC_water A).2 ∧ ivf JC (fC_water A).2 ∧ frm [45, 46, 9, 19] [] A (fC_water A).2 ∧ rng (fC_water A).1 := by
  obtain ⟨r, B, hB, _, hk⟩ := okM_ex okC_water (as := [rf 0]) (K := fun _ B => B = (fC_water A).2 ∧ iva IC (fC_water A).2 ∧ ivf JC (fC_water A).2 ∧ frm [45, 46, 9, 19] [] A (fC_water A).2 ∧ rng (fC_water A).1) hA (qoks_c (show qok (rf _) from trivial) qoks_n) ⟨rfl, ⟨p0, p1⟩, fun A9 i9 j9 f9 r9 g9 x0 x1 => (by rw [← x1]; (try rw [← x0]); exact ⟨rfl, i9, j9, f9, g9⟩)⟩
  exact ⟨hk.1 ▸ hB, hk.2⟩
def fC_fall (c l : Int) (A : qA) : Int × qA := qlet (fC_hungCell c l A) fun r3 => (if r3 < 0 then ((-1), A) else (if 0 ≤ r3 ∧ r3 ≤ 47 ∧ HG A r3 ∧ 0 ≤ A 6 r3 ∧ A 6 r3 ≤ 5 then qlp (fC_dropCrop r3 1 A) fun r20 A16 => (r20, A16) else ((-1), A)))
def sC_fall : qS := fun as A K => ∃ c l : Int, as = [rf 0, ni c, ni l] ∧ (iva IC A ∧ ivf JC A ∧ (LW A) ∧ (KO A)) ∧ (∀ A' : qA, iva IC A' → ivf JC A' → frm [6, 7, 10, 8, 20, 23, 25, 26, 27, 28, 29, 30, 31, 32, 33, 35, 43, 78] [(24, 9), (24, 10), (36, 9), (71, 9)] A A' → ∀ r : Int, (-1) ≤ r → r ≤ 6 → (r = (fC_fall c l A).1) → (A' = (fC_fall c l A).2) → K (some (ni r)) A')
theorem okC_fall : okM LC 6 108 sC_fall := by
  refine qmeth [] false [(137, sC_hungCell), (22, sC_hasCrop), (134, sC_dropCrop)] 25 rfl ⟨okC_hungCell.le (by decide), ⟨okC_hasCrop.le (by decide), ⟨okC_dropCrop.le (by decide), trivial⟩⟩⟩ ?_
  rintro _ A K hA has ⟨c, l, rfl, ⟨i0, j0, p1, p2⟩, hK⟩
  have rg_c : rng c := has (ni c) (by simp)
  have rg_l : rng l := has (ni l) (by simp)
  have f0 := frm_0 [6, 7, 10, 8, 20, 23, 25, 26, 27, 28, 29, 30, 31, 32, 33, 35, 43, 78] [(24, 9), (24, 10), (36, 9), (71, 9)] A
  have hT : _ = fC_fall c l A := (fC_fall.eq_1 c l A).symm
  refine ⟨Nat.le_of_ble_eq_true rfl, [], trivial, ?_⟩
  refine Exists.intro c (Exists.intro l (And.intro rfl (And.intro (And.intro i0 j0) (fun r3 g5 g6 g4 => ?_))))
  replace hT := qlc g4 hT
  clear g4
  refine And.intro (fun h7 => ?_) (fun h7 => ?_)
  · replace hT := (if_pos h7).symm.trans hT
    exact hK _ i0 j0 f0 _ (by (first | (clear hm hnf; omega) | omega)) (by (first | (clear hm hnf; omega) | omega)) (congrArg Prod.fst hT) (congrArg Prod.snd hT)
  · replace hT := (if_neg (Int.not_lt.mpr h7)).symm.trans hT
    refine Exists.intro r3 (And.intro rfl (And.intro (fun h8 => ?_) (fun h8 => ?_)))
    · replace hT := (if_pos h8).symm.trans hT
      obtain ⟨v9, e10⟩ : ∃ v, v = A 6 r3 := ⟨_, rfl⟩
      refine And.intro (fun h11 => ?_) (fun h11 => by exfalso; omega)
      obtain ⟨v12, e13⟩ : ∃ v, v = A 6 r3 := ⟨_, rfl⟩
      have b14 := iva_at i0 2 rfl (i := r3) (by (first | (clear hm hnf; omega) | omega)) (by (first | (clear hm hnf; omega) | omega))
      have q15 : v9 = v12 := (e13.trans e10.symm).symm
      subst q15
      refine Exists.intro r3 (Exists.intro 1 (And.intro rfl (And.intro (And.intro i0 (And.intro j0 (And.intro (by (first | (clear hm hnf; omega) | omega)) (And.intro (by (first | (clear hm hnf; omega) | omega)) (And.intro (by (first | (clear hm hnf; omega) | omega)) (And.intro (by (first | (clear hm hnf; omega) | omega)) (And.intro (by rw [← e13]; omega) (And.intro (LW_fr p1 f0 rfl) (KO_fr p2 f0 rfl))))))))) (fun A16 i17 j18 f19 r20 g23 g24 g21 g22 => ?_))))
      replace hT := qlpc g21 g22 hT
      clear g21 g22
      have f25 := frm_c f0 f19 rfl
      exact hK _ i17 j18 f25 _ (by (first | (clear hm hnf; omega) | omega)) (by (first | (clear hm hnf; omega) | omega)) (congrArg Prod.fst hT) (congrArg Prod.snd hT)
    · replace hT := (if_neg h8).symm.trans hT
      refine And.intro (fun h26 => by exfalso; omega) (fun h26 => ?_)
      exact hK _ i0 j0 f0 _ (by (first | (clear hm hnf; omega) | omega)) (by (first | (clear hm hnf; omega) | omega)) (congrArg Prod.fst hT) (congrArg Prod.snd hT)
theorem pC_fall {c l : Int} {A : qA} (hA : qokA LC A) (rg_c : rng c) (rg_l : rng l) (p0 : iva IC A) (p1 : ivf JC A) (p2 : LW A) (p3 : KO A) : qokA LC (fC_fall c l A).2 ∧ iva IC (fC_fall c l A).2 ∧ ivf JC (fC_fall c l A).2 ∧ frm [6, 7, 10, 8, 20, 23, 25, 26, 27, 28, 29, 30, 31, 32, 33, 35, 43, 78] [(24, 9), (24, 10), (36, 9), (71, 9)] A (fC_fall c l A).2 ∧ ((-1) ≤ (fC_fall c l A).1 ∧ (fC_fall c l A).1 ≤ 6) := by
  obtain ⟨r, B, hB, _, hk⟩ := okM_ex okC_fall (as := [rf 0, ni c, ni l]) (K := fun _ B => B = (fC_fall c l A).2 ∧ iva IC (fC_fall c l A).2 ∧ ivf JC (fC_fall c l A).2 ∧ frm [6, 7, 10, 8, 20, 23, 25, 26, 27, 28, 29, 30, 31, 32, 33, 35, 43, 78] [(24, 9), (24, 10), (36, 9), (71, 9)] A (fC_fall c l A).2 ∧ ((-1) ≤ (fC_fall c l A).1 ∧ (fC_fall c l A).1 ≤ 6)) hA (qoks_c (show qok (rf _) from trivial) (qoks_c (rg_c) (qoks_c (rg_l) qoks_n))) ⟨c, l, rfl, ⟨p0, p1, p2, p3⟩, fun A9 i9 j9 f9 r9 g8 g9 x0 x1 => (by rw [← x1]; (try rw [← x0]); exact ⟨rfl, i9, j9, f9, ⟨g8, g9⟩⟩)⟩
  exact ⟨hk.1 ▸ hB, hk.2⟩
def fC_go (A : qA) : Int × qA := qlp (fC_letKnotsGo A) fun r7 A3 => (r7, A3)
def sC_go : qS := fun as A K => as = [rf 0] ∧ (iva IC A ∧ ivf JC A ∧ (LW A) ∧ (KO A)) ∧ (∀ A' : qA, iva IC A' → ivf JC A' → frm [6, 7, 10, 8, 20, 23, 25, 26, 27, 28, 29, 30, 31, 32, 33, 35, 43, 78, 3, 2] [(24, 9), (24, 10), (36, 9), (71, 9), (1, 0)] A A' → ∀ r : Int, rng r → (r = (fC_go A).1) → (A' = (fC_go A).2) → K (some (ni r)) A')
theorem okC_go : okM LC 8 109 sC_go := by
  refine qmeth [] false [(132, sC_letKnotsGo)] 9 rfl ⟨okC_letKnotsGo.le (by decide), trivial⟩ ?_
  rintro _ A K hA has ⟨rfl, ⟨i0, j0, p1, p2⟩, hK⟩
  have f0 := frm_0 [6, 7, 10, 8, 20, 23, 25, 26, 27, 28, 29, 30, 31, 32, 33, 35, 43, 78, 3, 2] [(24, 9), (24, 10), (36, 9), (71, 9), (1, 0)] A
  have hT : _ = fC_go A := (fC_go.eq_1 A).symm
  refine ⟨Nat.le_of_ble_eq_true rfl, [], trivial, ?_⟩
  refine And.intro rfl (And.intro (And.intro i0 (And.intro j0 (And.intro (LW_fr p1 f0 rfl) (KO_fr p2 f0 rfl)))) (fun A3 i4 j5 f6 r7 g10 g8 g9 => ?_))
  replace hT := qlpc g8 g9 hT
  clear g8 g9
  have f11 := frm_c f0 f6 rfl
  exact hK _ i4 j5 f11 _ (by first | assumption | exact wI_rng _ | exact ⟨by (first | (clear hm hnf; omega) | omega), by (first | (clear hm hnf; omega) | omega)⟩ | exact i_rng _ | (subst_vars; exact i_rng _) | exact (hA _ _).2 rfl) (congrArg Prod.fst hT) (congrArg Prod.snd hT)
theorem pC_go {A : qA} (hA : qokA LC A) (p0 : iva IC A) (p1 : ivf JC A) (p2 : LW A) (p3 : KO A) : qokA LC (fC_go A).2 ∧ iva IC (fC_go A).2 ∧ ivf JC (fC_go A).2 ∧ frm [6, 7, 10, 8, 20, 23, 25, 26, 27, 28, 29, 30, 31, 32, 33, 35, 43, 78, 3, 2] [(24, 9), (24, 10), (36, 9), (71, 9), (1, 0)] A (fC_go A).2 ∧ rng (fC_go A).1 := by
  obtain ⟨r, B, hB, _, hk⟩ := okM_ex okC_go (as := [rf 0]) (K := fun _ B => B = (fC_go A).2 ∧ iva IC (fC_go A).2 ∧ ivf JC (fC_go A).2 ∧ frm [6, 7, 10, 8, 20, 23, 25, 26, 27, 28, 29, 30, 31, 32, 33, 35, 43, 78, 3, 2] [(24, 9), (24, 10), (36, 9), (71, 9), (1, 0)] A (fC_go A).2 ∧ rng (fC_go A).1) hA (qoks_c (show qok (rf _) from trivial) qoks_n) ⟨rfl, ⟨p0, p1, p2, p3⟩, fun A9 i9 j9 f9 r9 g9 x0 x1 => (by rw [← x1]; (try rw [← x0]); exact ⟨rfl, i9, j9, f9, g9⟩)⟩
  exact ⟨hk.1 ▸ hB, hk.2⟩
def fC_day (A : qA) : Int × qA := qlet (A 24 (fd 10)) fun v3 => qlp (fC_letWaterFlow A) fun r9 A5 => qlet (fC_letCropsGrow A5) fun A14 => qlet (fC_letCropsFall A14) fun A20 => qlet (fC_letKnotsAge A20) fun A26 => qlp (fC_letKnotsGo A26) fun r36 A32 => qlet (A32 15 (fd 8)) fun v41 => qlet (v41 + 1) fun v43 => qlet (qu A32 15 (fd 8) (wI v43)) fun A45 => qlet (A45 24 (fd 10)) fun v51 => qlet (v51 - v3) fun v53 => ((wI v53), A45)
def sC_day : qS := fun as A K => as = [rf 0] ∧ (iva IC A ∧ ivf JC A ∧ (LW A) ∧ (KO A)) ∧ (∀ A' : qA, iva IC A' → ivf JC A' → frm [6, 7, 10, 8, 20, 23, 25, 26, 27, 28, 29, 30, 31, 32, 33, 35, 43, 78, 3, 2, 45, 46, 9, 19] [(24, 9), (24, 10), (36, 9), (71, 9), (1, 0), (0, 11), (15, 8)] A A' → ∀ r : Int, rng r → (r = (fC_day A).1) → (A' = (fC_day A).2) → K (some (ni r)) A')
theorem okC_day : okM LC 8 110 sC_day := by
  refine qmeth [] true [(128, sC_letWaterFlow), (129, sC_letCropsGrow), (130, sC_letCropsFall), (131, sC_letKnotsAge), (132, sC_letKnotsGo)] 35 rfl ⟨okC_letWaterFlow.le (by decide), ⟨okC_letCropsGrow.le (by decide), ⟨okC_letCropsFall.le (by decide), ⟨okC_letKnotsAge.le (by decide), ⟨okC_letKnotsGo.le (by decide), trivial⟩⟩⟩⟩⟩ ?_
  rintro _ A K hA has ⟨rfl, ⟨i0, j0, p1, p2⟩, hK⟩
  have f0 := frm_0 [6, 7, 10, 8, 20, 23, 25, 26, 27, 28, 29, 30, 31, 32, 33, 35, 43, 78, 3, 2, 45, 46, 9, 19] [(24, 9), (24, 10), (36, 9), (71, 9), (1, 0), (0, 11), (15, 8)] A
  have hT : _ = fC_day A := (fC_day.eq_1 A).symm
  refine ⟨Nat.le_of_ble_eq_true rfl, [], trivial, ?_⟩
  refine fun v3 gv3 e4 => ?_
  replace hT := qlc e4 hT
  refine And.intro rfl (And.intro (And.intro i0 j0) (fun A5 i6 j7 f8 r9 g12 g10 g11 => ?_))
  replace hT := qlpc g10 g11 hT
  clear g10 g11
  have f13 := frm_c f0 f8 rfl
  refine And.intro rfl (And.intro (And.intro i6 (And.intro j7 (And.intro (LW_fr p1 f13 rfl) (KO_fr p2 f13 rfl)))) (fun A14 i15 j16 f17 g18 => ?_))
  replace hT := qlc g18 hT
  have f19 := frm_c f13 f17 rfl
  refine And.intro rfl (And.intro (And.intro i15 (And.intro j16 (And.intro (LW_fr p1 f19 rfl) (KO_fr p2 f19 rfl)))) (fun A20 i21 j22 f23 g24 => ?_))
  replace hT := qlc g24 hT
  have f25 := frm_c f19 f23 rfl
  refine And.intro rfl (And.intro (And.intro i21 (And.intro j22 (And.intro (LW_fr p1 f25 rfl) (KO_fr p2 f25 rfl)))) (fun A26 i27 j28 f29 g30 => ?_))
  replace hT := qlc g30 hT
  have f31 := frm_c f25 f29 rfl
  refine And.intro rfl (And.intro (And.intro i27 (And.intro j28 (And.intro (LW_fr p1 f31 rfl) (KO_fr p2 f31 rfl)))) (fun A32 i33 j34 f35 r36 g39 g37 g38 => ?_))
  replace hT := qlpc g37 g38 hT
  clear g37 g38
  have f40 := frm_c f31 f35 rfl
  refine fun v41 gv41 e42 => ?_
  replace hT := qlc e42 hT
  refine fun v43 e44 => ?_
  replace hT := qlc e44 hT
  have w47 := wI_rng v43
  refine fun A45 e46 => ?_
  replace hT := qlc e46 hT
  have i48 := iva_sf i33 e46 rfl
  have j49 := ivf_st j34 e46 trivial
  have f50 := frm_sf f40 e46 rfl
  refine fun v51 gv51 e52 => ?_
  replace hT := qlc e52 hT
  refine fun v53 e54 => ?_
  replace hT := qlc e54 hT
  have w55 := wI_rng v53
  exact hK _ i48 j49 f50 _ (by first | assumption | exact wI_rng _ | exact ⟨by (first | (clear hm hnf; omega) | omega), by (first | (clear hm hnf; omega) | omega)⟩ | exact i_rng _ | (subst_vars; exact i_rng _) | exact (hA _ _).2 rfl) (congrArg Prod.fst hT) (congrArg Prod.snd hT)
theorem pC_day {A : qA} (hA : qokA LC A) (p0 : iva IC A) (p1 : ivf JC A) (p2 : LW A) (p3 : KO A) : qokA LC (fC_day A).2 ∧ iva IC (fC_day A).2 ∧ ivf JC (fC_day A).2 ∧ frm [6, 7, 10, 8, 20, 23, 25, 26, 27, 28, 29, 30, 31, 32, 33, 35, 43, 78, 3, 2, 45, 46, 9, 19] [(24, 9), (24, 10), (36, 9), (71, 9), (1, 0), (0, 11), (15, 8)] A (fC_day A).2 ∧ rng (fC_day A).1 := by
  obtain ⟨r, B, hB, _, hk⟩ := okM_ex okC_day (as := [rf 0]) (K := fun _ B => B = (fC_day A).2 ∧ iva IC (fC_day A).2 ∧ ivf JC (fC_day A).2 ∧ frm [6, 7, 10, 8, 20, 23, 25, 26, 27, 28, 29, 30, 31, 32, 33, 35, 43, 78, 3, 2, 45, 46, 9, 19] [(24, 9), (24, 10), (36, 9), (71, 9), (1, 0), (0, 11), (15, 8)] A (fC_day A).2 ∧ rng (fC_day A).1) hA (qoks_c (show qok (rf _) from trivial) qoks_n) ⟨rfl, ⟨p0, p1, p2, p3⟩, fun A9 i9 j9 f9 r9 g9 x0 x1 => (by rw [← x1]; (try rw [← x0]); exact ⟨rfl, i9, j9, f9, g9⟩)⟩
  exact ⟨hk.1 ▸ hB, hk.2⟩
def fC_torn (c l : Int) (A : qA) : Int × qA := qlet (fC_hungCell c l A) fun r1 => (if r1 < 0 then ((qnL 18446744073709551615), A) else qlp (fC_wouldGo r1 A) fun r10 A6 => (r10, A6))
def sC_torn : qS := fun as A K => ∃ c l : Int, as = [rf 0, ni c, ni l] ∧ (iva IC A ∧ ivf JC A) ∧ (∀ A' : qA, iva IC A' → ivf JC A' → frm [2, 14] [(1, 0)] A A' → ∀ r : Int, rngL r → (r = (fC_torn c l A).1) → (A' = (fC_torn c l A).2) → K (some (nl r)) A')
theorem okC_torn : okM LC 5 111 sC_torn := by
  refine qmeth [] false [(137, sC_hungCell), (34, sC_wouldGo)] 20 rfl ⟨okC_hungCell.le (by decide), ⟨okC_wouldGo.le (by decide), trivial⟩⟩ ?_
  rintro _ A K hA has ⟨c, l, rfl, ⟨i0, j0⟩, hK⟩
  have rg_c : rng c := has (ni c) (by simp)
  have rg_l : rng l := has (ni l) (by simp)
  have f0 := frm_0 [2, 14] [(1, 0)] A
  have hT : _ = fC_torn c l A := (fC_torn.eq_1 c l A).symm
  refine ⟨Nat.le_of_ble_eq_true rfl, [], trivial, ?_⟩
  refine Exists.intro c (Exists.intro l (And.intro rfl (And.intro (And.intro i0 j0) (fun r1 g3 g4 g2 => ?_))))
  replace hT := qlc g2 hT
  clear g2
  refine And.intro (fun h5 => ?_) (fun h5 => ?_)
  · replace hT := (if_neg (Int.not_lt.mpr h5)).symm.trans hT
    refine Exists.intro r1 (And.intro rfl (And.intro (And.intro i0 (And.intro j0 (And.intro (by (first | (clear hm hnf; omega) | omega)) (by (first | (clear hm hnf; omega) | omega))))) (fun A6 i7 j8 f9 r10 g13 g11 g12 => ?_)))
    replace hT := qlpc g11 g12 hT
    clear g11 g12
    have f14 := frm_c f0 f9 rfl
    exact hK _ i7 j8 f14 _ (by first | assumption | omega | (subst_vars; exact l_rng _) | (subst_vars; exact (hB _ _).1) | exact qnL_rng (by decide)) (congrArg Prod.fst hT) (congrArg Prod.snd hT)
  · replace hT := (if_pos h5).symm.trans hT
    exact hK _ i0 j0 f0 _ (by first | assumption | omega | (subst_vars; exact l_rng _) | (subst_vars; exact (hB _ _).1) | exact qnL_rng (by decide)) (congrArg Prod.fst hT) (congrArg Prod.snd hT)
theorem pC_torn {c l : Int} {A : qA} (hA : qokA LC A) (rg_c : rng c) (rg_l : rng l) (p0 : iva IC A) (p1 : ivf JC A) : qokA LC (fC_torn c l A).2 ∧ iva IC (fC_torn c l A).2 ∧ ivf JC (fC_torn c l A).2 ∧ frm [2, 14] [(1, 0)] A (fC_torn c l A).2 ∧ rngL (fC_torn c l A).1 := by
  obtain ⟨r, B, hB, _, hk⟩ := okM_ex okC_torn (as := [rf 0, ni c, ni l]) (K := fun _ B => B = (fC_torn c l A).2 ∧ iva IC (fC_torn c l A).2 ∧ ivf JC (fC_torn c l A).2 ∧ frm [2, 14] [(1, 0)] A (fC_torn c l A).2 ∧ rngL (fC_torn c l A).1) hA (qoks_c (show qok (rf _) from trivial) (qoks_c (rg_c) (qoks_c (rg_l) qoks_n))) ⟨c, l, rfl, ⟨p0, p1⟩, fun A9 i9 j9 f9 r9 g9 x0 x1 => (by rw [← x1]; (try rw [← x0]); exact ⟨rfl, i9, j9, f9, g9⟩)⟩
  exact ⟨hk.1 ▸ hB, hk.2⟩
def fC_fallIs (i w : Int) (A : qA) : Int := (if 0 ≤ i ∧ i ≤ 59 ∧ i < A 24 (fd 9) then qlet (fC_fallFact i w A) fun r3 => r3 else (-1000))
def sC_fallIs : qS := fun as A K => ∃ i w : Int, as = [rf 0, ni i, ni w] ∧ (iva IC A ∧ ivf JC A) ∧ (∀ r : Int, rng r → (r = fC_fallIs i w A) → K (some (ni r)) A)
theorem okC_fallIs : okM LC 2 112 sC_fallIs := by
  refine qmeth [] false [(17, sC_isWritten), (18, sC_fallFact)] 19 rfl ⟨okC_isWritten.le (by decide), ⟨okC_fallFact.le (by decide), trivial⟩⟩ ?_
  rintro _ A K hA has ⟨i, w, rfl, ⟨i0, j0⟩, hK⟩
  have rg_i : rng i := has (ni i) (by simp)
  have rg_w : rng w := has (ni w) (by simp)
  have f0 := frm_0 [] [] A
  have hT : _ = fC_fallIs i w A := (fC_fallIs.eq_1 i w A).symm
  refine ⟨Nat.le_of_ble_eq_true rfl, [], trivial, ?_⟩
  refine Exists.intro i (And.intro rfl (And.intro (And.intro i0 j0) (And.intro (fun h1 => ?_) (fun h1 => ?_))))
  · replace hT := (if_pos h1).symm.trans hT
    refine And.intro (fun h2 => by exfalso; omega) (fun h2 => ?_)
    refine Exists.intro i (Exists.intro w (And.intro rfl (And.intro (And.intro i0 (And.intro j0 (And.intro (by (first | (clear hm hnf; omega) | omega)) (by (first | (clear hm hnf; omega) | omega))))) (fun r3 g5 g4 => ?_))))
    replace hT := qlc g4 hT
    clear g4
    exact hK _ (by first | assumption | exact wI_rng _ | exact ⟨by (first | (clear hm hnf; omega) | omega), by (first | (clear hm hnf; omega) | omega)⟩ | exact i_rng _ | (subst_vars; exact i_rng _) | exact (hA _ _).2 rfl) hT
  · replace hT := (if_neg h1).symm.trans hT
    refine And.intro (fun h6 => ?_) (fun h6 => by exfalso; omega)
    exact hK _ (by first | assumption | exact wI_rng _ | exact ⟨by (first | (clear hm hnf; omega) | omega), by (first | (clear hm hnf; omega) | omega)⟩ | exact i_rng _ | (subst_vars; exact i_rng _) | exact (hA _ _).2 rfl) hT
theorem pC_fallIs {i w : Int} {A : qA} (hA : qokA LC A) (rg_i : rng i) (rg_w : rng w) (p0 : iva IC A) (p1 : ivf JC A) : rng (fC_fallIs i w A) := by
  obtain ⟨r, B, hB, _, hk⟩ := okM_ex okC_fallIs (as := [rf 0, ni i, ni w]) (K := fun _ B => B = A ∧ rng (fC_fallIs i w A)) hA (qoks_c (show qok (rf _) from trivial) (qoks_c (rg_i) (qoks_c (rg_w) qoks_n))) ⟨i, w, rfl, ⟨p0, p1⟩, fun r9 g9 x0 => (by rw [← x0]; exact ⟨rfl, g9⟩)⟩
  exact hk.2
def fC_claimed (i p : Int) (A : qA) : Int × qA := (if 0 ≤ i ∧ i ≤ 59 ∧ i < A 24 (fd 9) then (if p < 1 then ((-1), A) else (if p < 256 then qlp (fC_claimantOf i p A) fun r11 A7 => (r11, A7) else ((-1), A))) else ((-1), A))
def sC_claimed : qS := fun as A K => ∃ i p : Int, as = [rf 0, ni i, ni p] ∧ (iva IC A ∧ ivf JC A ∧ (LW A) ∧ (KO A)) ∧ (∀ A' : qA, iva IC A' → ivf JC A' → frm [35, 43, 78] [(36, 9), (71, 9)] A A' → ∀ r : Int, (-2) ≤ r → r ≤ 7 → (r = (fC_claimed i p A).1) → (A' = (fC_claimed i p A).2) → K (some (ni r)) A')
theorem okC_claimed : okM LC 6 113 sC_claimed := by
  refine qmeth [] false [(17, sC_isWritten), (136, sC_claimantOf)] 24 rfl ⟨okC_isWritten.le (by decide), ⟨okC_claimantOf.le (by decide), trivial⟩⟩ ?_
  rintro _ A K hA has ⟨i, p, rfl, ⟨i0, j0, p1, p2⟩, hK⟩
  have rg_i : rng i := has (ni i) (by simp)
  have rg_p : rng p := has (ni p) (by simp)
  have f0 := frm_0 [35, 43, 78] [(36, 9), (71, 9)] A
  have hT : _ = fC_claimed i p A := (fC_claimed.eq_1 i p A).symm
  refine ⟨Nat.le_of_ble_eq_true rfl, [], trivial, ?_⟩
  refine Exists.intro i (And.intro rfl (And.intro (And.intro i0 j0) (And.intro (fun h3 => ?_) (fun h3 => ?_))))
  · replace hT := (if_pos h3).symm.trans hT
    refine And.intro (fun h4 => by exfalso; omega) (fun h4 => ?_)
    refine And.intro (fun h5 => ?_) (fun h5 => ?_)
    · replace hT := (if_pos h5).symm.trans hT
      exact hK _ i0 j0 f0 _ (by (first | (clear hm hnf; omega) | omega)) (by (first | (clear hm hnf; omega) | omega)) (congrArg Prod.fst hT) (congrArg Prod.snd hT)
    · replace hT := (if_neg (Int.not_lt.mpr h5)).symm.trans hT
      refine And.intro (fun h6 => ?_) (fun h6 => ?_)
      · replace hT := (if_pos h6).symm.trans hT
        refine Exists.intro i (Exists.intro p (And.intro rfl (And.intro (And.intro i0 (And.intro j0 (And.intro (by (first | (clear hm hnf; omega) | omega)) (And.intro (by (first | (clear hm hnf; omega) | omega)) (And.intro (LW_fr p1 f0 rfl) (KO_fr p2 f0 rfl)))))) (fun A7 i8 j9 f10 r11 g14 g15 g12 g13 => ?_))))
        replace hT := qlpc g12 g13 hT
        clear g12 g13
        have f16 := frm_c f0 f10 rfl
        exact hK _ i8 j9 f16 _ (by (first | (clear hm hnf; omega) | omega)) (by (first | (clear hm hnf; omega) | omega)) (congrArg Prod.fst hT) (congrArg Prod.snd hT)
      · replace hT := (if_neg (Int.not_lt.mpr h6)).symm.trans hT
        exact hK _ i0 j0 f0 _ (by (first | (clear hm hnf; omega) | omega)) (by (first | (clear hm hnf; omega) | omega)) (congrArg Prod.fst hT) (congrArg Prod.snd hT)
  · replace hT := (if_neg h3).symm.trans hT
    refine And.intro (fun h17 => ?_) (fun h17 => by exfalso; omega)
    exact hK _ i0 j0 f0 _ (by (first | (clear hm hnf; omega) | omega)) (by (first | (clear hm hnf; omega) | omega)) (congrArg Prod.fst hT) (congrArg Prod.snd hT)
theorem pC_claimed {i p : Int} {A : qA} (hA : qokA LC A) (rg_i : rng i) (rg_p : rng p) (p0 : iva IC A) (p1 : ivf JC A) (p2 : LW A) (p3 : KO A) : qokA LC (fC_claimed i p A).2 ∧ iva IC (fC_claimed i p A).2 ∧ ivf JC (fC_claimed i p A).2 ∧ frm [35, 43, 78] [(36, 9), (71, 9)] A (fC_claimed i p A).2 ∧ ((-2) ≤ (fC_claimed i p A).1 ∧ (fC_claimed i p A).1 ≤ 7) := by
  obtain ⟨r, B, hB, _, hk⟩ := okM_ex okC_claimed (as := [rf 0, ni i, ni p]) (K := fun _ B => B = (fC_claimed i p A).2 ∧ iva IC (fC_claimed i p A).2 ∧ ivf JC (fC_claimed i p A).2 ∧ frm [35, 43, 78] [(36, 9), (71, 9)] A (fC_claimed i p A).2 ∧ ((-2) ≤ (fC_claimed i p A).1 ∧ (fC_claimed i p A).1 ≤ 7)) hA (qoks_c (show qok (rf _) from trivial) (qoks_c (rg_i) (qoks_c (rg_p) qoks_n))) ⟨i, p, rfl, ⟨p0, p1, p2, p3⟩, fun A9 i9 j9 f9 r9 g8 g9 x0 x1 => (by rw [← x1]; (try rw [← x0]); exact ⟨rfl, i9, j9, f9, ⟨g8, g9⟩⟩)⟩
  exact ⟨hk.1 ▸ hB, hk.2⟩
def fC_right (i p : Int) (A : qA) : Int × qA := (if 0 ≤ i ∧ i ≤ 59 ∧ i < A 24 (fd 9) then (if p < 1 then ((-1), A) else (if p < 256 then qlet (A 31 i) fun v7 => qlp (fC_claimantOf i p A) fun r14 A10 => (if 0 ≤ v7 ∧ v7 ≤ 7 then (if 0 ≤ r14 ∧ r14 ≤ 7 then (if v7 = r14 then ((-1), A10) else qlet (A10 23 v7) fun v25 => qlet (A10 32 i) fun v27 => qlet (v25 - v27) fun v29 => qlet (qu A10 23 v7 (wI v29)) fun A31 => qlet (A31 23 r14) fun v37 => qlet (A31 32 i) fun v39 => qlet (v37 + v27) fun v42 => qlet (qu A31 23 r14 (wI v42)) fun A44 => qlet (qu A44 31 i r14) fun A50 => qlet (A50 32 i) fun v55 => (v27, A50)) else ((-1), A10)) else ((-1), A10)) else ((-1), A))) else ((-1), A))
def sC_right : qS := fun as A K => ∃ i p : Int, as = [rf 0, ni i, ni p] ∧ (iva IC A ∧ ivf JC A ∧ (LW A) ∧ (KO A)) ∧ (∀ A' : qA, iva IC A' → ivf JC A' → frm [23, 31, 35, 43, 78] [(36, 9), (71, 9)] A A' → ∀ r : Int, rng r → (r = (fC_right i p A).1) → (A' = (fC_right i p A).2) → K (some (ni r)) A')
theorem okC_right : okM LC 6 114 sC_right := by
  refine qmeth [] true [(17, sC_isWritten), (136, sC_claimantOf), (140, sC_isPerson)] 79 rfl ⟨okC_isWritten.le (by decide), ⟨okC_claimantOf.le (by decide), ⟨okC_isPerson.le (by decide), trivial⟩⟩⟩ ?_
  rintro _ A K hA has ⟨i, p, rfl, ⟨i0, j0, p1, p2⟩, hK⟩
  have rg_i : rng i := has (ni i) (by simp)
  have rg_p : rng p := has (ni p) (by simp)
  have f0 := frm_0 [23, 31, 35, 43, 78] [(36, 9), (71, 9)] A
  have hT : _ = fC_right i p A := (fC_right.eq_1 i p A).symm
  refine ⟨Nat.le_of_ble_eq_true rfl, [], trivial, ?_⟩
  refine Exists.intro i (And.intro rfl (And.intro (And.intro i0 j0) (And.intro (fun h3 => ?_) (fun h3 => ?_))))
  · replace hT := (if_pos h3).symm.trans hT
    refine And.intro (fun h4 => by exfalso; omega) (fun h4 => ?_)
    refine And.intro (fun h5 => ?_) (fun h5 => ?_)
    · replace hT := (if_pos h5).symm.trans hT
      exact hK _ i0 j0 f0 _ (by first | assumption | exact wI_rng _ | exact ⟨by (first | (clear hm hnf; omega) | omega), by (first | (clear hm hnf; omega) | omega)⟩ | exact i_rng _ | (subst_vars; exact i_rng _) | exact (hA _ _).2 rfl) (congrArg Prod.fst hT) (congrArg Prod.snd hT)
    · replace hT := (if_neg (Int.not_lt.mpr h5)).symm.trans hT
      refine And.intro (fun h6 => ?_) (fun h6 => ?_)
      · replace hT := (if_pos h6).symm.trans hT
        refine And.intro (by (first | (clear hm hnf; omega) | omega)) (fun v7 gv7 e8 => ?_)
        replace hT := qlc e8 hT
        have b9 := iva_at i0 21 rfl (i := i) (by (first | (clear hm hnf; omega) | omega)) (by (first | (clear hm hnf; omega) | omega))
        refine Exists.intro i (Exists.intro p (And.intro rfl (And.intro (And.intro i0 (And.intro j0 (And.intro (by (first | (clear hm hnf; omega) | omega)) (And.intro (by (first | (clear hm hnf; omega) | omega)) (And.intro (LW_fr p1 f0 rfl) (KO_fr p2 f0 rfl)))))) (fun A10 i11 j12 f13 r14 g17 g18 g15 g16 => ?_))))
        replace hT := qlpc g15 g16 hT
        clear g15 g16
        have f19 := frm_c f0 f13 rfl
        refine Exists.intro v7 (And.intro rfl (And.intro (fun h20 => ?_) (fun h20 => ?_)))
        · replace hT := (if_pos h20).symm.trans hT
          refine And.intro (fun h21 => by exfalso; omega) (fun h21 => ?_)
          refine Exists.intro r14 (And.intro rfl (And.intro (fun h22 => ?_) (fun h22 => ?_)))
          · replace hT := (if_pos h22).symm.trans hT
            refine And.intro (fun h23 => by exfalso; omega) (fun h23 => ?_)
            refine And.intro (fun h24 => ?_) (fun h24 => ?_)
            · replace hT := (if_neg h24).symm.trans hT
              refine And.intro (by (first | (clear hm hnf; omega) | omega)) (fun v25 gv25 e26 => ?_)
              replace hT := qlc e26 hT
              refine And.intro (by (first | (clear hm hnf; omega) | omega)) (fun v27 gv27 e28 => ?_)
              replace hT := qlc e28 hT
              refine fun v29 e30 => ?_
              replace hT := qlc e30 hT
              have w33 := wI_rng v29
              refine And.intro (by (first | (clear hm hnf; omega) | omega)) (fun A31 e32 => ?_)
              replace hT := qlc e32 hT
              have i34 := iva_st i11 e32 trivial
              have j35 := ivf_sa j12 e32 rfl
              have f36 := frm_s f19 e32 rfl
              refine And.intro (by (first | (clear hm hnf; omega) | omega)) (fun v37 gv37 e38 => ?_)
              replace hT := qlc e38 hT
              refine And.intro (by (first | (clear hm hnf; omega) | omega)) (fun v39 gv39 e40 => ?_)
              replace hT := qlc e40 hT
              have q41 : v27 = v39 := (e40.trans ((congrFun (st_a e32 rfl) _).trans e28.symm)).symm
              subst q41
              refine fun v42 e43 => ?_
              replace hT := qlc e43 hT
              have w46 := wI_rng v42
              refine And.intro (by (first | (clear hm hnf; omega) | omega)) (fun A44 e45 => ?_)
              replace hT := qlc e45 hT
              have i47 := iva_st i34 e45 trivial
              have j48 := ivf_sa j35 e45 rfl
              have f49 := frm_s f36 e45 rfl
              refine And.intro (by (first | (clear hm hnf; omega) | omega)) (fun A50 e51 => ?_)
              replace hT := qlc e51 hT
              have i52 := iva_st i47 e51 (And.intro (by (first | (clear hm hnf; omega) | omega)) trivial)
              have j53 := ivf_sa j48 e51 rfl
              have f54 := frm_s f49 e51 rfl
              refine And.intro (by (first | (clear hm hnf; omega) | omega)) (fun v55 gv55 e56 => ?_)
              replace hT := qlc e56 hT
              have q57 : v27 = v55 := (e56.trans ((congrFun (Eq.trans (st_a e51 rfl) (st_a e45 rfl)) _).trans e40.symm)).symm
              subst q57
              exact hK _ i52 j53 f54 _ (by first | assumption | exact wI_rng _ | exact ⟨by (first | (clear hm hnf; omega) | omega), by (first | (clear hm hnf; omega) | omega)⟩ | exact i_rng _ | (subst_vars; exact i_rng _) | exact (hA _ _).2 rfl) (congrArg Prod.fst hT) (congrArg Prod.snd hT)
            · replace hT := (if_pos h24).symm.trans hT
              exact hK _ i11 j12 f19 _ (by first | assumption | exact wI_rng _ | exact ⟨by (first | (clear hm hnf; omega) | omega), by (first | (clear hm hnf; omega) | omega)⟩ | exact i_rng _ | (subst_vars; exact i_rng _) | exact (hA _ _).2 rfl) (congrArg Prod.fst hT) (congrArg Prod.snd hT)
          · replace hT := (if_neg h22).symm.trans hT
            refine And.intro (fun h58 => ?_) (fun h58 => by exfalso; omega)
            exact hK _ i11 j12 f19 _ (by first | assumption | exact wI_rng _ | exact ⟨by (first | (clear hm hnf; omega) | omega), by (first | (clear hm hnf; omega) | omega)⟩ | exact i_rng _ | (subst_vars; exact i_rng _) | exact (hA _ _).2 rfl) (congrArg Prod.fst hT) (congrArg Prod.snd hT)
        · replace hT := (if_neg h20).symm.trans hT
          refine And.intro (fun h59 => ?_) (fun h59 => by exfalso; omega)
          exact hK _ i11 j12 f19 _ (by first | assumption | exact wI_rng _ | exact ⟨by (first | (clear hm hnf; omega) | omega), by (first | (clear hm hnf; omega) | omega)⟩ | exact i_rng _ | (subst_vars; exact i_rng _) | exact (hA _ _).2 rfl) (congrArg Prod.fst hT) (congrArg Prod.snd hT)
      · replace hT := (if_neg (Int.not_lt.mpr h6)).symm.trans hT
        exact hK _ i0 j0 f0 _ (by first | assumption | exact wI_rng _ | exact ⟨by (first | (clear hm hnf; omega) | omega), by (first | (clear hm hnf; omega) | omega)⟩ | exact i_rng _ | (subst_vars; exact i_rng _) | exact (hA _ _).2 rfl) (congrArg Prod.fst hT) (congrArg Prod.snd hT)
  · replace hT := (if_neg h3).symm.trans hT
    refine And.intro (fun h60 => ?_) (fun h60 => by exfalso; omega)
    exact hK _ i0 j0 f0 _ (by first | assumption | exact wI_rng _ | exact ⟨by (first | (clear hm hnf; omega) | omega), by (first | (clear hm hnf; omega) | omega)⟩ | exact i_rng _ | (subst_vars; exact i_rng _) | exact (hA _ _).2 rfl) (congrArg Prod.fst hT) (congrArg Prod.snd hT)
theorem pC_right {i p : Int} {A : qA} (hA : qokA LC A) (rg_i : rng i) (rg_p : rng p) (p0 : iva IC A) (p1 : ivf JC A) (p2 : LW A) (p3 : KO A) : qokA LC (fC_right i p A).2 ∧ iva IC (fC_right i p A).2 ∧ ivf JC (fC_right i p A).2 ∧ frm [23, 31, 35, 43, 78] [(36, 9), (71, 9)] A (fC_right i p A).2 ∧ rng (fC_right i p A).1 := by
  obtain ⟨r, B, hB, _, hk⟩ := okM_ex okC_right (as := [rf 0, ni i, ni p]) (K := fun _ B => B = (fC_right i p A).2 ∧ iva IC (fC_right i p A).2 ∧ ivf JC (fC_right i p A).2 ∧ frm [23, 31, 35, 43, 78] [(36, 9), (71, 9)] A (fC_right i p A).2 ∧ rng (fC_right i p A).1) hA (qoks_c (show qok (rf _) from trivial) (qoks_c (rg_i) (qoks_c (rg_p) qoks_n))) ⟨i, p, rfl, ⟨p0, p1, p2, p3⟩, fun A9 i9 j9 f9 r9 g9 x0 x1 => (by rw [← x1]; (try rw [← x0]); exact ⟨rfl, i9, j9, f9, g9⟩)⟩
  exact ⟨hk.1 ▸ hB, hk.2⟩
def fC_food (p : Int) (A : qA) : Int := (if 0 ≤ p ∧ p ≤ 7 then qlet (A 23 p) fun v3 => v3 else (-1))
def sC_food : qS := fun as A K => ∃ p : Int, as = [rf 0, ni p] ∧ (iva IC A ∧ ivf JC A) ∧ (∀ r : Int, rng r → (r = fC_food p A) → K (some (ni r)) A)
theorem okC_food : okM LC 3 115 sC_food := by
  refine qmeth [] false [(140, sC_isPerson)] 17 rfl ⟨okC_isPerson.le (by decide), trivial⟩ ?_
  rintro _ A K hA has ⟨p, rfl, ⟨i0, j0⟩, hK⟩
  have rg_p : rng p := has (ni p) (by simp)
  have f0 := frm_0 [] [] A
  have hT : _ = fC_food p A := (fC_food.eq_1 p A).symm
  refine ⟨Nat.le_of_ble_eq_true rfl, [], trivial, ?_⟩
  refine Exists.intro p (And.intro rfl (And.intro (fun h1 => ?_) (fun h1 => ?_)))
  · replace hT := (if_pos h1).symm.trans hT
    refine And.intro (fun h2 => by exfalso; omega) (fun h2 => ?_)
    refine And.intro (by (first | (clear hm hnf; omega) | omega)) (fun v3 gv3 e4 => ?_)
    replace hT := qlc e4 hT
    exact hK _ (by first | assumption | exact wI_rng _ | exact ⟨by (first | (clear hm hnf; omega) | omega), by (first | (clear hm hnf; omega) | omega)⟩ | exact i_rng _ | (subst_vars; exact i_rng _) | exact (hA _ _).2 rfl) hT
  · replace hT := (if_neg h1).symm.trans hT
    refine And.intro (fun h5 => ?_) (fun h5 => by exfalso; omega)
    exact hK _ (by first | assumption | exact wI_rng _ | exact ⟨by (first | (clear hm hnf; omega) | omega), by (first | (clear hm hnf; omega) | omega)⟩ | exact i_rng _ | (subst_vars; exact i_rng _) | exact (hA _ _).2 rfl) hT
theorem pC_food {p : Int} {A : qA} (hA : qokA LC A) (rg_p : rng p) (p0 : iva IC A) (p1 : ivf JC A) : rng (fC_food p A) := by
  obtain ⟨r, B, hB, _, hk⟩ := okM_ex okC_food (as := [rf 0, ni p]) (K := fun _ B => B = A ∧ rng (fC_food p A)) hA (qoks_c (show qok (rf _) from trivial) (qoks_c (rg_p) qoks_n)) ⟨p, rfl, ⟨p0, p1⟩, fun r9 g9 x0 => (by rw [← x0]; exact ⟨rfl, g9⟩)⟩
  exact hk.2
def fC_kitchenIs (c w : Int) (A : qA) : Int := (if 0 ≤ c ∧ c ≤ 7 then qlet (fC_browFact c w A) fun r3 => r3 else (-1))
def sC_kitchenIs : qS := fun as A K => ∃ c w : Int, as = [rf 0, ni c, ni w] ∧ (iva IC A ∧ ivf JC A) ∧ (∀ r : Int, rng r → (r = fC_kitchenIs c w A) → K (some (ni r)) A)
theorem okC_kitchenIs : okM LC 3 116 sC_kitchenIs := by
  refine qmeth [] false [(139, sC_isColumn), (2, sC_browFact)] 17 rfl ⟨okC_isColumn.le (by decide), ⟨okC_browFact.le (by decide), trivial⟩⟩ ?_
  rintro _ A K hA has ⟨c, w, rfl, ⟨i0, j0⟩, hK⟩
  have rg_c : rng c := has (ni c) (by simp)
  have rg_w : rng w := has (ni w) (by simp)
  have f0 := frm_0 [] [] A
  have hT : _ = fC_kitchenIs c w A := (fC_kitchenIs.eq_1 c w A).symm
  refine ⟨Nat.le_of_ble_eq_true rfl, [], trivial, ?_⟩
  refine Exists.intro c (And.intro rfl (And.intro (fun h1 => ?_) (fun h1 => ?_)))
  · replace hT := (if_pos h1).symm.trans hT
    refine And.intro (fun h2 => by exfalso; omega) (fun h2 => ?_)
    refine Exists.intro c (Exists.intro w (And.intro rfl (And.intro (And.intro i0 (And.intro j0 (And.intro (by (first | (clear hm hnf; omega) | omega)) (by (first | (clear hm hnf; omega) | omega))))) (fun r3 g5 g4 => ?_))))
    replace hT := qlc g4 hT
    clear g4
    exact hK _ (by first | assumption | exact wI_rng _ | exact ⟨by (first | (clear hm hnf; omega) | omega), by (first | (clear hm hnf; omega) | omega)⟩ | exact i_rng _ | (subst_vars; exact i_rng _) | exact (hA _ _).2 rfl) hT
  · replace hT := (if_neg h1).symm.trans hT
    refine And.intro (fun h6 => ?_) (fun h6 => by exfalso; omega)
    exact hK _ (by first | assumption | exact wI_rng _ | exact ⟨by (first | (clear hm hnf; omega) | omega), by (first | (clear hm hnf; omega) | omega)⟩ | exact i_rng _ | (subst_vars; exact i_rng _) | exact (hA _ _).2 rfl) hT
theorem pC_kitchenIs {c w : Int} {A : qA} (hA : qokA LC A) (rg_c : rng c) (rg_w : rng w) (p0 : iva IC A) (p1 : ivf JC A) : rng (fC_kitchenIs c w A) := by
  obtain ⟨r, B, hB, _, hk⟩ := okM_ex okC_kitchenIs (as := [rf 0, ni c, ni w]) (K := fun _ B => B = A ∧ rng (fC_kitchenIs c w A)) hA (qoks_c (show qok (rf _) from trivial) (qoks_c (rg_c) (qoks_c (rg_w) qoks_n))) ⟨c, w, rfl, ⟨p0, p1⟩, fun r9 g9 x0 => (by rw [← x0]; exact ⟨rfl, g9⟩)⟩
  exact hk.2
def fC_mayWork (w c l : Int) (A : qA) : Int := (if w < 1 then (-1) else (if 99 < w then (-1) else (if (0 ≤ c ∧ c ≤ 7) ∧ (0 ≤ l ∧ l ≤ 5) then qlet (fC_carries w c l A) fun r5 => (if r5 = 0 then 0 else 1) else (-1))))
def sC_mayWork : qS := fun as A K => ∃ w c l : Int, as = [rf 0, ni w, ni c, ni l] ∧ (iva IC A ∧ ivf JC A) ∧ (∀ r : Int, (-1) ≤ r → r ≤ 1 → (r = fC_mayWork w c l A) → K (some (ni r)) A)
theorem okC_mayWork : okM LC 4 117 sC_mayWork := by
  refine qmeth [] false [(141, sC_isCell), (1, sC_carries)] 29 rfl ⟨okC_isCell.le (by decide), ⟨okC_carries.le (by decide), trivial⟩⟩ ?_
  rintro _ A K hA has ⟨w, c, l, rfl, ⟨i0, j0⟩, hK⟩
  have rg_w : rng w := has (ni w) (by simp)
  have rg_c : rng c := has (ni c) (by simp)
  have rg_l : rng l := has (ni l) (by simp)
  have f0 := frm_0 [] [] A
  have hT : _ = fC_mayWork w c l A := (fC_mayWork.eq_1 w c l A).symm
  refine ⟨Nat.le_of_ble_eq_true rfl, [], trivial, ?_⟩
  refine And.intro (fun h1 => ?_) (fun h1 => ?_)
  · replace hT := (if_pos h1).symm.trans hT
    exact hK _ (by (first | (clear hm hnf; omega) | omega)) (by (first | (clear hm hnf; omega) | omega)) hT
  · replace hT := (if_neg (Int.not_lt.mpr h1)).symm.trans hT
    refine And.intro (fun h2 => ?_) (fun h2 => ?_)
    · replace hT := (if_pos h2).symm.trans hT
      exact hK _ (by (first | (clear hm hnf; omega) | omega)) (by (first | (clear hm hnf; omega) | omega)) hT
    · replace hT := (if_neg (Int.not_lt.mpr h2)).symm.trans hT
      refine Exists.intro c (Exists.intro l (And.intro rfl (And.intro (fun h3 => ?_) (fun h3 => ?_))))
      · replace hT := (if_pos h3).symm.trans hT
        refine And.intro (fun h4 => ?_) (fun h4 => by exfalso; omega)
        refine Exists.intro w (Exists.intro c (Exists.intro l (And.intro rfl (And.intro (And.intro i0 (And.intro j0 (And.intro (by (first | (clear hm hnf; omega) | omega)) (And.intro (by (first | (clear hm hnf; omega) | omega)) (And.intro (by (first | (clear hm hnf; omega) | omega)) (And.intro (by (first | (clear hm hnf; omega) | omega)) (And.intro (by (first | (clear hm hnf; omega) | omega)) (by (first | (clear hm hnf; omega) | omega))))))))) (fun r5 g7 g8 g6 => ?_)))))
        replace hT := qlc g6 hT
        clear g6
        refine And.intro (fun h9 => ?_) (fun h9 => ?_)
        · replace hT := (if_pos h9).symm.trans hT
          exact hK _ (by (first | (clear hm hnf; omega) | omega)) (by (first | (clear hm hnf; omega) | omega)) hT
        · replace hT := (if_neg h9).symm.trans hT
          exact hK _ (by (first | (clear hm hnf; omega) | omega)) (by (first | (clear hm hnf; omega) | omega)) hT
      · replace hT := (if_neg h3).symm.trans hT
        refine And.intro (fun h10 => by exfalso; omega) (fun h10 => ?_)
        exact hK _ (by (first | (clear hm hnf; omega) | omega)) (by (first | (clear hm hnf; omega) | omega)) hT
theorem pC_mayWork {w c l : Int} {A : qA} (hA : qokA LC A) (rg_w : rng w) (rg_c : rng c) (rg_l : rng l) (p0 : iva IC A) (p1 : ivf JC A) : ((-1) ≤ (fC_mayWork w c l A) ∧ (fC_mayWork w c l A) ≤ 1) := by
  obtain ⟨r, B, hB, _, hk⟩ := okM_ex okC_mayWork (as := [rf 0, ni w, ni c, ni l]) (K := fun _ B => B = A ∧ ((-1) ≤ (fC_mayWork w c l A) ∧ (fC_mayWork w c l A) ≤ 1)) hA (qoks_c (show qok (rf _) from trivial) (qoks_c (rg_w) (qoks_c (rg_c) (qoks_c (rg_l) qoks_n)))) ⟨w, c, l, rfl, ⟨p0, p1⟩, fun r9 g8 g9 x0 => (by rw [← x0]; exact ⟨rfl, ⟨g8, g9⟩⟩)⟩
  exact hk.2
def fC_work_c26 (rec : Nat → List Int → qA → Int × qA) (l1 l2 l3 l5 k : Int) (B : qA) : Int × qA := (if k < 48 then qlet (fC_isTold l3 k B) fun r39 => (if r39 = 0 then qlet (k + 1) fun v44 => rec 26 [l1, l2, l3, l5, ((wI v44))] B else qlet (qd k 6) fun v48 => qlet (qm k 6) fun v51 => qlet (fC_carries l1 (wI v48) v51 B) fun r56 => (if r56 = 0 then ((-2), B) else qlet (k + 1) fun v61 => rec 26 [l1, l2, l3, l5, ((wI v61))] B)) else qlet (fC_tell l3 B) fun A13 => qlet (fC_asWork l2 A13) fun A19 => qlet (fC_solve A19) fun A25 => (if l5 = (-1) then qlet (fC_least A25) fun r36 => (r36, A25) else qlet (fC_cellAt l5 A25) fun r32 => (r32, A25)))
def fC_work_L : Nat → Nat → List Int → qA → Int × qA
  | 0 => fun _ _ B => (0, B)
  | nF + 1 => fun k zs B => bif Nat.beq k 26 then (match zs with | [l1, l2, l3, l5, k] => fC_work_c26 (fC_work_L nF) l1 l2 l3 l5 k B | _ => (0, B)) else (0, B)
theorem fC_work_L26 (nF : Nat) (l1 l2 l3 l5 k : Int) (B : qA) : fC_work_L (nF + 1) 26 [l1, l2, l3, l5, k] B = fC_work_c26 (fC_work_L nF) l1 l2 l3 l5 k B := (congrFun (congrFun (congrFun (fC_work_L.eq_2 nF) 26) [l1, l2, l3, l5, k]) B).trans (qL1 rfl rfl)
def fC_work (w c x v : Int) (A : qA) : Int × qA := qlet (fC_toldCells x 8 A) fun r1 => (if w < 1 then ((-3), A) else (if 99 < w then ((-3), A) else (if 0 ≤ c ∧ c ≤ 7 then (if r1 < 1 then ((-3), A) else (if v < (-1) then ((-3), A) else (if v < r1 then (fC_work_L 100000) 26 [w, c, x, v, 0] A else ((-3), A)))) else ((-3), A))))
def sC_work : qS := fun as A K => ∃ w c x v : Int, as = [rf 0, ni w, ni c, nl x, ni v] ∧ (iva IC A ∧ ivf JC A) ∧ (∀ A' : qA, iva IC A' → ivf JC A' → frm [56, 57, 58, 59, 60, 61, 62] [(55, 7)] A A' → ∀ r : Int, rng r → (r = (fC_work w c x v A).1) → (A' = (fC_work w c x v A).2) → K (some (ni r)) A')
theorem okC_work : okM LC 4 118 sC_work := by
  refine qmeth [] true [(143, sC_toldCells), (139, sC_isColumn), (63, sC_tell), (64, sC_asWork), (67, sC_solve), (73, sC_cellAt), (72, sC_least), (142, sC_isTold), (1, sC_carries)] 77 rfl ⟨okC_toldCells.le (by decide), ⟨okC_isColumn.le (by decide), ⟨okC_tell.le (by decide), ⟨okC_asWork.le (by decide), ⟨okC_solve.le (by decide), ⟨okC_cellAt.le (by decide), ⟨okC_least.le (by decide), ⟨okC_isTold.le (by decide), ⟨okC_carries.le (by decide), trivial⟩⟩⟩⟩⟩⟩⟩⟩⟩ ?_
  rintro _ A K hA has ⟨w, c, x, v, rfl, ⟨i0, j0⟩, hK⟩
  have rg_w : rng w := has (ni w) (by simp)
  have rg_c : rng c := has (ni c) (by simp)
  have rg_x : rngL x := has (nl x) (by simp)
  have rg_v : rng v := has (ni v) (by simp)
  have f0 := frm_0 [56, 57, 58, 59, 60, 61, 62] [(55, 7)] A
  have hT : _ = fC_work w c x v A := (fC_work.eq_1 w c x v A).symm
  refine ⟨Nat.le_of_ble_eq_true rfl, [(26, [(0, 2, 0), (1, 0, 0), (2, 0, 0), (3, 1, 0), (5, 0, 0), (7, 0, 0)], fun zs B nn => match zs with | [l1, l2, l3, l5, k] => iva IC B ∧ ivf JC B ∧ frm [56, 57, 58, 59, 60, 61, 62] [(55, 7)] A B ∧ nn = (48 - k : Int).toNat ∧ (l1 = w) ∧ (l2 = c) ∧ (l3 = x) ∧ (l5 = v) ∧ (0 ≤ k) ∧ (k ≤ 48) ∧ (1 ≤ w) ∧ (w ≤ 99) ∧ (0 ≤ c) ∧ (c ≤ 7) ∧ (∃ nf : Nat, nn < nf ∧ fC_work_L nf 26 [l1, l2, l3, l5, k] B = fC_work w c x v A) | _ => False)], ?_, ?_⟩
  · refine ⟨⟨rfl, ?_⟩, trivial⟩
    · refine fun l1 l2 l3 l5 k B mm hB hz hI => ?_
      obtain ⟨i1, j1, f1, hm, c0, c1, c2, c3, c4, c5, c6, c7, c8, c9, ⟨nf, hnf, hT⟩⟩ := hI
      obtain ⟨hz_l1, hz_l2, hz_l3, hz_l5, hz_k, _⟩ := hz
      obtain ⟨ng, rfl⟩ : ∃ k, nf = k + 1 := ⟨nf - 1, by omega⟩
      replace hT := (fC_work_c26.eq_1 (fC_work_L ng) l1 l2 l3 l5 k B).symm.trans ((fC_work_L26 ng l1 l2 l3 l5 k B).symm.trans hT)
      refine And.intro (fun h12 => ?_) (fun h12 => ?_)
      · replace hT := (if_neg (Int.not_lt.mpr h12)).symm.trans hT
        refine Exists.intro l3 (And.intro rfl (And.intro (And.intro i1 j1) (fun A13 i14 j15 f16 g17 => ?_)))
        replace hT := qlc g17 hT
        have f18 := frm_c f1 f16 rfl
        refine Exists.intro l2 (And.intro rfl (And.intro (And.intro i14 (And.intro j15 (And.intro (by (first | (clear hm hnf; omega) | omega)) (by (first | (clear hm hnf; omega) | omega))))) (fun A19 i20 j21 f22 g23 => ?_)))
        replace hT := qlc g23 hT
        have f24 := frm_c f18 f22 rfl
        refine And.intro rfl (And.intro (And.intro i20 j21) (fun A25 i26 j27 f28 g29 => ?_))
        replace hT := qlc g29 hT
        have f30 := frm_c f24 f28 rfl
        refine And.intro (fun h31 => ?_) (fun h31 => ?_)
        · replace hT := (if_neg h31).symm.trans hT
          refine Exists.intro l5 (And.intro rfl (And.intro (And.intro i26 j27) (fun r32 g34 g35 g33 => ?_)))
          replace hT := qlc g33 hT
          clear g33
          exact hK _ i26 j27 f30 _ (by first | assumption | exact wI_rng _ | exact ⟨by (first | (clear hm hnf; omega) | omega), by (first | (clear hm hnf; omega) | omega)⟩ | exact i_rng _ | (subst_vars; exact i_rng _) | exact (hA _ _).2 rfl) (congrArg Prod.fst hT) (congrArg Prod.snd hT)
        · replace hT := (if_pos h31).symm.trans hT
          refine And.intro rfl (And.intro (And.intro i26 j27) (fun r36 g38 g37 => ?_))
          replace hT := qlc g37 hT
          clear g37
          exact hK _ i26 j27 f30 _ (by first | assumption | exact wI_rng _ | exact ⟨by (first | (clear hm hnf; omega) | omega), by (first | (clear hm hnf; omega) | omega)⟩ | exact i_rng _ | (subst_vars; exact i_rng _) | exact (hA _ _).2 rfl) (congrArg Prod.fst hT) (congrArg Prod.snd hT)
      · replace hT := (if_pos h12).symm.trans hT
        refine Exists.intro l3 (Exists.intro k (And.intro rfl (fun r39 g41 g42 g40 => ?_)))
        replace hT := qlc g40 hT
        clear g40
        refine And.intro (fun h43 => ?_) (fun h43 => ?_)
        · replace hT := (if_pos h43).symm.trans hT
          refine fun v44 e45 => ?_
          replace hT := qlc e45 hT
          have w46 := wI_rng v44
          have w47 : wI v44 = v44 := wI_id (by (first | (clear hm hnf; omega) | omega))
          exact Exists.intro (48 - ((wI v44)) : Int).toNat (And.intro (by first | exact qtn hm (by (try clear hm hnf); omega) | omega) (And.intro i1 (And.intro j1 (And.intro f1 (And.intro rfl (And.intro (by (first | (clear hm hnf; omega) | omega)) (And.intro (by (first | (clear hm hnf; omega) | omega)) (And.intro (by (first | (clear hm hnf; omega) | omega)) (And.intro (by (first | (clear hm hnf; omega) | omega)) (And.intro (by (first | (clear hm hnf; omega) | omega)) (And.intro (by (first | (clear hm hnf; omega) | omega)) (And.intro (by (first | (clear hm hnf; omega) | omega)) (And.intro (by (first | (clear hm hnf; omega) | omega)) (And.intro (by (first | (clear hm hnf; omega) | omega)) (And.intro (by (first | (clear hm hnf; omega) | omega)) (Exists.intro ng (And.intro (by first | exact qtm hm hnf (by (try clear hm hnf); omega) | omega) hT)))))))))))))))))
        · replace hT := (if_neg h43).symm.trans hT
          refine And.intro (by (first | (clear hm hnf; omega) | omega)) (fun v48 e49 => ?_)
          replace hT := qlc e49 hT
          have h50 := qd_nn (a := k) (b := 6) (by (first | (clear hm hnf; omega) | omega))
          refine And.intro (by (first | (clear hm hnf; omega) | omega)) (fun v51 e52 => ?_)
          replace hT := qlc e52 hT
          have h53 := qm_nn (a := k) (b := 6) (by (first | (clear hm hnf; omega) | omega))
          have w54 := wI_rng v48
          have w55 : wI v48 = v48 := wI_id (by (first | (clear hm hnf; omega) | omega))
          refine Exists.intro l1 (Exists.intro (wI v48) (Exists.intro v51 (And.intro rfl (And.intro (And.intro i1 (And.intro j1 (And.intro (by (first | (clear hm hnf; omega) | omega)) (And.intro (by (first | (clear hm hnf; omega) | omega)) (And.intro (by (first | (clear hm hnf; omega) | omega)) (And.intro (by (first | (clear hm hnf; omega) | omega)) (And.intro (by (first | (clear hm hnf; omega) | omega)) (by (first | (clear hm hnf; omega) | omega))))))))) (fun r56 g58 g59 g57 => ?_)))))
          replace hT := qlc g57 hT
          clear g57
          refine And.intro (fun h60 => ?_) (fun h60 => ?_)
          · replace hT := (if_neg h60).symm.trans hT
            refine fun v61 e62 => ?_
            replace hT := qlc e62 hT
            have w63 := wI_rng v61
            have w64 : wI v61 = v61 := wI_id (by (first | (clear hm hnf; omega) | omega))
            exact Exists.intro (48 - ((wI v61)) : Int).toNat (And.intro (by first | exact qtn hm (by (try clear hm hnf); omega) | omega) (And.intro i1 (And.intro j1 (And.intro f1 (And.intro rfl (And.intro (by (first | (clear hm hnf; omega) | omega)) (And.intro (by (first | (clear hm hnf; omega) | omega)) (And.intro (by (first | (clear hm hnf; omega) | omega)) (And.intro (by (first | (clear hm hnf; omega) | omega)) (And.intro (by (first | (clear hm hnf; omega) | omega)) (And.intro (by (first | (clear hm hnf; omega) | omega)) (And.intro (by (first | (clear hm hnf; omega) | omega)) (And.intro (by (first | (clear hm hnf; omega) | omega)) (And.intro (by (first | (clear hm hnf; omega) | omega)) (And.intro (by (first | (clear hm hnf; omega) | omega)) (Exists.intro ng (And.intro (by first | exact qtm hm hnf (by (try clear hm hnf); omega) | omega) hT)))))))))))))))))
          · replace hT := (if_pos h60).symm.trans hT
            exact hK _ i1 j1 f1 _ (by first | assumption | exact wI_rng _ | exact ⟨by (first | (clear hm hnf; omega) | omega), by (first | (clear hm hnf; omega) | omega)⟩ | exact i_rng _ | (subst_vars; exact i_rng _) | exact (hA _ _).2 rfl) (congrArg Prod.fst hT) (congrArg Prod.snd hT)
  · refine Exists.intro x (Exists.intro 8 (And.intro rfl (fun r1 g3 g2 => ?_)))
    replace hT := qlc g2 hT
    clear g2
    refine And.intro (fun h4 => ?_) (fun h4 => ?_)
    · replace hT := (if_pos h4).symm.trans hT
      exact hK _ i0 j0 f0 _ (by first | assumption | exact wI_rng _ | exact ⟨by (first | (clear hm hnf; omega) | omega), by (first | (clear hm hnf; omega) | omega)⟩ | exact i_rng _ | (subst_vars; exact i_rng _) | exact (hA _ _).2 rfl) (congrArg Prod.fst hT) (congrArg Prod.snd hT)
    · replace hT := (if_neg (Int.not_lt.mpr h4)).symm.trans hT
      refine And.intro (fun h5 => ?_) (fun h5 => ?_)
      · replace hT := (if_pos h5).symm.trans hT
        exact hK _ i0 j0 f0 _ (by first | assumption | exact wI_rng _ | exact ⟨by (first | (clear hm hnf; omega) | omega), by (first | (clear hm hnf; omega) | omega)⟩ | exact i_rng _ | (subst_vars; exact i_rng _) | exact (hA _ _).2 rfl) (congrArg Prod.fst hT) (congrArg Prod.snd hT)
      · replace hT := (if_neg (Int.not_lt.mpr h5)).symm.trans hT
        refine Exists.intro c (And.intro rfl (And.intro (fun h6 => ?_) (fun h6 => ?_)))
        · replace hT := (if_pos h6).symm.trans hT
          refine And.intro (fun h7 => by exfalso; omega) (fun h7 => ?_)
          refine And.intro (fun h8 => ?_) (fun h8 => ?_)
          · replace hT := (if_pos h8).symm.trans hT
            exact hK _ i0 j0 f0 _ (by first | assumption | exact wI_rng _ | exact ⟨by (first | (clear hm hnf; omega) | omega), by (first | (clear hm hnf; omega) | omega)⟩ | exact i_rng _ | (subst_vars; exact i_rng _) | exact (hA _ _).2 rfl) (congrArg Prod.fst hT) (congrArg Prod.snd hT)
          · replace hT := (if_neg (Int.not_lt.mpr h8)).symm.trans hT
            refine And.intro (fun h9 => ?_) (fun h9 => ?_)
            · replace hT := (if_pos h9).symm.trans hT
              exact hK _ i0 j0 f0 _ (by first | assumption | exact wI_rng _ | exact ⟨by (first | (clear hm hnf; omega) | omega), by (first | (clear hm hnf; omega) | omega)⟩ | exact i_rng _ | (subst_vars; exact i_rng _) | exact (hA _ _).2 rfl) (congrArg Prod.fst hT) (congrArg Prod.snd hT)
            · replace hT := (if_neg (Int.not_lt.mpr h9)).symm.trans hT
              refine And.intro (fun h10 => ?_) (fun h10 => ?_)
              · replace hT := (if_pos h10).symm.trans hT
                exact Exists.intro (48 - 0 : Int).toNat (And.intro i0 (And.intro j0 (And.intro f0 (And.intro rfl (And.intro (by (first | (clear hm hnf; omega) | omega)) (And.intro (by (first | (clear hm hnf; omega) | omega)) (And.intro (by (first | (clear hm hnf; omega) | omega)) (And.intro (by (first | (clear hm hnf; omega) | omega)) (And.intro (by (first | (clear hm hnf; omega) | omega)) (And.intro (by (first | (clear hm hnf; omega) | omega)) (And.intro (by (first | (clear hm hnf; omega) | omega)) (And.intro (by (first | (clear hm hnf; omega) | omega)) (And.intro (by (first | (clear hm hnf; omega) | omega)) (And.intro (by (first | (clear hm hnf; omega) | omega)) (Exists.intro 100000 (And.intro (by (first | (clear hm hnf; omega) | omega)) hT))))))))))))))))
              · replace hT := (if_neg (Int.not_lt.mpr h10)).symm.trans hT
                exact hK _ i0 j0 f0 _ (by first | assumption | exact wI_rng _ | exact ⟨by (first | (clear hm hnf; omega) | omega), by (first | (clear hm hnf; omega) | omega)⟩ | exact i_rng _ | (subst_vars; exact i_rng _) | exact (hA _ _).2 rfl) (congrArg Prod.fst hT) (congrArg Prod.snd hT)
        · replace hT := (if_neg h6).symm.trans hT
          refine And.intro (fun h11 => ?_) (fun h11 => by exfalso; omega)
          exact hK _ i0 j0 f0 _ (by first | assumption | exact wI_rng _ | exact ⟨by (first | (clear hm hnf; omega) | omega), by (first | (clear hm hnf; omega) | omega)⟩ | exact i_rng _ | (subst_vars; exact i_rng _) | exact (hA _ _).2 rfl) (congrArg Prod.fst hT) (congrArg Prod.snd hT)
theorem pC_work {w c x v : Int} {A : qA} (hA : qokA LC A) (rg_w : rng w) (rg_c : rng c) (rg_x : rngL x) (rg_v : rng v) (p0 : iva IC A) (p1 : ivf JC A) : qokA LC (fC_work w c x v A).2 ∧ iva IC (fC_work w c x v A).2 ∧ ivf JC (fC_work w c x v A).2 ∧ frm [56, 57, 58, 59, 60, 61, 62] [(55, 7)] A (fC_work w c x v A).2 ∧ rng (fC_work w c x v A).1 := by
  obtain ⟨r, B, hB, _, hk⟩ := okM_ex okC_work (as := [rf 0, ni w, ni c, nl x, ni v]) (K := fun _ B => B = (fC_work w c x v A).2 ∧ iva IC (fC_work w c x v A).2 ∧ ivf JC (fC_work w c x v A).2 ∧ frm [56, 57, 58, 59, 60, 61, 62] [(55, 7)] A (fC_work w c x v A).2 ∧ rng (fC_work w c x v A).1) hA (qoks_c (show qok (rf _) from trivial) (qoks_c (rg_w) (qoks_c (rg_c) (qoks_c (rg_x) (qoks_c (rg_v) qoks_n))))) ⟨w, c, x, v, rfl, ⟨p0, p1⟩, fun A9 i9 j9 f9 r9 g9 x0 x1 => (by rw [← x1]; (try rw [← x0]); exact ⟨rfl, i9, j9, f9, g9⟩)⟩
  exact ⟨hk.1 ▸ hB, hk.2⟩
def fC_pollen (f t k n w : Int) (A : qA) : Int × qA := (if 0 ≤ f ∧ f ≤ 7 then (if 0 ≤ t ∧ t ≤ 7 then (if 0 ≤ k ∧ k ≤ 5 then (if n < 1 then ((qnL 18446744073709551615), A) else (if 12 < n then ((qnL 18446744073709551615), A) else (if 0 ≤ w ∧ w ≤ 1 then qlet (fC_columnsOf k A) fun r11 => qlet (fC_fly f t r11 n A) fun A15 => (if w = 0 then qlet (A15 68 (fd 2)) fun v24 => (v24, A15) else qlet (A15 68 (fd 3)) fun v22 => (v22, A15)) else ((qnL 18446744073709551615), A)))) else ((qnL 18446744073709551615), A)) else ((qnL 18446744073709551615), A)) else ((qnL 18446744073709551615), A))
def sC_pollen : qS := fun as A K => ∃ f t k n w : Int, as = [rf 0, ni f, ni t, ni k, ni n, ni w] ∧ (iva IC A ∧ ivf JC A) ∧ (∀ A' : qA, iva IC A' → ivf JC A' → frm [69, 70] [(68, 2), (68, 3)] A A' → ∀ r : Int, rngL r → (r = (fC_pollen f t k n w A).1) → (A' = (fC_pollen f t k n w A).2) → K (some (nl r)) A')
theorem okC_pollen : okM LC 4 119 sC_pollen := by
  refine qmeth [] false [(139, sC_isColumn), (138, sC_within), (35, sC_columnsOf), (80, sC_fly)] 50 rfl ⟨okC_isColumn.le (by decide), ⟨okC_within.le (by decide), ⟨okC_columnsOf.le (by decide), ⟨okC_fly.le (by decide), trivial⟩⟩⟩⟩ ?_
  rintro _ A K hA has ⟨f, t, k, n, w, rfl, ⟨i0, j0⟩, hK⟩
  have rg_f : rng f := has (ni f) (by simp)
  have rg_t : rng t := has (ni t) (by simp)
  have rg_k : rng k := has (ni k) (by simp)
  have rg_n : rng n := has (ni n) (by simp)
  have rg_w : rng w := has (ni w) (by simp)
  have f0 := frm_0 [69, 70] [(68, 2), (68, 3)] A
  have hT : _ = fC_pollen f t k n w A := (fC_pollen.eq_1 f t k n w A).symm
  refine ⟨Nat.le_of_ble_eq_true rfl, [], trivial, ?_⟩
  refine Exists.intro f (And.intro rfl (And.intro (fun h1 => ?_) (fun h1 => ?_)))
  · replace hT := (if_pos h1).symm.trans hT
    refine And.intro (fun h2 => by exfalso; omega) (fun h2 => ?_)
    refine Exists.intro t (And.intro rfl (And.intro (fun h3 => ?_) (fun h3 => ?_)))
    · replace hT := (if_pos h3).symm.trans hT
      refine And.intro (fun h4 => by exfalso; omega) (fun h4 => ?_)
      refine Exists.intro k (Exists.intro 5 (And.intro rfl (And.intro (fun h5 => ?_) (fun h5 => ?_))))
      · replace hT := (if_pos h5).symm.trans hT
        refine And.intro (fun h6 => by exfalso; omega) (fun h6 => ?_)
        refine And.intro (fun h7 => ?_) (fun h7 => ?_)
        · replace hT := (if_pos h7).symm.trans hT
          exact hK _ i0 j0 f0 _ (by first | assumption | omega | (subst_vars; exact l_rng _) | (subst_vars; exact (hB _ _).1) | exact qnL_rng (by decide)) (congrArg Prod.fst hT) (congrArg Prod.snd hT)
        · replace hT := (if_neg (Int.not_lt.mpr h7)).symm.trans hT
          refine And.intro (fun h8 => ?_) (fun h8 => ?_)
          · replace hT := (if_pos h8).symm.trans hT
            exact hK _ i0 j0 f0 _ (by first | assumption | omega | (subst_vars; exact l_rng _) | (subst_vars; exact (hB _ _).1) | exact qnL_rng (by decide)) (congrArg Prod.fst hT) (congrArg Prod.snd hT)
          · replace hT := (if_neg (Int.not_lt.mpr h8)).symm.trans hT
            refine Exists.intro w (Exists.intro 1 (And.intro rfl (And.intro (fun h9 => ?_) (fun h9 => ?_))))
            · replace hT := (if_pos h9).symm.trans hT
              refine And.intro (fun h10 => ?_) (fun h10 => by exfalso; omega)
              refine Exists.intro k (And.intro rfl (And.intro (And.intro i0 j0) (fun r11 g13 g14 g12 => ?_)))
              replace hT := qlc g12 hT
              clear g12
              refine Exists.intro f (Exists.intro t (Exists.intro r11 (Exists.intro n (And.intro rfl (And.intro (And.intro i0 (And.intro j0 (And.intro (by (first | (clear hm hnf; omega) | omega)) (And.intro (by (first | (clear hm hnf; omega) | omega)) (And.intro (by (first | (clear hm hnf; omega) | omega)) (by (first | (clear hm hnf; omega) | omega))))))) (fun A15 i16 j17 f18 g19 => ?_))))))
              replace hT := qlc g19 hT
              have f20 := frm_c f0 f18 rfl
              refine And.intro (fun h21 => ?_) (fun h21 => ?_)
              · replace hT := (if_neg h21).symm.trans hT
                refine fun v22 gv22 e23 => ?_
                replace hT := qlc e23 hT
                exact hK _ i16 j17 f20 _ (by first | assumption | omega | (subst_vars; exact l_rng _) | (subst_vars; exact (hB _ _).1) | exact qnL_rng (by decide)) (congrArg Prod.fst hT) (congrArg Prod.snd hT)
              · replace hT := (if_pos h21).symm.trans hT
                refine fun v24 gv24 e25 => ?_
                replace hT := qlc e25 hT
                exact hK _ i16 j17 f20 _ (by first | assumption | omega | (subst_vars; exact l_rng _) | (subst_vars; exact (hB _ _).1) | exact qnL_rng (by decide)) (congrArg Prod.fst hT) (congrArg Prod.snd hT)
            · replace hT := (if_neg h9).symm.trans hT
              refine And.intro (fun h26 => by exfalso; omega) (fun h26 => ?_)
              exact hK _ i0 j0 f0 _ (by first | assumption | omega | (subst_vars; exact l_rng _) | (subst_vars; exact (hB _ _).1) | exact qnL_rng (by decide)) (congrArg Prod.fst hT) (congrArg Prod.snd hT)
      · replace hT := (if_neg h5).symm.trans hT
        refine And.intro (fun h27 => ?_) (fun h27 => by exfalso; omega)
        exact hK _ i0 j0 f0 _ (by first | assumption | omega | (subst_vars; exact l_rng _) | (subst_vars; exact (hB _ _).1) | exact qnL_rng (by decide)) (congrArg Prod.fst hT) (congrArg Prod.snd hT)
    · replace hT := (if_neg h3).symm.trans hT
      refine And.intro (fun h28 => ?_) (fun h28 => by exfalso; omega)
      exact hK _ i0 j0 f0 _ (by first | assumption | omega | (subst_vars; exact l_rng _) | (subst_vars; exact (hB _ _).1) | exact qnL_rng (by decide)) (congrArg Prod.fst hT) (congrArg Prod.snd hT)
  · replace hT := (if_neg h1).symm.trans hT
    refine And.intro (fun h29 => ?_) (fun h29 => by exfalso; omega)
    exact hK _ i0 j0 f0 _ (by first | assumption | omega | (subst_vars; exact l_rng _) | (subst_vars; exact (hB _ _).1) | exact qnL_rng (by decide)) (congrArg Prod.fst hT) (congrArg Prod.snd hT)
theorem pC_pollen {f t k n w : Int} {A : qA} (hA : qokA LC A) (rg_f : rng f) (rg_t : rng t) (rg_k : rng k) (rg_n : rng n) (rg_w : rng w) (p0 : iva IC A) (p1 : ivf JC A) : qokA LC (fC_pollen f t k n w A).2 ∧ iva IC (fC_pollen f t k n w A).2 ∧ ivf JC (fC_pollen f t k n w A).2 ∧ frm [69, 70] [(68, 2), (68, 3)] A (fC_pollen f t k n w A).2 ∧ rngL (fC_pollen f t k n w A).1 := by
  obtain ⟨r, B, hB, _, hk⟩ := okM_ex okC_pollen (as := [rf 0, ni f, ni t, ni k, ni n, ni w]) (K := fun _ B => B = (fC_pollen f t k n w A).2 ∧ iva IC (fC_pollen f t k n w A).2 ∧ ivf JC (fC_pollen f t k n w A).2 ∧ frm [69, 70] [(68, 2), (68, 3)] A (fC_pollen f t k n w A).2 ∧ rngL (fC_pollen f t k n w A).1) hA (qoks_c (show qok (rf _) from trivial) (qoks_c (rg_f) (qoks_c (rg_t) (qoks_c (rg_k) (qoks_c (rg_n) (qoks_c (rg_w) qoks_n)))))) ⟨f, t, k, n, w, rfl, ⟨p0, p1⟩, fun A9 i9 j9 f9 r9 g9 x0 x1 => (by rw [← x1]; (try rw [← x0]); exact ⟨rfl, i9, j9, f9, g9⟩)⟩
  exact ⟨hk.1 ▸ hB, hk.2⟩
def fC_pollinate_c13 (rec : Nat → List Int → qA → Int × qA) (l1 l2 s l : Int) (B : qA) : Int × qA := (if l < 6 then qlet (l1 * 6) fun v8 => qlet (v8 + l) fun v10 => (if 0 ≤ (wI v10) ∧ (wI v10) ≤ 47 ∧ HG B (wI v10) ∧ 0 ≤ B 6 (wI v10) ∧ B 6 (wI v10) ≤ 5 then qlet (B 6 v10) fun v17 => (if v17 = l2 then qlet (B 10 v10) fun v25 => (if v25 = 0 then qlet (qu B 10 v10 1) fun A33 => qlet (s + 1) fun v38 => qlet (l + 1) fun v40 => rec 13 [l1, l2, ((wI v38)), ((wI v40))] A33 else qlet (l + 1) fun v29 => rec 13 [l1, l2, s, ((wI v29))] B) else qlet (l + 1) fun v21 => rec 13 [l1, l2, s, ((wI v21))] B) else qlet (l + 1) fun v46 => rec 13 [l1, l2, s, ((wI v46))] B) else (s, B))
def fC_pollinate_L : Nat → Nat → List Int → qA → Int × qA
  | 0 => fun _ _ B => (0, B)
  | nF + 1 => fun k zs B => bif Nat.beq k 13 then (match zs with | [l1, l2, s, l] => fC_pollinate_c13 (fC_pollinate_L nF) l1 l2 s l B | _ => (0, B)) else (0, B)
theorem fC_pollinate_L13 (nF : Nat) (l1 l2 s l : Int) (B : qA) : fC_pollinate_L (nF + 1) 13 [l1, l2, s, l] B = fC_pollinate_c13 (fC_pollinate_L nF) l1 l2 s l B := (congrFun (congrFun (congrFun (fC_pollinate_L.eq_2 nF) 13) [l1, l2, s, l]) B).trans (qL1 rfl rfl)
def fC_pollinate (c k : Int) (A : qA) : Int × qA := (if 0 ≤ c ∧ c ≤ 7 then (if 0 ≤ k ∧ k ≤ 5 then (fC_pollinate_L 100000) 13 [c, k, 0, 0] A else ((-1), A)) else ((-1), A))
def sC_pollinate : qS := fun as A K => ∃ c k : Int, as = [rf 0, ni c, ni k] ∧ (iva IC A ∧ ivf JC A) ∧ (∀ A' : qA, iva IC A' → ivf JC A' → frm [10] [] A A' → ∀ r : Int, rng r → (r = (fC_pollinate c k A).1) → (A' = (fC_pollinate c k A).2) → K (some (ni r)) A')
theorem okC_pollinate : okM LC 3 120 sC_pollinate := by
  refine qmeth [] true [(139, sC_isColumn), (138, sC_within), (22, sC_hasCrop)] 57 rfl ⟨okC_isColumn.le (by decide), ⟨okC_within.le (by decide), ⟨okC_hasCrop.le (by decide), trivial⟩⟩⟩ ?_
  rintro _ A K hA has ⟨c, k, rfl, ⟨i0, j0⟩, hK⟩
  have rg_c : rng c := has (ni c) (by simp)
  have rg_k : rng k := has (ni k) (by simp)
  have f0 := frm_0 [10] [] A
  have hT : _ = fC_pollinate c k A := (fC_pollinate.eq_1 c k A).symm
  refine ⟨Nat.le_of_ble_eq_true rfl, [(13, [(0, 2, 0), (1, 0, 0), (2, 0, 0), (3, 0, 0), (4, 0, 0)], fun zs B nn => match zs with | [l1, l2, s, l] => iva IC B ∧ ivf JC B ∧ frm [10] [] A B ∧ nn = (6 - l : Int).toNat ∧ (l1 = c) ∧ (l2 = k) ∧ (0 ≤ l) ∧ (l ≤ 6) ∧ (0 ≤ c) ∧ (c ≤ 7) ∧ (∃ nf : Nat, nn < nf ∧ fC_pollinate_L nf 13 [l1, l2, s, l] B = fC_pollinate c k A) | _ => False)], ?_, ?_⟩
  · refine ⟨⟨rfl, ?_⟩, trivial⟩
    · refine fun l1 l2 s l B mm hB hz hI => ?_
      obtain ⟨i1, j1, f1, hm, c0, c1, c2, c3, c4, c5, ⟨nf, hnf, hT⟩⟩ := hI
      obtain ⟨hz_l1, hz_l2, hz_s, hz_l, _⟩ := hz
      obtain ⟨ng, rfl⟩ : ∃ k, nf = k + 1 := ⟨nf - 1, by omega⟩
      replace hT := (fC_pollinate_c13.eq_1 (fC_pollinate_L ng) l1 l2 s l B).symm.trans ((fC_pollinate_L13 ng l1 l2 s l B).symm.trans hT)
      refine And.intro (fun h7 => ?_) (fun h7 => ?_)
      · replace hT := (if_neg (Int.not_lt.mpr h7)).symm.trans hT
        exact hK _ i1 j1 f1 _ (by first | assumption | exact wI_rng _ | exact ⟨by (first | (clear hm hnf; omega) | omega), by (first | (clear hm hnf; omega) | omega)⟩ | exact i_rng _ | (subst_vars; exact i_rng _) | exact (hA _ _).2 rfl) (congrArg Prod.fst hT) (congrArg Prod.snd hT)
      · replace hT := (if_pos h7).symm.trans hT
        refine fun v8 e9 => ?_
        replace hT := qlc e9 hT
        refine fun v10 e11 => ?_
        replace hT := qlc e11 hT
        have w12 := wI_rng v10
        refine Exists.intro (wI v10) (And.intro rfl (And.intro (fun h13 => ?_) (fun h13 => ?_)))
        · replace hT := (if_pos h13).symm.trans hT
          obtain ⟨v14, e15⟩ : ∃ v, v = B 6 (wI v10) := ⟨_, rfl⟩
          refine And.intro (fun h16 => by exfalso; omega) (fun h16 => ?_)
          refine And.intro (by (first | (clear hm hnf; omega) | omega)) (fun v17 gv17 e18 => ?_)
          replace hT := qlc e18 hT
          have b19 := iva_at i1 2 rfl (i := v10) (by (first | (clear hm hnf; omega) | omega)) (by (first | (clear hm hnf; omega) | omega))
          refine And.intro (fun h20 => ?_) (fun h20 => ?_)
          · replace hT := (if_neg h20).symm.trans hT
            refine fun v21 e22 => ?_
            replace hT := qlc e22 hT
            have w23 := wI_rng v21
            have w24 : wI v21 = v21 := wI_id (by (first | (clear hm hnf; omega) | omega))
            exact Exists.intro (6 - ((wI v21)) : Int).toNat (And.intro (by first | exact qtn hm (by (try clear hm hnf); omega) | omega) (And.intro i1 (And.intro j1 (And.intro f1 (And.intro rfl (And.intro (by (first | (clear hm hnf; omega) | omega)) (And.intro (by (first | (clear hm hnf; omega) | omega)) (And.intro (by (first | (clear hm hnf; omega) | omega)) (And.intro (by (first | (clear hm hnf; omega) | omega)) (And.intro (by (first | (clear hm hnf; omega) | omega)) (And.intro (by (first | (clear hm hnf; omega) | omega)) (Exists.intro ng (And.intro (by first | exact qtm hm hnf (by (try clear hm hnf); omega) | omega) hT)))))))))))))
          · replace hT := (if_pos h20).symm.trans hT
            refine And.intro (by (first | (clear hm hnf; omega) | omega)) (fun v25 gv25 e26 => ?_)
            replace hT := qlc e26 hT
            have b27 := iva_at i1 5 rfl (i := v10) (by (first | (clear hm hnf; omega) | omega)) (by (first | (clear hm hnf; omega) | omega))
            refine And.intro (fun h28 => ?_) (fun h28 => ?_)
            · replace hT := (if_neg h28).symm.trans hT
              refine fun v29 e30 => ?_
              replace hT := qlc e30 hT
              have w31 := wI_rng v29
              have w32 : wI v29 = v29 := wI_id (by (first | (clear hm hnf; omega) | omega))
              exact Exists.intro (6 - ((wI v29)) : Int).toNat (And.intro (by first | exact qtn hm (by (try clear hm hnf); omega) | omega) (And.intro i1 (And.intro j1 (And.intro f1 (And.intro rfl (And.intro (by (first | (clear hm hnf; omega) | omega)) (And.intro (by (first | (clear hm hnf; omega) | omega)) (And.intro (by (first | (clear hm hnf; omega) | omega)) (And.intro (by (first | (clear hm hnf; omega) | omega)) (And.intro (by (first | (clear hm hnf; omega) | omega)) (And.intro (by (first | (clear hm hnf; omega) | omega)) (Exists.intro ng (And.intro (by first | exact qtm hm hnf (by (try clear hm hnf); omega) | omega) hT)))))))))))))
            · replace hT := (if_pos h28).symm.trans hT
              refine And.intro (by (first | (clear hm hnf; omega) | omega)) (And.intro (by (first | (clear hm hnf; omega) | omega)) (fun A33 e34 => ?_))
              replace hT := qlc e34 hT
              have i35 := iva_st i1 e34 (And.intro (by (first | (clear hm hnf; omega) | omega)) trivial)
              have j36 := ivf_sa j1 e34 rfl
              have f37 := frm_s f1 e34 rfl
              refine fun v38 e39 => ?_
              replace hT := qlc e39 hT
              refine fun v40 e41 => ?_
              replace hT := qlc e41 hT
              have w42 := wI_rng v38
              have w43 := wI_rng v40
              have w44 : wI v40 = v40 := wI_id (by (first | (clear hm hnf; omega) | omega))
              exact Exists.intro (6 - ((wI v40)) : Int).toNat (And.intro (by first | exact qtn hm (by (try clear hm hnf); omega) | omega) (And.intro i35 (And.intro j36 (And.intro f37 (And.intro rfl (And.intro (by (first | (clear hm hnf; omega) | omega)) (And.intro (by (first | (clear hm hnf; omega) | omega)) (And.intro (by (first | (clear hm hnf; omega) | omega)) (And.intro (by (first | (clear hm hnf; omega) | omega)) (And.intro (by (first | (clear hm hnf; omega) | omega)) (And.intro (by (first | (clear hm hnf; omega) | omega)) (Exists.intro ng (And.intro (by first | exact qtm hm hnf (by (try clear hm hnf); omega) | omega) hT)))))))))))))
        · replace hT := (if_neg h13).symm.trans hT
          refine And.intro (fun h45 => ?_) (fun h45 => by exfalso; omega)
          refine fun v46 e47 => ?_
          replace hT := qlc e47 hT
          have w48 := wI_rng v46
          have w49 : wI v46 = v46 := wI_id (by (first | (clear hm hnf; omega) | omega))
          exact Exists.intro (6 - ((wI v46)) : Int).toNat (And.intro (by first | exact qtn hm (by (try clear hm hnf); omega) | omega) (And.intro i1 (And.intro j1 (And.intro f1 (And.intro rfl (And.intro (by (first | (clear hm hnf; omega) | omega)) (And.intro (by (first | (clear hm hnf; omega) | omega)) (And.intro (by (first | (clear hm hnf; omega) | omega)) (And.intro (by (first | (clear hm hnf; omega) | omega)) (And.intro (by (first | (clear hm hnf; omega) | omega)) (And.intro (by (first | (clear hm hnf; omega) | omega)) (Exists.intro ng (And.intro (by first | exact qtm hm hnf (by (try clear hm hnf); omega) | omega) hT)))))))))))))
  · refine Exists.intro c (And.intro rfl (And.intro (fun h1 => ?_) (fun h1 => ?_)))
    · replace hT := (if_pos h1).symm.trans hT
      refine And.intro (fun h2 => by exfalso; omega) (fun h2 => ?_)
      refine Exists.intro k (Exists.intro 5 (And.intro rfl (And.intro (fun h3 => ?_) (fun h3 => ?_))))
      · replace hT := (if_pos h3).symm.trans hT
        refine And.intro (fun h4 => ?_) (fun h4 => by exfalso; omega)
        exact Exists.intro (6 - 0 : Int).toNat (And.intro i0 (And.intro j0 (And.intro f0 (And.intro rfl (And.intro (by (first | (clear hm hnf; omega) | omega)) (And.intro (by (first | (clear hm hnf; omega) | omega)) (And.intro (by (first | (clear hm hnf; omega) | omega)) (And.intro (by (first | (clear hm hnf; omega) | omega)) (And.intro (by (first | (clear hm hnf; omega) | omega)) (And.intro (by (first | (clear hm hnf; omega) | omega)) (Exists.intro 100000 (And.intro (by (first | (clear hm hnf; omega) | omega)) hT))))))))))))
      · replace hT := (if_neg h3).symm.trans hT
        refine And.intro (fun h5 => by exfalso; omega) (fun h5 => ?_)
        exact hK _ i0 j0 f0 _ (by first | assumption | exact wI_rng _ | exact ⟨by (first | (clear hm hnf; omega) | omega), by (first | (clear hm hnf; omega) | omega)⟩ | exact i_rng _ | (subst_vars; exact i_rng _) | exact (hA _ _).2 rfl) (congrArg Prod.fst hT) (congrArg Prod.snd hT)
    · replace hT := (if_neg h1).symm.trans hT
      refine And.intro (fun h6 => ?_) (fun h6 => by exfalso; omega)
      exact hK _ i0 j0 f0 _ (by first | assumption | exact wI_rng _ | exact ⟨by (first | (clear hm hnf; omega) | omega), by (first | (clear hm hnf; omega) | omega)⟩ | exact i_rng _ | (subst_vars; exact i_rng _) | exact (hA _ _).2 rfl) (congrArg Prod.fst hT) (congrArg Prod.snd hT)
theorem pC_pollinate {c k : Int} {A : qA} (hA : qokA LC A) (rg_c : rng c) (rg_k : rng k) (p0 : iva IC A) (p1 : ivf JC A) : qokA LC (fC_pollinate c k A).2 ∧ iva IC (fC_pollinate c k A).2 ∧ ivf JC (fC_pollinate c k A).2 ∧ frm [10] [] A (fC_pollinate c k A).2 ∧ rng (fC_pollinate c k A).1 := by
  obtain ⟨r, B, hB, _, hk⟩ := okM_ex okC_pollinate (as := [rf 0, ni c, ni k]) (K := fun _ B => B = (fC_pollinate c k A).2 ∧ iva IC (fC_pollinate c k A).2 ∧ ivf JC (fC_pollinate c k A).2 ∧ frm [10] [] A (fC_pollinate c k A).2 ∧ rng (fC_pollinate c k A).1) hA (qoks_c (show qok (rf _) from trivial) (qoks_c (rg_c) (qoks_c (rg_k) qoks_n))) ⟨c, k, rfl, ⟨p0, p1⟩, fun A9 i9 j9 f9 r9 g9 x0 x1 => (by rw [← x1]; (try rw [← x0]); exact ⟨rfl, i9, j9, f9, g9⟩)⟩
  exact ⟨hk.1 ▸ hB, hk.2⟩
def fC_planted_c20 (rec : Nat → List Int → qA → Int × qA) (l1 l3 k : Int) (B : qA) : Int × qA := (if k < 48 then qlet (fC_isTold l1 k B) fun r41 => (if r41 = 0 then qlet (k + 1) fun v46 => rec 20 [l1, l3, ((wI v46))] B else (if 0 ≤ k ∧ k ≤ 47 ∧ HG B k then (if 0 ≤ k ∧ k ≤ 47 ∧ HG B k ∧ 0 ≤ B 6 k ∧ B 6 k ≤ 5 then ((-3), B) else qlet (k + 1) fun v57 => rec 20 [l1, l3, ((wI v57))] B) else ((-3), B))) else qlp (fC_choose l1 B) fun r13 A9 => (if r13 = 0 then ((-2), A9) else (if l3 = 10 then qlet (fC_carryOut A9) fun A31 => qlet (A31 63 (fd 7)) fun v39 => (v39, A31) else (if l3 = (-1) then qlet (A9 63 (fd 7)) fun v22 => (v22, A9) else (if l3 = 10 then qlet (A9 63 (fd 7)) fun v29 => (v29, A9) else qlet (fC_kindAt l3 A9) fun r25 => (r25, A9))))))
def fC_planted_L : Nat → Nat → List Int → qA → Int × qA
  | 0 => fun _ _ B => (0, B)
  | nF + 1 => fun k zs B => bif Nat.beq k 20 then (match zs with | [l1, l3, k] => fC_planted_c20 (fC_planted_L nF) l1 l3 k B | _ => (0, B)) else (0, B)
theorem fC_planted_L20 (nF : Nat) (l1 l3 k : Int) (B : qA) : fC_planted_L (nF + 1) 20 [l1, l3, k] B = fC_planted_c20 (fC_planted_L nF) l1 l3 k B := (congrFun (congrFun (congrFun (fC_planted_L.eq_2 nF) 20) [l1, l3, k]) B).trans (qL1 rfl rfl)
def fC_planted (x w : Int) (A : qA) : Int × qA := qlet (fC_toldCells x 5 A) fun r1 => (if r1 < 1 then ((-3), A) else (if w < (-1) then ((-3), A) else (if w < r1 then (fC_planted_L 100000) 20 [x, w, 0] A else (if w = 10 then (fC_planted_L 100000) 20 [x, w, 0] A else ((-3), A)))))
def sC_planted : qS := fun as A K => ∃ x w : Int, as = [rf 0, nl x, ni w] ∧ (iva IC A ∧ ivf JC A) ∧ (∀ A' : qA, iva IC A' → ivf JC A' → frm [64, 65, 66, 67, 6, 7, 10] [(63, 6), (63, 7)] A A' → ∀ r : Int, rng r → (r = (fC_planted x w A).1) → (A' = (fC_planted x w A).2) → K (some (ni r)) A')
theorem okC_planted : okM LC 8 121 sC_planted := by
  refine qmeth [] true [(143, sC_toldCells), (38, sC_choose), (43, sC_kindAt), (42, sC_carryOut), (142, sC_isTold), (21, sC_hangs), (22, sC_hasCrop)] 75 rfl ⟨okC_toldCells.le (by decide), ⟨okC_choose.le (by decide), ⟨okC_kindAt.le (by decide), ⟨okC_carryOut.le (by decide), ⟨okC_isTold.le (by decide), ⟨okC_hangs.le (by decide), ⟨okC_hasCrop.le (by decide), trivial⟩⟩⟩⟩⟩⟩⟩ ?_
  rintro _ A K hA has ⟨x, w, rfl, ⟨i0, j0⟩, hK⟩
  have rg_x : rngL x := has (nl x) (by simp)
  have rg_w : rng w := has (ni w) (by simp)
  have f0 := frm_0 [64, 65, 66, 67, 6, 7, 10] [(63, 6), (63, 7)] A
  have hT : _ = fC_planted x w A := (fC_planted.eq_1 x w A).symm
  refine ⟨Nat.le_of_ble_eq_true rfl, [(20, [(0, 2, 0), (1, 1, 0), (3, 0, 0), (5, 0, 0)], fun zs B nn => match zs with | [l1, l3, k] => iva IC B ∧ ivf JC B ∧ frm [64, 65, 66, 67, 6, 7, 10] [(63, 6), (63, 7)] A B ∧ nn = (48 - k : Int).toNat ∧ (l1 = x) ∧ (l3 = w) ∧ (0 ≤ k) ∧ (k ≤ 48) ∧ (∃ nf : Nat, nn < nf ∧ fC_planted_L nf 20 [l1, l3, k] B = fC_planted x w A) | _ => False)], ?_, ?_⟩
  · refine ⟨⟨rfl, ?_⟩, trivial⟩
    · refine fun l1 l3 k B mm hB hz hI => ?_
      obtain ⟨i1, j1, f1, hm, c0, c1, c2, c3, ⟨nf, hnf, hT⟩⟩ := hI
      obtain ⟨hz_l1, hz_l3, hz_k, _⟩ := hz
      obtain ⟨ng, rfl⟩ : ∃ k, nf = k + 1 := ⟨nf - 1, by omega⟩
      replace hT := (fC_planted_c20.eq_1 (fC_planted_L ng) l1 l3 k B).symm.trans ((fC_planted_L20 ng l1 l3 k B).symm.trans hT)
      refine And.intro (fun h8 => ?_) (fun h8 => ?_)
      · replace hT := (if_neg (Int.not_lt.mpr h8)).symm.trans hT
        refine Exists.intro l1 (And.intro rfl (And.intro (And.intro i1 j1) (fun A9 i10 j11 f12 r13 g16 g17 g14 g15 => ?_)))
        replace hT := qlpc g14 g15 hT
        clear g14 g15
        have f18 := frm_c f1 f12 rfl
        refine And.intro (fun h19 => ?_) (fun h19 => ?_)
        · replace hT := (if_neg h19).symm.trans hT
          refine And.intro (fun h20 => ?_) (fun h20 => ?_)
          · replace hT := (if_neg h20).symm.trans hT
            refine And.intro (fun h21 => ?_) (fun h21 => ?_)
            · replace hT := (if_pos h21).symm.trans hT
              refine fun v22 gv22 e23 => ?_
              replace hT := qlc e23 hT
              exact hK _ i10 j11 f18 _ (by first | assumption | exact wI_rng _ | exact ⟨by (first | (clear hm hnf; omega) | omega), by (first | (clear hm hnf; omega) | omega)⟩ | exact i_rng _ | (subst_vars; exact i_rng _) | exact (hA _ _).2 rfl) (congrArg Prod.fst hT) (congrArg Prod.snd hT)
            · replace hT := (if_neg h21).symm.trans hT
              refine And.intro (fun h24 => ?_) (fun h24 => ?_)
              · replace hT := (if_neg h24).symm.trans hT
                refine Exists.intro l3 (And.intro rfl (And.intro (And.intro i10 j11) (fun r25 g27 g28 g26 => ?_)))
                replace hT := qlc g26 hT
                clear g26
                exact hK _ i10 j11 f18 _ (by first | assumption | exact wI_rng _ | exact ⟨by (first | (clear hm hnf; omega) | omega), by (first | (clear hm hnf; omega) | omega)⟩ | exact i_rng _ | (subst_vars; exact i_rng _) | exact (hA _ _).2 rfl) (congrArg Prod.fst hT) (congrArg Prod.snd hT)
              · replace hT := (if_pos h24).symm.trans hT
                refine fun v29 gv29 e30 => ?_
                replace hT := qlc e30 hT
                exact hK _ i10 j11 f18 _ (by first | assumption | exact wI_rng _ | exact ⟨by (first | (clear hm hnf; omega) | omega), by (first | (clear hm hnf; omega) | omega)⟩ | exact i_rng _ | (subst_vars; exact i_rng _) | exact (hA _ _).2 rfl) (congrArg Prod.fst hT) (congrArg Prod.snd hT)
          · replace hT := (if_pos h20).symm.trans hT
            refine And.intro rfl (And.intro (And.intro i10 j11) (fun A31 i32 j33 f34 g35 => ?_))
            replace hT := qlc g35 hT
            have f36 := frm_c f18 f34 rfl
            refine And.intro (fun h37 => by exfalso; omega) (fun h37 => ?_)
            refine And.intro (fun h38 => by exfalso; omega) (fun h38 => ?_)
            refine fun v39 gv39 e40 => ?_
            replace hT := qlc e40 hT
            exact hK _ i32 j33 f36 _ (by first | assumption | exact wI_rng _ | exact ⟨by (first | (clear hm hnf; omega) | omega), by (first | (clear hm hnf; omega) | omega)⟩ | exact i_rng _ | (subst_vars; exact i_rng _) | exact (hA _ _).2 rfl) (congrArg Prod.fst hT) (congrArg Prod.snd hT)
        · replace hT := (if_pos h19).symm.trans hT
          exact hK _ i10 j11 f18 _ (by first | assumption | exact wI_rng _ | exact ⟨by (first | (clear hm hnf; omega) | omega), by (first | (clear hm hnf; omega) | omega)⟩ | exact i_rng _ | (subst_vars; exact i_rng _) | exact (hA _ _).2 rfl) (congrArg Prod.fst hT) (congrArg Prod.snd hT)
      · replace hT := (if_pos h8).symm.trans hT
        refine Exists.intro l1 (Exists.intro k (And.intro rfl (fun r41 g43 g44 g42 => ?_)))
        replace hT := qlc g42 hT
        clear g42
        refine And.intro (fun h45 => ?_) (fun h45 => ?_)
        · replace hT := (if_pos h45).symm.trans hT
          refine fun v46 e47 => ?_
          replace hT := qlc e47 hT
          have w48 := wI_rng v46
          have w49 : wI v46 = v46 := wI_id (by (first | (clear hm hnf; omega) | omega))
          exact Exists.intro (48 - ((wI v46)) : Int).toNat (And.intro (by first | exact qtn hm (by (try clear hm hnf); omega) | omega) (And.intro i1 (And.intro j1 (And.intro f1 (And.intro rfl (And.intro (by (first | (clear hm hnf; omega) | omega)) (And.intro (by (first | (clear hm hnf; omega) | omega)) (And.intro (by (first | (clear hm hnf; omega) | omega)) (And.intro (by (first | (clear hm hnf; omega) | omega)) (Exists.intro ng (And.intro (by first | exact qtm hm hnf (by (try clear hm hnf); omega) | omega) hT)))))))))))
        · replace hT := (if_neg h45).symm.trans hT
          refine Exists.intro k (And.intro rfl (And.intro (fun h50 => ?_) (fun h50 => ?_)))
          · replace hT := (if_pos h50).symm.trans hT
            refine And.intro (fun h51 => by exfalso; omega) (fun h51 => ?_)
            refine Exists.intro k (And.intro rfl (And.intro (fun h52 => ?_) (fun h52 => ?_)))
            · replace hT := (if_pos h52).symm.trans hT
              obtain ⟨v53, e54⟩ : ∃ v, v = B 6 k := ⟨_, rfl⟩
              refine And.intro (fun h55 => by exfalso; omega) (fun h55 => ?_)
              exact hK _ i1 j1 f1 _ (by first | assumption | exact wI_rng _ | exact ⟨by (first | (clear hm hnf; omega) | omega), by (first | (clear hm hnf; omega) | omega)⟩ | exact i_rng _ | (subst_vars; exact i_rng _) | exact (hA _ _).2 rfl) (congrArg Prod.fst hT) (congrArg Prod.snd hT)
            · replace hT := (if_neg h52).symm.trans hT
              refine And.intro (fun h56 => ?_) (fun h56 => by exfalso; omega)
              refine fun v57 e58 => ?_
              replace hT := qlc e58 hT
              have w59 := wI_rng v57
              have w60 : wI v57 = v57 := wI_id (by (first | (clear hm hnf; omega) | omega))
              exact Exists.intro (48 - ((wI v57)) : Int).toNat (And.intro (by first | exact qtn hm (by (try clear hm hnf); omega) | omega) (And.intro i1 (And.intro j1 (And.intro f1 (And.intro rfl (And.intro (by (first | (clear hm hnf; omega) | omega)) (And.intro (by (first | (clear hm hnf; omega) | omega)) (And.intro (by (first | (clear hm hnf; omega) | omega)) (And.intro (by (first | (clear hm hnf; omega) | omega)) (Exists.intro ng (And.intro (by first | exact qtm hm hnf (by (try clear hm hnf); omega) | omega) hT)))))))))))
          · replace hT := (if_neg h50).symm.trans hT
            refine And.intro (fun h61 => ?_) (fun h61 => by exfalso; omega)
            exact hK _ i1 j1 f1 _ (by first | assumption | exact wI_rng _ | exact ⟨by (first | (clear hm hnf; omega) | omega), by (first | (clear hm hnf; omega) | omega)⟩ | exact i_rng _ | (subst_vars; exact i_rng _) | exact (hA _ _).2 rfl) (congrArg Prod.fst hT) (congrArg Prod.snd hT)
  · refine Exists.intro x (Exists.intro 5 (And.intro rfl (fun r1 g3 g2 => ?_)))
    replace hT := qlc g2 hT
    clear g2
    refine And.intro (fun h4 => ?_) (fun h4 => ?_)
    · replace hT := (if_pos h4).symm.trans hT
      exact hK _ i0 j0 f0 _ (by first | assumption | exact wI_rng _ | exact ⟨by (first | (clear hm hnf; omega) | omega), by (first | (clear hm hnf; omega) | omega)⟩ | exact i_rng _ | (subst_vars; exact i_rng _) | exact (hA _ _).2 rfl) (congrArg Prod.fst hT) (congrArg Prod.snd hT)
    · replace hT := (if_neg (Int.not_lt.mpr h4)).symm.trans hT
      refine And.intro (fun h5 => ?_) (fun h5 => ?_)
      · replace hT := (if_pos h5).symm.trans hT
        exact hK _ i0 j0 f0 _ (by first | assumption | exact wI_rng _ | exact ⟨by (first | (clear hm hnf; omega) | omega), by (first | (clear hm hnf; omega) | omega)⟩ | exact i_rng _ | (subst_vars; exact i_rng _) | exact (hA _ _).2 rfl) (congrArg Prod.fst hT) (congrArg Prod.snd hT)
      · replace hT := (if_neg (Int.not_lt.mpr h5)).symm.trans hT
        refine And.intro (fun h6 => ?_) (fun h6 => ?_)
        · replace hT := (if_pos h6).symm.trans hT
          exact Exists.intro (48 - 0 : Int).toNat (And.intro i0 (And.intro j0 (And.intro f0 (And.intro rfl (And.intro (by (first | (clear hm hnf; omega) | omega)) (And.intro (by (first | (clear hm hnf; omega) | omega)) (And.intro (by (first | (clear hm hnf; omega) | omega)) (And.intro (by (first | (clear hm hnf; omega) | omega)) (Exists.intro 100000 (And.intro (by (first | (clear hm hnf; omega) | omega)) hT))))))))))
        · replace hT := (if_neg (Int.not_lt.mpr h6)).symm.trans hT
          refine And.intro (fun h7 => ?_) (fun h7 => ?_)
          · replace hT := (if_pos h7).symm.trans hT
            exact Exists.intro (48 - 0 : Int).toNat (And.intro i0 (And.intro j0 (And.intro f0 (And.intro rfl (And.intro (by (first | (clear hm hnf; omega) | omega)) (And.intro (by (first | (clear hm hnf; omega) | omega)) (And.intro (by (first | (clear hm hnf; omega) | omega)) (And.intro (by (first | (clear hm hnf; omega) | omega)) (Exists.intro 100000 (And.intro (by (first | (clear hm hnf; omega) | omega)) hT))))))))))
          · replace hT := (if_neg h7).symm.trans hT
            exact hK _ i0 j0 f0 _ (by first | assumption | exact wI_rng _ | exact ⟨by (first | (clear hm hnf; omega) | omega), by (first | (clear hm hnf; omega) | omega)⟩ | exact i_rng _ | (subst_vars; exact i_rng _) | exact (hA _ _).2 rfl) (congrArg Prod.fst hT) (congrArg Prod.snd hT)
theorem pC_planted {x w : Int} {A : qA} (hA : qokA LC A) (rg_x : rngL x) (rg_w : rng w) (p0 : iva IC A) (p1 : ivf JC A) : qokA LC (fC_planted x w A).2 ∧ iva IC (fC_planted x w A).2 ∧ ivf JC (fC_planted x w A).2 ∧ frm [64, 65, 66, 67, 6, 7, 10] [(63, 6), (63, 7)] A (fC_planted x w A).2 ∧ rng (fC_planted x w A).1 := by
  obtain ⟨r, B, hB, _, hk⟩ := okM_ex okC_planted (as := [rf 0, nl x, ni w]) (K := fun _ B => B = (fC_planted x w A).2 ∧ iva IC (fC_planted x w A).2 ∧ ivf JC (fC_planted x w A).2 ∧ frm [64, 65, 66, 67, 6, 7, 10] [(63, 6), (63, 7)] A (fC_planted x w A).2 ∧ rng (fC_planted x w A).1) hA (qoks_c (show qok (rf _) from trivial) (qoks_c (rg_x) (qoks_c (rg_w) qoks_n))) ⟨x, w, rfl, ⟨p0, p1⟩, fun A9 i9 j9 f9 r9 g9 x0 x1 => (by rw [← x1]; (try rw [← x0]); exact ⟨rfl, i9, j9, f9, g9⟩)⟩
  exact ⟨hk.1 ▸ hB, hk.2⟩
def fC_drought (d c w : Int) (A : qA) : Int × qA := (if 0 ≤ d ∧ d ≤ 36 then (if c < 1 then ((-2), A) else (if c < 256 then qlet (fC_bitsI c A) fun r7 => (if 4 < r7 then ((-2), A) else (if w < (-1) then ((-2), A) else (if w < r7 then qlet (fC_share d c A) fun A13 => (if w = (-1) then qlet (A13 44 (fd 10)) fun v24 => (v24, A13) else qlet (fC_dropsAt w A13) fun r20 => (r20, A13)) else ((-2), A)))) else ((-2), A))) else ((-2), A))
def sC_drought : qS := fun as A K => ∃ d c w : Int, as = [rf 0, ni d, ni c, ni w] ∧ (iva IC A ∧ ivf JC A ∧ (LW A) ∧ (KO A)) ∧ (∀ A' : qA, iva IC A' → ivf JC A' → frm [49, 47, 48, 51, 45, 46, 50, 35, 43, 78] [(44, 9), (44, 10), (36, 9), (71, 9)] A A' → ∀ r : Int, rng r → (r = (fC_drought d c w A).1) → (A' = (fC_drought d c w A).2) → K (some (ni r)) A')
theorem okC_drought : okM LC 12 122 sC_drought := by
  refine qmeth [] true [(138, sC_within), (248, sC_bitsI), (89, sC_share), (93, sC_dropsAt)] 49 rfl ⟨okC_within.le (by decide), ⟨okC_bitsI.le (by decide), ⟨okC_share.le (by decide), ⟨okC_dropsAt.le (by decide), trivial⟩⟩⟩⟩ ?_
  rintro _ A K hA has ⟨d, c, w, rfl, ⟨i0, j0, p1, p2⟩, hK⟩
  have rg_d : rng d := has (ni d) (by simp)
  have rg_c : rng c := has (ni c) (by simp)
  have rg_w : rng w := has (ni w) (by simp)
  have f0 := frm_0 [49, 47, 48, 51, 45, 46, 50, 35, 43, 78] [(44, 9), (44, 10), (36, 9), (71, 9)] A
  have hT : _ = fC_drought d c w A := (fC_drought.eq_1 d c w A).symm
  refine ⟨Nat.le_of_ble_eq_true rfl, [], trivial, ?_⟩
  refine Exists.intro d (Exists.intro 36 (And.intro rfl (And.intro (fun h3 => ?_) (fun h3 => ?_))))
  · replace hT := (if_pos h3).symm.trans hT
    refine And.intro (fun h4 => by exfalso; omega) (fun h4 => ?_)
    refine And.intro (fun h5 => ?_) (fun h5 => ?_)
    · replace hT := (if_pos h5).symm.trans hT
      exact hK _ i0 j0 f0 _ (by first | assumption | exact wI_rng _ | exact ⟨by (first | (clear hm hnf; omega) | omega), by (first | (clear hm hnf; omega) | omega)⟩ | exact i_rng _ | (subst_vars; exact i_rng _) | exact (hA _ _).2 rfl) (congrArg Prod.fst hT) (congrArg Prod.snd hT)
    · replace hT := (if_neg (Int.not_lt.mpr h5)).symm.trans hT
      refine And.intro (fun h6 => ?_) (fun h6 => ?_)
      · replace hT := (if_pos h6).symm.trans hT
        refine Exists.intro c (And.intro rfl (fun r7 g9 g8 => ?_))
        replace hT := qlc g8 hT
        clear g8
        refine And.intro (fun h10 => ?_) (fun h10 => ?_)
        · replace hT := (if_pos h10).symm.trans hT
          exact hK _ i0 j0 f0 _ (by first | assumption | exact wI_rng _ | exact ⟨by (first | (clear hm hnf; omega) | omega), by (first | (clear hm hnf; omega) | omega)⟩ | exact i_rng _ | (subst_vars; exact i_rng _) | exact (hA _ _).2 rfl) (congrArg Prod.fst hT) (congrArg Prod.snd hT)
        · replace hT := (if_neg (Int.not_lt.mpr h10)).symm.trans hT
          refine And.intro (fun h11 => ?_) (fun h11 => ?_)
          · replace hT := (if_pos h11).symm.trans hT
            exact hK _ i0 j0 f0 _ (by first | assumption | exact wI_rng _ | exact ⟨by (first | (clear hm hnf; omega) | omega), by (first | (clear hm hnf; omega) | omega)⟩ | exact i_rng _ | (subst_vars; exact i_rng _) | exact (hA _ _).2 rfl) (congrArg Prod.fst hT) (congrArg Prod.snd hT)
          · replace hT := (if_neg (Int.not_lt.mpr h11)).symm.trans hT
            refine And.intro (fun h12 => ?_) (fun h12 => ?_)
            · replace hT := (if_pos h12).symm.trans hT
              refine Exists.intro d (Exists.intro c (And.intro rfl (And.intro (And.intro i0 (And.intro j0 (And.intro (by (first | (clear hm hnf; omega) | omega)) (And.intro (by (first | (clear hm hnf; omega) | omega)) (And.intro (LW_fr p1 f0 rfl) (KO_fr p2 f0 rfl)))))) (fun A13 i14 j15 f16 g17 => ?_))))
              replace hT := qlc g17 hT
              have f18 := frm_c f0 f16 rfl
              refine And.intro (fun h19 => ?_) (fun h19 => ?_)
              · replace hT := (if_neg h19).symm.trans hT
                refine Exists.intro w (And.intro rfl (And.intro (And.intro i14 j15) (fun r20 g22 g23 g21 => ?_)))
                replace hT := qlc g21 hT
                clear g21
                exact hK _ i14 j15 f18 _ (by first | assumption | exact wI_rng _ | exact ⟨by (first | (clear hm hnf; omega) | omega), by (first | (clear hm hnf; omega) | omega)⟩ | exact i_rng _ | (subst_vars; exact i_rng _) | exact (hA _ _).2 rfl) (congrArg Prod.fst hT) (congrArg Prod.snd hT)
              · replace hT := (if_pos h19).symm.trans hT
                refine fun v24 gv24 e25 => ?_
                replace hT := qlc e25 hT
                exact hK _ i14 j15 f18 _ (by first | assumption | exact wI_rng _ | exact ⟨by (first | (clear hm hnf; omega) | omega), by (first | (clear hm hnf; omega) | omega)⟩ | exact i_rng _ | (subst_vars; exact i_rng _) | exact (hA _ _).2 rfl) (congrArg Prod.fst hT) (congrArg Prod.snd hT)
            · replace hT := (if_neg (Int.not_lt.mpr h12)).symm.trans hT
              exact hK _ i0 j0 f0 _ (by first | assumption | exact wI_rng _ | exact ⟨by (first | (clear hm hnf; omega) | omega), by (first | (clear hm hnf; omega) | omega)⟩ | exact i_rng _ | (subst_vars; exact i_rng _) | exact (hA _ _).2 rfl) (congrArg Prod.fst hT) (congrArg Prod.snd hT)
      · replace hT := (if_neg (Int.not_lt.mpr h6)).symm.trans hT
        exact hK _ i0 j0 f0 _ (by first | assumption | exact wI_rng _ | exact ⟨by (first | (clear hm hnf; omega) | omega), by (first | (clear hm hnf; omega) | omega)⟩ | exact i_rng _ | (subst_vars; exact i_rng _) | exact (hA _ _).2 rfl) (congrArg Prod.fst hT) (congrArg Prod.snd hT)
  · replace hT := (if_neg h3).symm.trans hT
    refine And.intro (fun h26 => ?_) (fun h26 => by exfalso; omega)
    exact hK _ i0 j0 f0 _ (by first | assumption | exact wI_rng _ | exact ⟨by (first | (clear hm hnf; omega) | omega), by (first | (clear hm hnf; omega) | omega)⟩ | exact i_rng _ | (subst_vars; exact i_rng _) | exact (hA _ _).2 rfl) (congrArg Prod.fst hT) (congrArg Prod.snd hT)
theorem pC_drought {d c w : Int} {A : qA} (hA : qokA LC A) (rg_d : rng d) (rg_c : rng c) (rg_w : rng w) (p0 : iva IC A) (p1 : ivf JC A) (p2 : LW A) (p3 : KO A) : qokA LC (fC_drought d c w A).2 ∧ iva IC (fC_drought d c w A).2 ∧ ivf JC (fC_drought d c w A).2 ∧ frm [49, 47, 48, 51, 45, 46, 50, 35, 43, 78] [(44, 9), (44, 10), (36, 9), (71, 9)] A (fC_drought d c w A).2 ∧ rng (fC_drought d c w A).1 := by
  obtain ⟨r, B, hB, _, hk⟩ := okM_ex okC_drought (as := [rf 0, ni d, ni c, ni w]) (K := fun _ B => B = (fC_drought d c w A).2 ∧ iva IC (fC_drought d c w A).2 ∧ ivf JC (fC_drought d c w A).2 ∧ frm [49, 47, 48, 51, 45, 46, 50, 35, 43, 78] [(44, 9), (44, 10), (36, 9), (71, 9)] A (fC_drought d c w A).2 ∧ rng (fC_drought d c w A).1) hA (qoks_c (show qok (rf _) from trivial) (qoks_c (rg_d) (qoks_c (rg_c) (qoks_c (rg_w) qoks_n)))) ⟨d, c, w, rfl, ⟨p0, p1, p2, p3⟩, fun A9 i9 j9 f9 r9 g9 x0 x1 => (by rw [← x1]; (try rw [← x0]); exact ⟨rfl, i9, j9, f9, g9⟩)⟩
  exact ⟨hk.1 ▸ hB, hk.2⟩
def fC_mended (x w : Int) (A : qA) : Int × qA := qlet (fC_toldCells x 8 A) fun r1 => (if r1 < 1 then ((-3), A) else qlet (A 1 (fd 0)) fun v5 => qlet (ja x v5) fun v7 => qlet ((0 : Int)) fun v9 => qlet (jc v7 v9) fun v11 => (if v11 = 0 then (if w < (-1) then ((-3), A) else (if w < r1 then qlet (fC_tell x A) fun A16 => qlet (fC_asMending A16) fun A22 => qlet (fC_solve A22) fun A28 => (if w = (-1) then qlet (fC_least A28) fun r39 => (r39, A28) else qlet (fC_cellAt w A28) fun r35 => (r35, A28)) else ((-3), A))) else ((-3), A)))
def sC_mended : qS := fun as A K => ∃ x w : Int, as = [rf 0, nl x, ni w] ∧ (iva IC A ∧ ivf JC A) ∧ (∀ A' : qA, iva IC A' → ivf JC A' → frm [56, 57, 58, 59, 60, 61, 62] [(55, 7)] A A' → ∀ r : Int, rng r → (r = (fC_mended x w A).1) → (A' = (fC_mended x w A).2) → K (some (ni r)) A')
theorem okC_mended : okM LC 4 123 sC_mended := by
  refine qmeth [] true [(143, sC_toldCells), (63, sC_tell), (66, sC_asMending), (67, sC_solve), (73, sC_cellAt), (72, sC_least)] 54 rfl ⟨okC_toldCells.le (by decide), ⟨okC_tell.le (by decide), ⟨okC_asMending.le (by decide), ⟨okC_solve.le (by decide), ⟨okC_cellAt.le (by decide), ⟨okC_least.le (by decide), trivial⟩⟩⟩⟩⟩⟩ ?_
  rintro _ A K hA has ⟨x, w, rfl, ⟨i0, j0⟩, hK⟩
  have rg_x : rngL x := has (nl x) (by simp)
  have rg_w : rng w := has (ni w) (by simp)
  have f0 := frm_0 [56, 57, 58, 59, 60, 61, 62] [(55, 7)] A
  have hT : _ = fC_mended x w A := (fC_mended.eq_1 x w A).symm
  refine ⟨Nat.le_of_ble_eq_true rfl, [], trivial, ?_⟩
  refine Exists.intro x (Exists.intro 8 (And.intro rfl (fun r1 g3 g2 => ?_)))
  replace hT := qlc g2 hT
  clear g2
  refine And.intro (fun h4 => ?_) (fun h4 => ?_)
  · replace hT := (if_pos h4).symm.trans hT
    exact hK _ i0 j0 f0 _ (by first | assumption | exact wI_rng _ | exact ⟨by (first | (clear hm hnf; omega) | omega), by (first | (clear hm hnf; omega) | omega)⟩ | exact i_rng _ | (subst_vars; exact i_rng _) | exact (hA _ _).2 rfl) (congrArg Prod.fst hT) (congrArg Prod.snd hT)
  · replace hT := (if_neg (Int.not_lt.mpr h4)).symm.trans hT
    refine fun v5 e6 => ?_
    replace hT := qlc e6 hT
    refine fun v7 e8 => ?_
    replace hT := qlc e8 hT
    refine fun (v9 : Int) (e10 : v9 = 0) => ?_
    replace hT := qlc e10 hT
    refine fun v11 e12 => ?_
    replace hT := qlc e12 hT
    refine And.intro (fun h13 => ?_) (fun h13 => ?_)
    · replace hT := (if_neg h13).symm.trans hT
      exact hK _ i0 j0 f0 _ (by first | assumption | exact wI_rng _ | exact ⟨by (first | (clear hm hnf; omega) | omega), by (first | (clear hm hnf; omega) | omega)⟩ | exact i_rng _ | (subst_vars; exact i_rng _) | exact (hA _ _).2 rfl) (congrArg Prod.fst hT) (congrArg Prod.snd hT)
    · replace hT := (if_pos h13).symm.trans hT
      refine And.intro (fun h14 => ?_) (fun h14 => ?_)
      · replace hT := (if_pos h14).symm.trans hT
        exact hK _ i0 j0 f0 _ (by first | assumption | exact wI_rng _ | exact ⟨by (first | (clear hm hnf; omega) | omega), by (first | (clear hm hnf; omega) | omega)⟩ | exact i_rng _ | (subst_vars; exact i_rng _) | exact (hA _ _).2 rfl) (congrArg Prod.fst hT) (congrArg Prod.snd hT)
      · replace hT := (if_neg (Int.not_lt.mpr h14)).symm.trans hT
        refine And.intro (fun h15 => ?_) (fun h15 => ?_)
        · replace hT := (if_pos h15).symm.trans hT
          refine Exists.intro x (And.intro rfl (And.intro (And.intro i0 j0) (fun A16 i17 j18 f19 g20 => ?_)))
          replace hT := qlc g20 hT
          have f21 := frm_c f0 f19 rfl
          refine And.intro rfl (And.intro (And.intro i17 j18) (fun A22 i23 j24 f25 g26 => ?_))
          replace hT := qlc g26 hT
          have f27 := frm_c f21 f25 rfl
          refine And.intro rfl (And.intro (And.intro i23 j24) (fun A28 i29 j30 f31 g32 => ?_))
          replace hT := qlc g32 hT
          have f33 := frm_c f27 f31 rfl
          refine And.intro (fun h34 => ?_) (fun h34 => ?_)
          · replace hT := (if_neg h34).symm.trans hT
            refine Exists.intro w (And.intro rfl (And.intro (And.intro i29 j30) (fun r35 g37 g38 g36 => ?_)))
            replace hT := qlc g36 hT
            clear g36
            exact hK _ i29 j30 f33 _ (by first | assumption | exact wI_rng _ | exact ⟨by (first | (clear hm hnf; omega) | omega), by (first | (clear hm hnf; omega) | omega)⟩ | exact i_rng _ | (subst_vars; exact i_rng _) | exact (hA _ _).2 rfl) (congrArg Prod.fst hT) (congrArg Prod.snd hT)
          · replace hT := (if_pos h34).symm.trans hT
            refine And.intro rfl (And.intro (And.intro i29 j30) (fun r39 g41 g40 => ?_))
            replace hT := qlc g40 hT
            clear g40
            exact hK _ i29 j30 f33 _ (by first | assumption | exact wI_rng _ | exact ⟨by (first | (clear hm hnf; omega) | omega), by (first | (clear hm hnf; omega) | omega)⟩ | exact i_rng _ | (subst_vars; exact i_rng _) | exact (hA _ _).2 rfl) (congrArg Prod.fst hT) (congrArg Prod.snd hT)
        · replace hT := (if_neg (Int.not_lt.mpr h15)).symm.trans hT
          exact hK _ i0 j0 f0 _ (by first | assumption | exact wI_rng _ | exact ⟨by (first | (clear hm hnf; omega) | omega), by (first | (clear hm hnf; omega) | omega)⟩ | exact i_rng _ | (subst_vars; exact i_rng _) | exact (hA _ _).2 rfl) (congrArg Prod.fst hT) (congrArg Prod.snd hT)
theorem pC_mended {x w : Int} {A : qA} (hA : qokA LC A) (rg_x : rngL x) (rg_w : rng w) (p0 : iva IC A) (p1 : ivf JC A) : qokA LC (fC_mended x w A).2 ∧ iva IC (fC_mended x w A).2 ∧ ivf JC (fC_mended x w A).2 ∧ frm [56, 57, 58, 59, 60, 61, 62] [(55, 7)] A (fC_mended x w A).2 ∧ rng (fC_mended x w A).1 := by
  obtain ⟨r, B, hB, _, hk⟩ := okM_ex okC_mended (as := [rf 0, nl x, ni w]) (K := fun _ B => B = (fC_mended x w A).2 ∧ iva IC (fC_mended x w A).2 ∧ ivf JC (fC_mended x w A).2 ∧ frm [56, 57, 58, 59, 60, 61, 62] [(55, 7)] A (fC_mended x w A).2 ∧ rng (fC_mended x w A).1) hA (qoks_c (show qok (rf _) from trivial) (qoks_c (rg_x) (qoks_c (rg_w) qoks_n))) ⟨x, w, rfl, ⟨p0, p1⟩, fun A9 i9 j9 f9 r9 g9 x0 x1 => (by rw [← x1]; (try rw [← x0]); exact ⟨rfl, i9, j9, f9, g9⟩)⟩
  exact ⟨hk.1 ▸ hB, hk.2⟩
def fC_hail_c10 (rec : Nat → List Int → qA → Int) (l1 s c : Int) (A : qA) : Int := (if c < 8 then qlet (fC_highestFall c l1 A) fun r5 => qlet (A 18 c) fun v9 => (if v9 < r5 then qlet (s + 1) fun v15 => qlet (c + 1) fun v17 => rec 10 [l1, v15, v17] A else qlet (c + 1) fun v13 => rec 10 [l1, s, v13] A) else s)
def fC_hail_L : Nat → Nat → List Int → qA → Int
  | 0 => fun _ _ B => 0
  | nF + 1 => fun k zs B => bif Nat.beq k 10 then (match zs with | [l1, s, c] => fC_hail_c10 (fC_hail_L nF) l1 s c B | _ => 0) else 0
theorem fC_hail_L10 (nF : Nat) (l1 s c : Int) (B : qA) : fC_hail_L (nF + 1) 10 [l1, s, c] B = fC_hail_c10 (fC_hail_L nF) l1 s c B := (congrFun (congrFun (congrFun (fC_hail_L.eq_2 nF) 10) [l1, s, c]) B).trans (qL1 rfl rfl)
def fC_hail (k : Int) (A : qA) : Int := (if 0 ≤ k ∧ k ≤ 63 then (fC_hail_L 100000) 10 [k, 0, 0] A else (-1))
def sC_hail : qS := fun as A K => ∃ k : Int, as = [rf 0, ni k] ∧ (iva IC A ∧ ivf JC A) ∧ (∀ r : Int, (-1) ≤ r → r ≤ 8 → (r = fC_hail k A) → K (some (ni r)) A)
theorem okC_hail : okM LC 4 124 sC_hail := by
  refine qmeth [] false [(138, sC_within), (36, sC_highestFall)] 35 rfl ⟨okC_within.le (by decide), ⟨okC_highestFall.le (by decide), trivial⟩⟩ ?_
  rintro _ A K hA has ⟨k, rfl, ⟨i0, j0⟩, hK⟩
  have rg_k : rng k := has (ni k) (by simp)
  have f0 := frm_0 [] [] A
  have hT : _ = fC_hail k A := (fC_hail.eq_1 k A).symm
  refine ⟨Nat.le_of_ble_eq_true rfl, [(10, [(0, 2, 0), (1, 0, 0), (2, 0, 0), (3, 0, 0)], fun zs B nn => match zs with | [l1, s, c] => A = B ∧ nn = (8 - c : Int).toNat ∧ (l1 = k) ∧ (0 ≤ c) ∧ (c ≤ 8) ∧ (0 ≤ s) ∧ (s ≤ c) ∧ (∃ nf : Nat, nn < nf ∧ fC_hail_L nf 10 [l1, s, c] B = fC_hail k A) | _ => False)], ?_, ?_⟩
  · refine ⟨⟨rfl, ?_⟩, trivial⟩
    · refine fun l1 s c B mm hB hz hI => ?_
      obtain ⟨rfl, hm, c0, c1, c2, c3, c4, ⟨nf, hnf, hT⟩⟩ := hI
      obtain ⟨hz_l1, hz_s, hz_c, _⟩ := hz
      obtain ⟨ng, rfl⟩ : ∃ k, nf = k + 1 := ⟨nf - 1, by omega⟩
      replace hT := (fC_hail_c10.eq_1 (fC_hail_L ng) l1 s c A).symm.trans ((fC_hail_L10 ng l1 s c A).symm.trans hT)
      refine And.intro (fun h4 => ?_) (fun h4 => ?_)
      · replace hT := (if_neg (Int.not_lt.mpr h4)).symm.trans hT
        exact hK _ (by (first | (clear hm hnf; omega) | omega)) (by (first | (clear hm hnf; omega) | omega)) hT
      · replace hT := (if_pos h4).symm.trans hT
        refine Exists.intro c (Exists.intro l1 (And.intro rfl (And.intro (And.intro i0 (And.intro j0 (And.intro (by (first | (clear hm hnf; omega) | omega)) (by (first | (clear hm hnf; omega) | omega))))) (fun r5 g7 g8 g6 => ?_))))
        replace hT := qlc g6 hT
        clear g6
        refine And.intro (by (first | (clear hm hnf; omega) | omega)) (fun v9 gv9 e10 => ?_)
        replace hT := qlc e10 hT
        have b11 := iva_at i0 14 rfl (i := c) (by (first | (clear hm hnf; omega) | omega)) (by (first | (clear hm hnf; omega) | omega))
        refine And.intro (fun h12 => ?_) (fun h12 => ?_)
        · replace hT := (if_neg (Int.not_lt.mpr h12)).symm.trans hT
          refine fun v13 e14 => ?_
          replace hT := qlc e14 hT
          exact And.intro (by (first | (clear hm hnf; omega) | omega)) (Exists.intro (8 - v13 : Int).toNat (And.intro (by first | exact qtn hm (by (try clear hm hnf); omega) | omega) (And.intro rfl (And.intro rfl (And.intro (by (first | (clear hm hnf; omega) | omega)) (And.intro (by (first | (clear hm hnf; omega) | omega)) (And.intro (by (first | (clear hm hnf; omega) | omega)) (And.intro (by (first | (clear hm hnf; omega) | omega)) (And.intro (by (first | (clear hm hnf; omega) | omega)) (Exists.intro ng (And.intro (by first | exact qtm hm hnf (by (try clear hm hnf); omega) | omega) hT)))))))))))
        · replace hT := (if_pos h12).symm.trans hT
          refine fun v15 e16 => ?_
          replace hT := qlc e16 hT
          refine fun v17 e18 => ?_
          replace hT := qlc e18 hT
          exact And.intro (by (first | (clear hm hnf; omega) | omega)) (And.intro (by (first | (clear hm hnf; omega) | omega)) (Exists.intro (8 - v17 : Int).toNat (And.intro (by first | exact qtn hm (by (try clear hm hnf); omega) | omega) (And.intro rfl (And.intro rfl (And.intro (by (first | (clear hm hnf; omega) | omega)) (And.intro (by (first | (clear hm hnf; omega) | omega)) (And.intro (by (first | (clear hm hnf; omega) | omega)) (And.intro (by (first | (clear hm hnf; omega) | omega)) (And.intro (by (first | (clear hm hnf; omega) | omega)) (Exists.intro ng (And.intro (by first | exact qtm hm hnf (by (try clear hm hnf); omega) | omega) hT))))))))))))
  · refine Exists.intro k (Exists.intro 63 (And.intro rfl (And.intro (fun h1 => ?_) (fun h1 => ?_))))
    · replace hT := (if_pos h1).symm.trans hT
      refine And.intro (fun h2 => ?_) (fun h2 => by exfalso; omega)
      exact Exists.intro (8 - 0 : Int).toNat (And.intro rfl (And.intro rfl (And.intro (by (first | (clear hm hnf; omega) | omega)) (And.intro (by (first | (clear hm hnf; omega) | omega)) (And.intro (by (first | (clear hm hnf; omega) | omega)) (And.intro (by (first | (clear hm hnf; omega) | omega)) (And.intro (by (first | (clear hm hnf; omega) | omega)) (Exists.intro 100000 (And.intro (by (first | (clear hm hnf; omega) | omega)) hT)))))))))
    · replace hT := (if_neg h1).symm.trans hT
      refine And.intro (fun h3 => by exfalso; omega) (fun h3 => ?_)
      exact hK _ (by (first | (clear hm hnf; omega) | omega)) (by (first | (clear hm hnf; omega) | omega)) hT
theorem pC_hail {k : Int} {A : qA} (hA : qokA LC A) (rg_k : rng k) (p0 : iva IC A) (p1 : ivf JC A) : ((-1) ≤ (fC_hail k A) ∧ (fC_hail k A) ≤ 8) := by
  obtain ⟨r, B, hB, _, hk⟩ := okM_ex okC_hail (as := [rf 0, ni k]) (K := fun _ B => B = A ∧ ((-1) ≤ (fC_hail k A) ∧ (fC_hail k A) ≤ 8)) hA (qoks_c (show qok (rf _) from trivial) (qoks_c (rg_k) qoks_n)) ⟨k, rfl, ⟨p0, p1⟩, fun r9 g8 g9 x0 => (by rw [← x0]; exact ⟨rfl, ⟨g8, g9⟩⟩)⟩
  exact hk.2
def fC_check_c20 (rec : Nat → List Int → qA → Int × qA) (l1 l2 k : Int) (B : qA) : Int × qA := (if k < l2 then (if k < 6 then qlet (l1 * 6) fun v25 => qlet (v25 + k) fun v27 => (if 0 ≤ v27 ∧ v27 ≤ 47 ∧ HG B v27 ∧ 0 ≤ B 6 v27 ∧ B 6 v27 ≤ 5 then qlet (B 7 v27) fun v33 => qlet (fC_numberAt k B) fun r36 => (if r36 = v33 then qlet (k + 1) fun v40 => rec 20 [l1, l2, v40] B else (k, B)) else qlet (fC_numberAt k B) fun r43 => (if r43 = (-1) then qlet (k + 1) fun v47 => rec 20 [l1, l2, v47] B else (k, B))) else (if l2 = 6 then ((-1), B) else qlet (min l2 6) fun v23 => (v23, B))) else (if l2 = 6 then ((-1), B) else qlet (min l2 6) fun v19 => (v19, B)))
def fC_check_L : Nat → Nat → List Int → qA → Int × qA
  | 0 => fun _ _ B => (0, B)
  | nF + 1 => fun k zs B => bif Nat.beq k 20 then (match zs with | [l1, l2, k] => fC_check_c20 (fC_check_L nF) l1 l2 k B | _ => (0, B)) else (0, B)
theorem fC_check_L20 (nF : Nat) (l1 l2 k : Int) (B : qA) : fC_check_L (nF + 1) 20 [l1, l2, k] B = fC_check_c20 (fC_check_L nF) l1 l2 k B := (congrFun (congrFun (congrFun (fC_check_L.eq_2 nF) 20) [l1, l2, k]) B).trans (qL1 rfl rfl)
def fC_check (c n : Int) (A : qA) : Int × qA := (if 0 ≤ c ∧ c ≤ 7 then (if n < 0 then ((-2), A) else qlet (A 52 (fd 1)) fun v4 => qlet (qd v4 4) fun v7 => (if v7 < n then ((-2), A) else qlet (qu A 52 (fd 1) 0) fun A11 => (fC_check_L 100000) 20 [c, n, 0] A11)) else ((-2), A))
def sC_check : qS := fun as A K => ∃ c n : Int, as = [rf 0, ni c, ni n] ∧ (iva IC A ∧ ivf JC A) ∧ (∀ A' : qA, iva IC A' → ivf JC A' → frm [] [(52, 1)] A A' → ∀ r : Int, rng r → (r = (fC_check c n A).1) → (A' = (fC_check c n A).2) → K (some (ni r)) A')
theorem okC_check : okM LC 3 125 sC_check := by
  refine qmeth [] false [(139, sC_isColumn), (22, sC_hasCrop), (85, sC_numberAt)] 70 rfl ⟨okC_isColumn.le (by decide), ⟨okC_hasCrop.le (by decide), ⟨okC_numberAt.le (by decide), trivial⟩⟩⟩ ?_
  rintro _ A K hA has ⟨c, n, rfl, ⟨i0, j0⟩, hK⟩
  have rg_c : rng c := has (ni c) (by simp)
  have rg_n : rng n := has (ni n) (by simp)
  have f0 := frm_0 [] [(52, 1)] A
  have hT : _ = fC_check c n A := (fC_check.eq_1 c n A).symm
  refine ⟨Nat.le_of_ble_eq_true rfl, [(20, [(0, 2, 0), (1, 0, 0), (2, 0, 0), (3, 0, 0)], fun zs B nn => match zs with | [l1, l2, k] => iva IC B ∧ ivf JC B ∧ frm [] [(52, 1)] A B ∧ nn = (6 - k : Int).toNat ∧ (l1 = c) ∧ (l2 = n) ∧ (0 ≤ k) ∧ (k ≤ 6) ∧ (0 ≤ c) ∧ (c ≤ 7) ∧ (0 ≤ n) ∧ (∃ nf : Nat, nn < nf ∧ fC_check_L nf 20 [l1, l2, k] B = fC_check c n A) | _ => False)], ?_, ?_⟩
  · refine ⟨⟨rfl, ?_⟩, trivial⟩
    · refine fun l1 l2 k B mm hB hz hI => ?_
      obtain ⟨i1, j1, f1, hm, c0, c1, c2, c3, c4, c5, c6, ⟨nf, hnf, hT⟩⟩ := hI
      obtain ⟨hz_l1, hz_l2, hz_k, _⟩ := hz
      obtain ⟨ng, rfl⟩ : ∃ k, nf = k + 1 := ⟨nf - 1, by omega⟩
      replace hT := (fC_check_c20.eq_1 (fC_check_L ng) l1 l2 k B).symm.trans ((fC_check_L20 ng l1 l2 k B).symm.trans hT)
      refine And.intro (fun h17 => ?_) (fun h17 => ?_)
      · replace hT := (if_neg (Int.not_lt.mpr h17)).symm.trans hT
        refine And.intro (fun h18 => ?_) (fun h18 => ?_)
        · replace hT := (if_neg h18).symm.trans hT
          refine (fun v19 e20 => ?_)
          replace hT := qlc e20 hT
          exact hK _ i1 j1 f1 _ (by first | assumption | exact wI_rng _ | exact ⟨by (first | (clear hm hnf; omega) | omega), by (first | (clear hm hnf; omega) | omega)⟩ | exact i_rng _ | (subst_vars; exact i_rng _) | exact (hA _ _).2 rfl) (congrArg Prod.fst hT) (congrArg Prod.snd hT)
        · replace hT := (if_pos h18).symm.trans hT
          exact hK _ i1 j1 f1 _ (by first | assumption | exact wI_rng _ | exact ⟨by (first | (clear hm hnf; omega) | omega), by (first | (clear hm hnf; omega) | omega)⟩ | exact i_rng _ | (subst_vars; exact i_rng _) | exact (hA _ _).2 rfl) (congrArg Prod.fst hT) (congrArg Prod.snd hT)
      · replace hT := (if_pos h17).symm.trans hT
        refine And.intro (fun h21 => ?_) (fun h21 => ?_)
        · replace hT := (if_neg (Int.not_lt.mpr h21)).symm.trans hT
          refine And.intro (fun h22 => ?_) (fun h22 => ?_)
          · replace hT := (if_neg h22).symm.trans hT
            refine (fun v23 e24 => ?_)
            replace hT := qlc e24 hT
            exact hK _ i1 j1 f1 _ (by first | assumption | exact wI_rng _ | exact ⟨by (first | (clear hm hnf; omega) | omega), by (first | (clear hm hnf; omega) | omega)⟩ | exact i_rng _ | (subst_vars; exact i_rng _) | exact (hA _ _).2 rfl) (congrArg Prod.fst hT) (congrArg Prod.snd hT)
          · replace hT := (if_pos h22).symm.trans hT
            exact hK _ i1 j1 f1 _ (by first | assumption | exact wI_rng _ | exact ⟨by (first | (clear hm hnf; omega) | omega), by (first | (clear hm hnf; omega) | omega)⟩ | exact i_rng _ | (subst_vars; exact i_rng _) | exact (hA _ _).2 rfl) (congrArg Prod.fst hT) (congrArg Prod.snd hT)
        · replace hT := (if_pos h21).symm.trans hT
          refine fun v25 e26 => ?_
          replace hT := qlc e26 hT
          refine fun v27 e28 => ?_
          replace hT := qlc e28 hT
          refine And.intro (by (first | (clear hm hnf; omega) | omega)) (Exists.intro v27 (And.intro rfl (And.intro (fun h29 => ?_) (fun h29 => ?_))))
          · replace hT := (if_pos h29).symm.trans hT
            obtain ⟨v30, e31⟩ : ∃ v, v = B 6 v27 := ⟨_, rfl⟩
            refine And.intro (fun h32 => by exfalso; omega) (fun h32 => ?_)
            refine And.intro (by (first | (clear hm hnf; omega) | omega)) (fun v33 gv33 e34 => ?_)
            replace hT := qlc e34 hT
            have b35 := iva_at i1 3 rfl (i := v27) (by (first | (clear hm hnf; omega) | omega)) (by (first | (clear hm hnf; omega) | omega))
            refine Exists.intro k (And.intro rfl (And.intro (And.intro i1 (And.intro j1 (And.intro (by (first | (clear hm hnf; omega) | omega)) (by (first | (clear hm hnf; omega) | omega))))) (fun r36 g38 g37 => ?_)))
            replace hT := qlc g37 hT
            clear g37
            refine And.intro (fun h39 => ?_) (fun h39 => ?_)
            · replace hT := (if_pos h39).symm.trans hT
              refine fun v40 e41 => ?_
              replace hT := qlc e41 hT
              exact And.intro (by (first | (clear hm hnf; omega) | omega)) (Exists.intro (6 - v40 : Int).toNat (And.intro (by first | exact qtn hm (by (try clear hm hnf); omega) | omega) (And.intro i1 (And.intro j1 (And.intro f1 (And.intro rfl (And.intro (by (first | (clear hm hnf; omega) | omega)) (And.intro (by (first | (clear hm hnf; omega) | omega)) (And.intro (by (first | (clear hm hnf; omega) | omega)) (And.intro (by (first | (clear hm hnf; omega) | omega)) (And.intro (by (first | (clear hm hnf; omega) | omega)) (And.intro (by (first | (clear hm hnf; omega) | omega)) (And.intro (by (first | (clear hm hnf; omega) | omega)) (Exists.intro ng (And.intro (by first | exact qtm hm hnf (by (try clear hm hnf); omega) | omega) hT)))))))))))))))
            · replace hT := (if_neg h39).symm.trans hT
              exact hK _ i1 j1 f1 _ (by first | assumption | exact wI_rng _ | exact ⟨by (first | (clear hm hnf; omega) | omega), by (first | (clear hm hnf; omega) | omega)⟩ | exact i_rng _ | (subst_vars; exact i_rng _) | exact (hA _ _).2 rfl) (congrArg Prod.fst hT) (congrArg Prod.snd hT)
          · replace hT := (if_neg h29).symm.trans hT
            refine And.intro (fun h42 => ?_) (fun h42 => by exfalso; omega)
            refine Exists.intro k (And.intro rfl (And.intro (And.intro i1 (And.intro j1 (And.intro (by (first | (clear hm hnf; omega) | omega)) (by (first | (clear hm hnf; omega) | omega))))) (fun r43 g45 g44 => ?_)))
            replace hT := qlc g44 hT
            clear g44
            refine And.intro (fun h46 => ?_) (fun h46 => ?_)
            · replace hT := (if_pos h46).symm.trans hT
              refine fun v47 e48 => ?_
              replace hT := qlc e48 hT
              exact And.intro (by (first | (clear hm hnf; omega) | omega)) (Exists.intro (6 - v47 : Int).toNat (And.intro (by first | exact qtn hm (by (try clear hm hnf); omega) | omega) (And.intro i1 (And.intro j1 (And.intro f1 (And.intro rfl (And.intro (by (first | (clear hm hnf; omega) | omega)) (And.intro (by (first | (clear hm hnf; omega) | omega)) (And.intro (by (first | (clear hm hnf; omega) | omega)) (And.intro (by (first | (clear hm hnf; omega) | omega)) (And.intro (by (first | (clear hm hnf; omega) | omega)) (And.intro (by (first | (clear hm hnf; omega) | omega)) (And.intro (by (first | (clear hm hnf; omega) | omega)) (Exists.intro ng (And.intro (by first | exact qtm hm hnf (by (try clear hm hnf); omega) | omega) hT)))))))))))))))
            · replace hT := (if_neg h46).symm.trans hT
              exact hK _ i1 j1 f1 _ (by first | assumption | exact wI_rng _ | exact ⟨by (first | (clear hm hnf; omega) | omega), by (first | (clear hm hnf; omega) | omega)⟩ | exact i_rng _ | (subst_vars; exact i_rng _) | exact (hA _ _).2 rfl) (congrArg Prod.fst hT) (congrArg Prod.snd hT)
  · refine Exists.intro c (And.intro rfl (And.intro (fun h1 => ?_) (fun h1 => ?_)))
    · replace hT := (if_pos h1).symm.trans hT
      refine And.intro (fun h2 => by exfalso; omega) (fun h2 => ?_)
      refine And.intro (fun h3 => ?_) (fun h3 => ?_)
      · replace hT := (if_pos h3).symm.trans hT
        exact hK _ i0 j0 f0 _ (by first | assumption | exact wI_rng _ | exact ⟨by (first | (clear hm hnf; omega) | omega), by (first | (clear hm hnf; omega) | omega)⟩ | exact i_rng _ | (subst_vars; exact i_rng _) | exact (hA _ _).2 rfl) (congrArg Prod.fst hT) (congrArg Prod.snd hT)
      · replace hT := (if_neg (Int.not_lt.mpr h3)).symm.trans hT
        refine fun v4 gv4 e5 => ?_
        replace hT := qlc e5 hT
        have b6 := ivf_at j0 3 rfl
        refine And.intro (by (first | (clear hm hnf; omega) | omega)) (fun v7 e8 => ?_)
        replace hT := qlc e8 hT
        have h9 := qd_nn (a := v4) (b := 4) (by (first | (clear hm hnf; omega) | omega))
        refine And.intro (by (first | (clear hm hnf; omega) | omega)) (And.intro (fun h10 => ?_) (fun h10 => ?_))
        · replace hT := (if_neg (Int.not_lt.mpr h10)).symm.trans hT
          refine fun A11 e12 => ?_
          replace hT := qlc e12 hT
          have i13 := iva_sf i0 e12 rfl
          have j14 := ivf_st j0 e12 (And.intro (by (first | (clear hm hnf; omega) | omega)) trivial)
          have f15 := frm_sf f0 e12 rfl
          exact Exists.intro (6 - 0 : Int).toNat (And.intro i13 (And.intro j14 (And.intro f15 (And.intro rfl (And.intro (by (first | (clear hm hnf; omega) | omega)) (And.intro (by (first | (clear hm hnf; omega) | omega)) (And.intro (by (first | (clear hm hnf; omega) | omega)) (And.intro (by (first | (clear hm hnf; omega) | omega)) (And.intro (by (first | (clear hm hnf; omega) | omega)) (And.intro (by (first | (clear hm hnf; omega) | omega)) (And.intro (by (first | (clear hm hnf; omega) | omega)) (Exists.intro 100000 (And.intro (by (first | (clear hm hnf; omega) | omega)) hT)))))))))))))
        · replace hT := (if_pos h10).symm.trans hT
          exact hK _ i0 j0 f0 _ (by first | assumption | exact wI_rng _ | exact ⟨by (first | (clear hm hnf; omega) | omega), by (first | (clear hm hnf; omega) | omega)⟩ | exact i_rng _ | (subst_vars; exact i_rng _) | exact (hA _ _).2 rfl) (congrArg Prod.fst hT) (congrArg Prod.snd hT)
    · replace hT := (if_neg h1).symm.trans hT
      refine And.intro (fun h16 => ?_) (fun h16 => by exfalso; omega)
      exact hK _ i0 j0 f0 _ (by first | assumption | exact wI_rng _ | exact ⟨by (first | (clear hm hnf; omega) | omega), by (first | (clear hm hnf; omega) | omega)⟩ | exact i_rng _ | (subst_vars; exact i_rng _) | exact (hA _ _).2 rfl) (congrArg Prod.fst hT) (congrArg Prod.snd hT)
theorem pC_check {c n : Int} {A : qA} (hA : qokA LC A) (rg_c : rng c) (rg_n : rng n) (p0 : iva IC A) (p1 : ivf JC A) : qokA LC (fC_check c n A).2 ∧ iva IC (fC_check c n A).2 ∧ ivf JC (fC_check c n A).2 ∧ frm [] [(52, 1)] A (fC_check c n A).2 ∧ rng (fC_check c n A).1 := by
  obtain ⟨r, B, hB, _, hk⟩ := okM_ex okC_check (as := [rf 0, ni c, ni n]) (K := fun _ B => B = (fC_check c n A).2 ∧ iva IC (fC_check c n A).2 ∧ ivf JC (fC_check c n A).2 ∧ frm [] [(52, 1)] A (fC_check c n A).2 ∧ rng (fC_check c n A).1) hA (qoks_c (show qok (rf _) from trivial) (qoks_c (rg_c) (qoks_c (rg_n) qoks_n))) ⟨c, n, rfl, ⟨p0, p1⟩, fun A9 i9 j9 f9 r9 g9 x0 x1 => (by rw [← x1]; (try rw [← x0]); exact ⟨rfl, i9, j9, f9, g9⟩)⟩
  exact ⟨hk.1 ▸ hB, hk.2⟩
def fC_count36 (w : Int) (A : qA) : Int := (if w = 0 then qlet (A 1 (fd 0)) fun v8 => qlet (fC_bitsL v8 A) fun r10 => r10 else (if w = 1 then qlet (A 15 (fd 8)) fun v13 => v13 else (if w = 2 then qlet (A 24 (fd 9)) fun v15 => v15 else (if w = 3 then qlet (A 36 (fd 7)) fun v21 => v21 else (if w = 4 then qlet (A 52 (fd 1)) fun v24 => v24 else (if w = 5 then qlet (A 0 (fd 11)) fun v27 => v27 else (if w = 6 then qlet (fC_crops A) fun r30 => r30 else qlet (fC_countOfRow w A) fun r5 => r5)))))))
def sC_count36 : qS := fun as A K => ∃ w : Int, as = [rf 0, ni w] ∧ (iva IC A ∧ ivf JC A ∧ (36 ≤ A 34 (fd 4) ∧ A 34 (fd 4) ≤ 36)) ∧ (∀ r : Int, rng r → (r = fC_count36 w A) → K (some (ni r)) A)
theorem okC_count36 : okM LC 4 126 sC_count36 := by
  refine qmeth [(34, 4, 36)] false [(127, sC_countOfRow), (249, sC_bitsL), (27, sC_crops)] 41 rfl ⟨okC_countOfRow.le (by decide), ⟨okC_bitsL.le (by decide), ⟨okC_crops.le (by decide), trivial⟩⟩⟩ ?_
  rintro _ A K hA has ⟨w, rfl, ⟨i0, j0, p1⟩, hK⟩
  have rg_w : rng w := has (ni w) (by simp)
  have f0 := frm_0 [] [] A
  obtain ⟨v2, e3⟩ : ∃ v, v = A 34 (fd 4) := ⟨_, rfl⟩
  rw [← e3] at p1
  have hT : _ = fC_count36 w A := (fC_count36.eq_1 w A).symm
  refine ⟨Nat.le_of_ble_eq_true rfl, [], trivial, ?_⟩
  refine (And.intro (fun h4 => ?_) (And.intro (fun h4 => ?_) (And.intro (fun h4 => ?_) (And.intro (fun h4 => ?_) (And.intro (fun h4 => ?_) (And.intro (fun h4 => ?_) (And.intro (fun h4 => ?_) (And.intro (fun h4 => ?_) trivial))))))))
  · replace hT := (if_neg (show ¬ (w = 0) by (first | (clear hm hnf; omega) | omega))).symm.trans hT
    replace hT := (if_neg (show ¬ (w = 1) by (first | (clear hm hnf; omega) | omega))).symm.trans hT
    replace hT := (if_neg (show ¬ (w = 2) by (first | (clear hm hnf; omega) | omega))).symm.trans hT
    replace hT := (if_neg (show ¬ (w = 3) by (first | (clear hm hnf; omega) | omega))).symm.trans hT
    replace hT := (if_neg (show ¬ (w = 4) by (first | (clear hm hnf; omega) | omega))).symm.trans hT
    replace hT := (if_neg (show ¬ (w = 5) by (first | (clear hm hnf; omega) | omega))).symm.trans hT
    replace hT := (if_neg (show ¬ (w = 6) by (first | (clear hm hnf; omega) | omega))).symm.trans hT
    refine Exists.intro w (And.intro rfl (And.intro (And.intro i0 j0) (fun r5 g7 g6 => ?_)))
    replace hT := qlc g6 hT
    clear g6
    exact hK _ (by first | assumption | exact wI_rng _ | exact ⟨by (first | (clear hm hnf; omega) | omega), by (first | (clear hm hnf; omega) | omega)⟩ | exact i_rng _ | (subst_vars; exact i_rng _) | exact (hA _ _).2 rfl) hT
  · replace hT := (if_pos (show w = 0 by (first | (clear hm hnf; omega) | omega))).symm.trans hT
    refine fun v8 e9 => ?_
    replace hT := qlc e9 hT
    refine Exists.intro v8 (And.intro rfl (fun r10 g12 g11 => ?_))
    replace hT := qlc g11 hT
    clear g11
    exact hK _ (by first | assumption | exact wI_rng _ | exact ⟨by (first | (clear hm hnf; omega) | omega), by (first | (clear hm hnf; omega) | omega)⟩ | exact i_rng _ | (subst_vars; exact i_rng _) | exact (hA _ _).2 rfl) hT
  · replace hT := (if_neg (show ¬ (w = 0) by (first | (clear hm hnf; omega) | omega))).symm.trans hT
    replace hT := (if_pos (show w = 1 by (first | (clear hm hnf; omega) | omega))).symm.trans hT
    refine fun v13 gv13 e14 => ?_
    replace hT := qlc e14 hT
    exact hK _ (by first | assumption | exact wI_rng _ | exact ⟨by (first | (clear hm hnf; omega) | omega), by (first | (clear hm hnf; omega) | omega)⟩ | exact i_rng _ | (subst_vars; exact i_rng _) | exact (hA _ _).2 rfl) hT
  · replace hT := (if_neg (show ¬ (w = 0) by (first | (clear hm hnf; omega) | omega))).symm.trans hT
    replace hT := (if_neg (show ¬ (w = 1) by (first | (clear hm hnf; omega) | omega))).symm.trans hT
    replace hT := (if_pos (show w = 2 by (first | (clear hm hnf; omega) | omega))).symm.trans hT
    refine fun v15 gv15 e16 => ?_
    replace hT := qlc e16 hT
    have b17 := ivf_at j0 2 rfl
    exact hK _ (by first | assumption | exact wI_rng _ | exact ⟨by (first | (clear hm hnf; omega) | omega), by (first | (clear hm hnf; omega) | omega)⟩ | exact i_rng _ | (subst_vars; exact i_rng _) | exact (hA _ _).2 rfl) hT
  · replace hT := (if_neg (show ¬ (w = 0) by (first | (clear hm hnf; omega) | omega))).symm.trans hT
    replace hT := (if_neg (show ¬ (w = 1) by (first | (clear hm hnf; omega) | omega))).symm.trans hT
    replace hT := (if_neg (show ¬ (w = 2) by (first | (clear hm hnf; omega) | omega))).symm.trans hT
    replace hT := (if_pos (show w = 3 by (first | (clear hm hnf; omega) | omega))).symm.trans hT
    obtain ⟨v18, e19⟩ : ∃ v, v = A 34 (fd 4) := ⟨_, rfl⟩
    have q20 : v2 = v18 := (e19.trans e3.symm).symm
    subst q20
    refine And.intro (show A 34 (fd 4) = ((36 : Nat) : Int) by (first | (clear hm hnf; omega) | omega)) ?_
    refine fun v21 gv21 e22 => ?_
    replace hT := qlc e22 hT
    have b23 := ivf_at j0 8 rfl
    exact hK _ (by first | assumption | exact wI_rng _ | exact ⟨by (first | (clear hm hnf; omega) | omega), by (first | (clear hm hnf; omega) | omega)⟩ | exact i_rng _ | (subst_vars; exact i_rng _) | exact (hA _ _).2 rfl) hT
  · replace hT := (if_neg (show ¬ (w = 0) by (first | (clear hm hnf; omega) | omega))).symm.trans hT
    replace hT := (if_neg (show ¬ (w = 1) by (first | (clear hm hnf; omega) | omega))).symm.trans hT
    replace hT := (if_neg (show ¬ (w = 2) by (first | (clear hm hnf; omega) | omega))).symm.trans hT
    replace hT := (if_neg (show ¬ (w = 3) by (first | (clear hm hnf; omega) | omega))).symm.trans hT
    replace hT := (if_pos (show w = 4 by (first | (clear hm hnf; omega) | omega))).symm.trans hT
    refine fun v24 gv24 e25 => ?_
    replace hT := qlc e25 hT
    have b26 := ivf_at j0 3 rfl
    exact hK _ (by first | assumption | exact wI_rng _ | exact ⟨by (first | (clear hm hnf; omega) | omega), by (first | (clear hm hnf; omega) | omega)⟩ | exact i_rng _ | (subst_vars; exact i_rng _) | exact (hA _ _).2 rfl) hT
  · replace hT := (if_neg (show ¬ (w = 0) by (first | (clear hm hnf; omega) | omega))).symm.trans hT
    replace hT := (if_neg (show ¬ (w = 1) by (first | (clear hm hnf; omega) | omega))).symm.trans hT
    replace hT := (if_neg (show ¬ (w = 2) by (first | (clear hm hnf; omega) | omega))).symm.trans hT
    replace hT := (if_neg (show ¬ (w = 3) by (first | (clear hm hnf; omega) | omega))).symm.trans hT
    replace hT := (if_neg (show ¬ (w = 4) by (first | (clear hm hnf; omega) | omega))).symm.trans hT
    replace hT := (if_pos (show w = 5 by (first | (clear hm hnf; omega) | omega))).symm.trans hT
    refine fun v27 gv27 e28 => ?_
    replace hT := qlc e28 hT
    have b29 := ivf_at j0 7 rfl
    exact hK _ (by first | assumption | exact wI_rng _ | exact ⟨by (first | (clear hm hnf; omega) | omega), by (first | (clear hm hnf; omega) | omega)⟩ | exact i_rng _ | (subst_vars; exact i_rng _) | exact (hA _ _).2 rfl) hT
  · replace hT := (if_neg (show ¬ (w = 0) by (first | (clear hm hnf; omega) | omega))).symm.trans hT
    replace hT := (if_neg (show ¬ (w = 1) by (first | (clear hm hnf; omega) | omega))).symm.trans hT
    replace hT := (if_neg (show ¬ (w = 2) by (first | (clear hm hnf; omega) | omega))).symm.trans hT
    replace hT := (if_neg (show ¬ (w = 3) by (first | (clear hm hnf; omega) | omega))).symm.trans hT
    replace hT := (if_neg (show ¬ (w = 4) by (first | (clear hm hnf; omega) | omega))).symm.trans hT
    replace hT := (if_neg (show ¬ (w = 5) by (first | (clear hm hnf; omega) | omega))).symm.trans hT
    replace hT := (if_pos (show w = 6 by (first | (clear hm hnf; omega) | omega))).symm.trans hT
    refine And.intro rfl (fun r30 g32 g33 g31 => ?_)
    replace hT := qlc g31 hT
    clear g31
    exact hK _ (by first | assumption | exact wI_rng _ | exact ⟨by (first | (clear hm hnf; omega) | omega), by (first | (clear hm hnf; omega) | omega)⟩ | exact i_rng _ | (subst_vars; exact i_rng _) | exact (hA _ _).2 rfl) hT
theorem pC_count36 {w : Int} {A : qA} (hA : qokA LC A) (rg_w : rng w) (p0 : iva IC A) (p1 : ivf JC A) (p2 : (36 ≤ A 34 (fd 4) ∧ A 34 (fd 4) ≤ 36)) : rng (fC_count36 w A) := by
  obtain ⟨r, B, hB, _, hk⟩ := okM_ex okC_count36 (as := [rf 0, ni w]) (K := fun _ B => B = A ∧ rng (fC_count36 w A)) hA (qoks_c (show qok (rf _) from trivial) (qoks_c (rg_w) qoks_n)) ⟨w, rfl, ⟨p0, p1, p2⟩, fun r9 g9 x0 => (by rw [← x0]; exact ⟨rfl, g9⟩)⟩
  exact hk.2
def fC_count71 (w : Int) (A : qA) : Int := (if w = 0 then qlet (A 1 (fd 0)) fun v8 => qlet (fC_bitsL v8 A) fun r10 => r10 else (if w = 1 then qlet (A 15 (fd 8)) fun v13 => v13 else (if w = 2 then qlet (A 24 (fd 9)) fun v15 => v15 else (if w = 3 then qlet (A 71 (fd 7)) fun v21 => v21 else (if w = 4 then qlet (A 52 (fd 1)) fun v24 => v24 else (if w = 5 then qlet (A 0 (fd 11)) fun v27 => v27 else (if w = 6 then qlet (fC_crops A) fun r30 => r30 else qlet (fC_countOfRow w A) fun r5 => r5)))))))
def sC_count71 : qS := fun as A K => ∃ w : Int, as = [rf 0, ni w] ∧ (iva IC A ∧ ivf JC A ∧ (71 ≤ A 34 (fd 4) ∧ A 34 (fd 4) ≤ 71)) ∧ (∀ r : Int, rng r → (r = fC_count71 w A) → K (some (ni r)) A)
theorem okC_count71 : okM LC 4 126 sC_count71 := by
  refine qmeth [(34, 4, 71)] false [(127, sC_countOfRow), (249, sC_bitsL), (27, sC_crops)] 41 rfl ⟨okC_countOfRow.le (by decide), ⟨okC_bitsL.le (by decide), ⟨okC_crops.le (by decide), trivial⟩⟩⟩ ?_
  rintro _ A K hA has ⟨w, rfl, ⟨i0, j0, p1⟩, hK⟩
  have rg_w : rng w := has (ni w) (by simp)
  have f0 := frm_0 [] [] A
  obtain ⟨v2, e3⟩ : ∃ v, v = A 34 (fd 4) := ⟨_, rfl⟩
  rw [← e3] at p1
  have hT : _ = fC_count71 w A := (fC_count71.eq_1 w A).symm
  refine ⟨Nat.le_of_ble_eq_true rfl, [], trivial, ?_⟩
  refine (And.intro (fun h4 => ?_) (And.intro (fun h4 => ?_) (And.intro (fun h4 => ?_) (And.intro (fun h4 => ?_) (And.intro (fun h4 => ?_) (And.intro (fun h4 => ?_) (And.intro (fun h4 => ?_) (And.intro (fun h4 => ?_) trivial))))))))
  · replace hT := (if_neg (show ¬ (w = 0) by (first | (clear hm hnf; omega) | omega))).symm.trans hT
    replace hT := (if_neg (show ¬ (w = 1) by (first | (clear hm hnf; omega) | omega))).symm.trans hT
    replace hT := (if_neg (show ¬ (w = 2) by (first | (clear hm hnf; omega) | omega))).symm.trans hT
    replace hT := (if_neg (show ¬ (w = 3) by (first | (clear hm hnf; omega) | omega))).symm.trans hT
    replace hT := (if_neg (show ¬ (w = 4) by (first | (clear hm hnf; omega) | omega))).symm.trans hT
    replace hT := (if_neg (show ¬ (w = 5) by (first | (clear hm hnf; omega) | omega))).symm.trans hT
    replace hT := (if_neg (show ¬ (w = 6) by (first | (clear hm hnf; omega) | omega))).symm.trans hT
    refine Exists.intro w (And.intro rfl (And.intro (And.intro i0 j0) (fun r5 g7 g6 => ?_)))
    replace hT := qlc g6 hT
    clear g6
    exact hK _ (by first | assumption | exact wI_rng _ | exact ⟨by (first | (clear hm hnf; omega) | omega), by (first | (clear hm hnf; omega) | omega)⟩ | exact i_rng _ | (subst_vars; exact i_rng _) | exact (hA _ _).2 rfl) hT
  · replace hT := (if_pos (show w = 0 by (first | (clear hm hnf; omega) | omega))).symm.trans hT
    refine fun v8 e9 => ?_
    replace hT := qlc e9 hT
    refine Exists.intro v8 (And.intro rfl (fun r10 g12 g11 => ?_))
    replace hT := qlc g11 hT
    clear g11
    exact hK _ (by first | assumption | exact wI_rng _ | exact ⟨by (first | (clear hm hnf; omega) | omega), by (first | (clear hm hnf; omega) | omega)⟩ | exact i_rng _ | (subst_vars; exact i_rng _) | exact (hA _ _).2 rfl) hT
  · replace hT := (if_neg (show ¬ (w = 0) by (first | (clear hm hnf; omega) | omega))).symm.trans hT
    replace hT := (if_pos (show w = 1 by (first | (clear hm hnf; omega) | omega))).symm.trans hT
    refine fun v13 gv13 e14 => ?_
    replace hT := qlc e14 hT
    exact hK _ (by first | assumption | exact wI_rng _ | exact ⟨by (first | (clear hm hnf; omega) | omega), by (first | (clear hm hnf; omega) | omega)⟩ | exact i_rng _ | (subst_vars; exact i_rng _) | exact (hA _ _).2 rfl) hT
  · replace hT := (if_neg (show ¬ (w = 0) by (first | (clear hm hnf; omega) | omega))).symm.trans hT
    replace hT := (if_neg (show ¬ (w = 1) by (first | (clear hm hnf; omega) | omega))).symm.trans hT
    replace hT := (if_pos (show w = 2 by (first | (clear hm hnf; omega) | omega))).symm.trans hT
    refine fun v15 gv15 e16 => ?_
    replace hT := qlc e16 hT
    have b17 := ivf_at j0 2 rfl
    exact hK _ (by first | assumption | exact wI_rng _ | exact ⟨by (first | (clear hm hnf; omega) | omega), by (first | (clear hm hnf; omega) | omega)⟩ | exact i_rng _ | (subst_vars; exact i_rng _) | exact (hA _ _).2 rfl) hT
  · replace hT := (if_neg (show ¬ (w = 0) by (first | (clear hm hnf; omega) | omega))).symm.trans hT
    replace hT := (if_neg (show ¬ (w = 1) by (first | (clear hm hnf; omega) | omega))).symm.trans hT
    replace hT := (if_neg (show ¬ (w = 2) by (first | (clear hm hnf; omega) | omega))).symm.trans hT
    replace hT := (if_pos (show w = 3 by (first | (clear hm hnf; omega) | omega))).symm.trans hT
    obtain ⟨v18, e19⟩ : ∃ v, v = A 34 (fd 4) := ⟨_, rfl⟩
    have q20 : v2 = v18 := (e19.trans e3.symm).symm
    subst q20
    refine And.intro (show A 34 (fd 4) = ((71 : Nat) : Int) by (first | (clear hm hnf; omega) | omega)) ?_
    refine fun v21 gv21 e22 => ?_
    replace hT := qlc e22 hT
    have b23 := ivf_at j0 11 rfl
    exact hK _ (by first | assumption | exact wI_rng _ | exact ⟨by (first | (clear hm hnf; omega) | omega), by (first | (clear hm hnf; omega) | omega)⟩ | exact i_rng _ | (subst_vars; exact i_rng _) | exact (hA _ _).2 rfl) hT
  · replace hT := (if_neg (show ¬ (w = 0) by (first | (clear hm hnf; omega) | omega))).symm.trans hT
    replace hT := (if_neg (show ¬ (w = 1) by (first | (clear hm hnf; omega) | omega))).symm.trans hT
    replace hT := (if_neg (show ¬ (w = 2) by (first | (clear hm hnf; omega) | omega))).symm.trans hT
    replace hT := (if_neg (show ¬ (w = 3) by (first | (clear hm hnf; omega) | omega))).symm.trans hT
    replace hT := (if_pos (show w = 4 by (first | (clear hm hnf; omega) | omega))).symm.trans hT
    refine fun v24 gv24 e25 => ?_
    replace hT := qlc e25 hT
    have b26 := ivf_at j0 3 rfl
    exact hK _ (by first | assumption | exact wI_rng _ | exact ⟨by (first | (clear hm hnf; omega) | omega), by (first | (clear hm hnf; omega) | omega)⟩ | exact i_rng _ | (subst_vars; exact i_rng _) | exact (hA _ _).2 rfl) hT
  · replace hT := (if_neg (show ¬ (w = 0) by (first | (clear hm hnf; omega) | omega))).symm.trans hT
    replace hT := (if_neg (show ¬ (w = 1) by (first | (clear hm hnf; omega) | omega))).symm.trans hT
    replace hT := (if_neg (show ¬ (w = 2) by (first | (clear hm hnf; omega) | omega))).symm.trans hT
    replace hT := (if_neg (show ¬ (w = 3) by (first | (clear hm hnf; omega) | omega))).symm.trans hT
    replace hT := (if_neg (show ¬ (w = 4) by (first | (clear hm hnf; omega) | omega))).symm.trans hT
    replace hT := (if_pos (show w = 5 by (first | (clear hm hnf; omega) | omega))).symm.trans hT
    refine fun v27 gv27 e28 => ?_
    replace hT := qlc e28 hT
    have b29 := ivf_at j0 7 rfl
    exact hK _ (by first | assumption | exact wI_rng _ | exact ⟨by (first | (clear hm hnf; omega) | omega), by (first | (clear hm hnf; omega) | omega)⟩ | exact i_rng _ | (subst_vars; exact i_rng _) | exact (hA _ _).2 rfl) hT
  · replace hT := (if_neg (show ¬ (w = 0) by (first | (clear hm hnf; omega) | omega))).symm.trans hT
    replace hT := (if_neg (show ¬ (w = 1) by (first | (clear hm hnf; omega) | omega))).symm.trans hT
    replace hT := (if_neg (show ¬ (w = 2) by (first | (clear hm hnf; omega) | omega))).symm.trans hT
    replace hT := (if_neg (show ¬ (w = 3) by (first | (clear hm hnf; omega) | omega))).symm.trans hT
    replace hT := (if_neg (show ¬ (w = 4) by (first | (clear hm hnf; omega) | omega))).symm.trans hT
    replace hT := (if_neg (show ¬ (w = 5) by (first | (clear hm hnf; omega) | omega))).symm.trans hT
    replace hT := (if_pos (show w = 6 by (first | (clear hm hnf; omega) | omega))).symm.trans hT
    refine And.intro rfl (fun r30 g32 g33 g31 => ?_)
    replace hT := qlc g31 hT
    clear g31
    exact hK _ (by first | assumption | exact wI_rng _ | exact ⟨by (first | (clear hm hnf; omega) | omega), by (first | (clear hm hnf; omega) | omega)⟩ | exact i_rng _ | (subst_vars; exact i_rng _) | exact (hA _ _).2 rfl) hT
theorem pC_count71 {w : Int} {A : qA} (hA : qokA LC A) (rg_w : rng w) (p0 : iva IC A) (p1 : ivf JC A) (p2 : (71 ≤ A 34 (fd 4) ∧ A 34 (fd 4) ≤ 71)) : rng (fC_count71 w A) := by
  obtain ⟨r, B, hB, _, hk⟩ := okM_ex okC_count71 (as := [rf 0, ni w]) (K := fun _ B => B = A ∧ rng (fC_count71 w A)) hA (qoks_c (show qok (rf _) from trivial) (qoks_c (rg_w) qoks_n)) ⟨w, rfl, ⟨p0, p1, p2⟩, fun r9 g9 x0 => (by rw [← x0]; exact ⟨rfl, g9⟩)⟩
  exact hk.2
def fC_count (w : Int) (A : qA) : Int := if A 34 (fd 4) = 36 then fC_count36 w A else fC_count71 w A
def sC_count : qS := fun as A K => ∃ w : Int, as = [rf 0, ni w] ∧ (iva IC A ∧ ivf JC A ∧ (LW A)) ∧ (∀ r : Int, rng r → (r = fC_count w A) → K (some (ni r)) A)
theorem okC_count : okM LC 4 126 sC_count := by
  refine okM_or (okC_count36.le (by decide)) (okC_count71.le (by decide)) ?_
  rintro _ A K ⟨w, rfl, ⟨h0, h1, h2⟩, hK⟩
  rcases h2 with q | q
  · exact Or.inl ⟨w, rfl, ⟨h0, h1, ⟨by (first | (clear hm hnf; omega) | omega), by (first | (clear hm hnf; omega) | omega)⟩⟩, fun r9 g9 x0 => hK r9 g9 (by rw [fC_count, if_pos q]; exact x0)⟩
  · exact Or.inr ⟨w, rfl, ⟨h0, h1, ⟨by (first | (clear hm hnf; omega) | omega), by (first | (clear hm hnf; omega) | omega)⟩⟩, fun r9 g9 x0 => hK r9 g9 (by rw [fC_count, if_neg (by (first | (clear hm hnf; omega) | omega))]; exact x0)⟩
theorem pC_count {w : Int} {A : qA} (hA : qokA LC A) (rg_w : rng w) (p0 : iva IC A) (p1 : ivf JC A) (p2 : LW A) : rng (fC_count w A) := by
  obtain ⟨r, B, hB, _, hk⟩ := okM_ex okC_count (as := [rf 0, ni w]) (K := fun _ B => B = A ∧ rng (fC_count w A)) hA (qoks_c (show qok (rf _) from trivial) (qoks_c (rg_w) qoks_n)) ⟨w, rfl, ⟨p0, p1, p2⟩, fun r9 g9 x0 => (by rw [← x0]; exact ⟨rfl, g9⟩)⟩
  exact hk.2
