def sC_hang : qS := fun as A K => ∃ c l s n f w : Int, as = [rf 0, ni c, ni l, ni s, ni n, ni f, ni w] ∧ (iva IC A ∧ ivf JC A) ∧ (∀ A' : qA, iva IC A' → ivf JC A' → frm [3, 2, 4, 5, 8, 9, 6, 7, 10] [(1, 0)] A A' → ∀ r : Int, 0 ≤ r → r ≤ 1 → K (some (ni r)) A')
theorem okC_hang : okM LC 4 95 sC_hang := by
  refine qmeth [] false [(141, sC_isCell), (138, sC_within), (21, sC_hangs), (26, sC_clearCrop)] 101 rfl ⟨okC_isCell.le (by decide), ⟨okC_within.le (by decide), ⟨okC_hangs.le (by decide), ⟨okC_clearCrop.le (by decide), trivial⟩⟩⟩⟩ ?_
  rintro _ A K hA has ⟨c, l, s, n, f, w, rfl, ⟨i0, j0⟩, hK⟩
  have rg_c : rng c := has (ni c) (by simp)
  have rg_l : rng l := has (ni l) (by simp)
  have rg_s : rng s := has (ni s) (by simp)
  have rg_n : rng n := has (ni n) (by simp)
  have rg_f : rng f := has (ni f) (by simp)
  have rg_w : rng w := has (ni w) (by simp)
  have f0 := frm_0 [3, 2, 4, 5, 8, 9, 6, 7, 10] [(1, 0)] A
  refine ⟨Nat.le_of_ble_eq_true rfl, [], trivial, ?_⟩
  refine Exists.intro c (Exists.intro l (And.intro rfl (And.intro (fun h1 => ?_) (fun h1 => ?_))))
  · refine And.intro (fun h2 => by exfalso; omega) (fun h2 => ?_)
    refine Exists.intro s (Exists.intro 9 (And.intro rfl (And.intro (fun h3 => ?_) (fun h3 => ?_))))
    · refine And.intro (fun h4 => by exfalso; omega) (fun h4 => ?_)
      refine Exists.intro n (Exists.intro 9999 (And.intro rfl (And.intro (fun h5 => ?_) (fun h5 => ?_))))
      · refine And.intro (fun h6 => by exfalso; omega) (fun h6 => ?_)
        refine Exists.intro f (Exists.intro 7 (And.intro rfl (And.intro (fun h7 => ?_) (fun h7 => ?_))))
        · refine And.intro (fun h8 => by exfalso; omega) (fun h8 => ?_)
          refine Exists.intro w (Exists.intro 3 (And.intro rfl (And.intro (fun h9 => ?_) (fun h9 => ?_))))
          · refine And.intro (fun h10 => ?_) (fun h10 => by exfalso; omega)
            refine fun v11 e12 => ?_
            refine fun v13 e14 => ?_
            refine And.intro (by omega) (Exists.intro v13 (And.intro rfl (And.intro (fun h15 => ?_) (fun h15 => ?_))))
            · refine And.intro (fun h16 => ?_) (fun h16 => by exfalso; omega)
              exact And.intro (by omega) (hK _ i0 j0 f0 _ (by omega) (by omega))
            · refine And.intro (fun h17 => by exfalso; omega) (fun h17 => ?_)
              refine And.intro (fun h18 => ?_) (fun h18 => ?_)
              · refine fun v19 e20 => ?_
                refine fun (v21 : Int) (e22 : v21 = 1) => ?_
                refine fun v23 e24 => ?_
                refine fun v25 e26 => ?_
                refine fun A27 e28 => ?_
                have i29 := iva_sf i0 e28 rfl
                have j30 := ivf_st j0 e28 trivial
                have f31 := frm_sf f0 e28 rfl
                refine And.intro (by omega) (fun A32 e33 => ?_)
                have i34 := iva_st i29 e33 trivial
                have j35 := ivf_sa j30 e33 rfl
                have f36 := frm_s f31 e33 rfl
                refine And.intro (by omega) (fun A37 e38 => ?_)
                have i39 := iva_st i34 e38 (And.intro (by omega) trivial)
                have j40 := ivf_sa j35 e38 rfl
                have f41 := frm_s f36 e38 rfl
                refine And.intro (by omega) (fun A42 e43 => ?_)
                have i44 := iva_st i39 e43 trivial
                have j45 := ivf_sa j40 e43 rfl
                have f46 := frm_s f41 e43 rfl
                refine And.intro (by omega) (fun A47 e48 => ?_)
                have i49 := iva_st i44 e48 (And.intro (by omega) trivial)
                have j50 := ivf_sa j45 e48 rfl
                have f51 := frm_s f46 e48 rfl
                refine And.intro (by omega) (fun A52 e53 => ?_)
                have i54 := iva_st i49 e53 trivial
                have j55 := ivf_sa j50 e53 rfl
                have f56 := frm_s f51 e53 rfl
                refine And.intro (by omega) (fun A57 e58 => ?_)
                have i59 := iva_st i54 e58 (And.intro (by omega) trivial)
                have j60 := ivf_sa j55 e58 rfl
                have f61 := frm_s f56 e58 rfl
                refine And.intro (by omega) (Exists.intro v13 (And.intro rfl (And.intro (And.intro i59 (And.intro j60 (And.intro (by omega) (by omega)))) (fun A62 i63 j64 f65 => ?_))))
                have f66 := frm_c f61 f65 rfl
                exact And.intro (by omega) (hK _ i63 j64 f66 _ (by omega) (by omega))
              · refine fun v67 e68 => ?_
                refine And.intro (by omega) (Exists.intro v67 (And.intro rfl (And.intro (fun h69 => ?_) (fun h69 => ?_))))
                · refine And.intro (fun h70 => ?_) (fun h70 => by exfalso; omega)
                  refine fun v71 e72 => ?_
                  refine fun (v73 : Int) (e74 : v73 = 1) => ?_
                  refine fun v75 e76 => ?_
                  refine fun v77 e78 => ?_
                  refine fun A79 e80 => ?_
                  have i81 := iva_sf i0 e80 rfl
                  have j82 := ivf_st j0 e80 trivial
                  have f83 := frm_sf f0 e80 rfl
                  refine And.intro (by omega) (fun A84 e85 => ?_)
                  have i86 := iva_st i81 e85 trivial
                  have j87 := ivf_sa j82 e85 rfl
                  have f88 := frm_s f83 e85 rfl
                  refine And.intro (by omega) (fun A89 e90 => ?_)
                  have i91 := iva_st i86 e90 (And.intro (by omega) trivial)
                  have j92 := ivf_sa j87 e90 rfl
                  have f93 := frm_s f88 e90 rfl
                  refine And.intro (by omega) (fun A94 e95 => ?_)
                  have i96 := iva_st i91 e95 trivial
                  have j97 := ivf_sa j92 e95 rfl
                  have f98 := frm_s f93 e95 rfl
                  refine And.intro (by omega) (fun A99 e100 => ?_)
                  have i101 := iva_st i96 e100 (And.intro (by omega) trivial)
                  have j102 := ivf_sa j97 e100 rfl
                  have f103 := frm_s f98 e100 rfl
                  refine And.intro (by omega) (fun A104 e105 => ?_)
                  have i106 := iva_st i101 e105 trivial
                  have j107 := ivf_sa j102 e105 rfl
                  have f108 := frm_s f103 e105 rfl
                  refine And.intro (by omega) (fun A109 e110 => ?_)
                  have i111 := iva_st i106 e110 (And.intro (by omega) trivial)
                  have j112 := ivf_sa j107 e110 rfl
                  have f113 := frm_s f108 e110 rfl
                  refine And.intro (by omega) (Exists.intro v13 (And.intro rfl (And.intro (And.intro i111 (And.intro j112 (And.intro (by omega) (by omega)))) (fun A114 i115 j116 f117 => ?_))))
                  have f118 := frm_c f113 f117 rfl
                  exact And.intro (by omega) (hK _ i115 j116 f118 _ (by omega) (by omega))
                · refine And.intro (fun h119 => by exfalso; omega) (fun h119 => ?_)
                  exact And.intro (by omega) (hK _ i0 j0 f0 _ (by omega) (by omega))
          · refine And.intro (fun h120 => by exfalso; omega) (fun h120 => ?_)
            exact And.intro (by omega) (hK _ i0 j0 f0 _ (by omega) (by omega))
        · refine And.intro (fun h121 => ?_) (fun h121 => by exfalso; omega)
          exact And.intro (by omega) (hK _ i0 j0 f0 _ (by omega) (by omega))
      · refine And.intro (fun h122 => ?_) (fun h122 => by exfalso; omega)
        exact And.intro (by omega) (hK _ i0 j0 f0 _ (by omega) (by omega))
    · refine And.intro (fun h123 => ?_) (fun h123 => by exfalso; omega)
      exact And.intro (by omega) (hK _ i0 j0 f0 _ (by omega) (by omega))
  · refine And.intro (fun h124 => ?_) (fun h124 => by exfalso; omega)
    exact And.intro (by omega) (hK _ i0 j0 f0 _ (by omega) (by omega))
def sC_knot : qS := fun as A K => ∃ c l n : Int, as = [rf 0, ni c, ni l, ni n] ∧ (iva IC A ∧ ivf JC A) ∧ (∀ A' : qA, iva IC A' → ivf JC A' → frm [2] [] A A' → ∀ r : Int, 0 ≤ r → r ≤ 1 → K (some (ni r)) A')
theorem okC_knot : okM LC 5 96 sC_knot := by
  refine qmeth [] false [(137, sC_hungCell), (138, sC_within)] 27 rfl ⟨okC_hungCell.le (by decide), ⟨okC_within.le (by decide), trivial⟩⟩ ?_
  rintro _ A K hA has ⟨c, l, n, rfl, ⟨i0, j0⟩, hK⟩
  have rg_c : rng c := has (ni c) (by simp)
  have rg_l : rng l := has (ni l) (by simp)
  have rg_n : rng n := has (ni n) (by simp)
  have f0 := frm_0 [2] [] A
  refine ⟨Nat.le_of_ble_eq_true rfl, [], trivial, ?_⟩
  refine Exists.intro c (Exists.intro l (And.intro rfl (And.intro (And.intro i0 j0) (fun r1 g2 g3 => ?_))))
  refine And.intro (fun h4 => ?_) (fun h4 => ?_)
  · exact And.intro (by omega) (hK _ i0 j0 f0 _ (by omega) (by omega))
  · refine Exists.intro n (Exists.intro 9999 (And.intro rfl (And.intro (fun h5 => ?_) (fun h5 => ?_))))
    · refine And.intro (fun h6 => ?_) (fun h6 => by exfalso; omega)
      refine And.intro (by omega) (fun A7 e8 => ?_)
      have i9 := iva_st i0 e8 (And.intro (by omega) trivial)
      have j10 := ivf_sa j0 e8 rfl
      have f11 := frm_s f0 e8 rfl
      exact And.intro (by omega) (hK _ i9 j10 f11 _ (by omega) (by omega))
    · refine And.intro (fun h12 => by exfalso; omega) (fun h12 => ?_)
      exact And.intro (by omega) (hK _ i0 j0 f0 _ (by omega) (by omega))
def sC_kind : qS := fun as A K => ∃ k n r w : Int, as = [rf 0, ni k, ni n, ni r, ni w] ∧ (iva IC A ∧ ivf JC A) ∧ (∀ A' : qA, iva IC A' → ivf JC A' → frm [11, 12, 13] [] A A' → ((0 ≤ k ∧ k ≤ 5) ∧ (0 ≤ n ∧ n ≤ 20) ∧ (1 ≤ r ∧ r ≤ 200) ∧ (0 ≤ w ∧ w ≤ 99) → K (some (ni 1)) A') ∧ (¬ ((0 ≤ k ∧ k ≤ 5) ∧ (0 ≤ n ∧ n ≤ 20) ∧ (1 ≤ r ∧ r ≤ 200) ∧ (0 ≤ w ∧ w ≤ 99)) → K (some (ni 0)) A'))
theorem okC_kind : okM LC 2 97 sC_kind := by
  refine qmeth [] false [(138, sC_within)] 46 rfl ⟨okC_within.le (by decide), trivial⟩ ?_
  rintro _ A K hA has ⟨k, n, r, w, rfl, ⟨i0, j0⟩, hK⟩
  have rg_k : rng k := has (ni k) (by simp)
  have rg_n : rng n := has (ni n) (by simp)
  have rg_r : rng r := has (ni r) (by simp)
  have rg_w : rng w := has (ni w) (by simp)
  have f0 := frm_0 [11, 12, 13] [] A
  refine ⟨Nat.le_of_ble_eq_true rfl, [], trivial, ?_⟩
  refine Exists.intro k (Exists.intro 5 (And.intro rfl (And.intro (fun h1 => ?_) (fun h1 => ?_))))
  · refine And.intro (fun h2 => by exfalso; omega) (fun h2 => ?_)
    refine Exists.intro n (Exists.intro 20 (And.intro rfl (And.intro (fun h3 => ?_) (fun h3 => ?_))))
    · refine And.intro (fun h4 => by exfalso; omega) (fun h4 => ?_)
      refine And.intro (fun h5 => ?_) (fun h5 => ?_)
      · exact And.intro (by omega) ((hK _ i0 j0 f0).2 (by first | omega | (subst_vars; omega) | (simp_all; done) | (simp_all; omega)))
      · refine And.intro (fun h6 => ?_) (fun h6 => ?_)
        · exact And.intro (by omega) ((hK _ i0 j0 f0).2 (by first | omega | (subst_vars; omega) | (simp_all; done) | (simp_all; omega)))
        · refine Exists.intro w (Exists.intro 99 (And.intro rfl (And.intro (fun h7 => ?_) (fun h7 => ?_))))
          · refine And.intro (fun h8 => ?_) (fun h8 => by exfalso; omega)
            refine And.intro (by omega) (fun A9 e10 => ?_)
            have i11 := iva_st i0 e10 (And.intro (by omega) trivial)
            have j12 := ivf_sa j0 e10 rfl
            have f13 := frm_s f0 e10 rfl
            refine And.intro (by omega) (fun A14 e15 => ?_)
            have i16 := iva_st i11 e15 (And.intro (by omega) trivial)
            have j17 := ivf_sa j12 e15 rfl
            have f18 := frm_s f13 e15 rfl
            refine And.intro (by omega) (fun A19 e20 => ?_)
            have i21 := iva_st i16 e20 (And.intro (by omega) trivial)
            have j22 := ivf_sa j17 e20 rfl
            have f23 := frm_s f18 e20 rfl
            exact And.intro (by omega) ((hK _ i21 j22 f23).1 (by first | omega | (subst_vars; omega) | (simp_all; done) | (simp_all; omega)))
          · refine And.intro (fun h24 => by exfalso; omega) (fun h24 => ?_)
            exact And.intro (by omega) ((hK _ i0 j0 f0).2 (by first | omega | (subst_vars; omega) | (simp_all; done) | (simp_all; omega)))
    · refine And.intro (fun h25 => ?_) (fun h25 => by exfalso; omega)
      exact And.intro (by omega) ((hK _ i0 j0 f0).2 (by first | omega | (subst_vars; omega) | (simp_all; done) | (simp_all; omega)))
  · refine And.intro (fun h26 => ?_) (fun h26 => by exfalso; omega)
    exact And.intro (by omega) ((hK _ i0 j0 f0).2 (by first | omega | (subst_vars; omega) | (simp_all; done) | (simp_all; omega)))
def sC_plant : qS := fun as A K => ∃ c l k w : Int, as = [rf 0, ni c, ni l, ni k, ni w] ∧ (iva IC A ∧ ivf JC A) ∧ (∀ A' : qA, iva IC A' → ivf JC A' → frm [6, 7, 10] [] A A' → ∀ r : Int, 0 ≤ r → r ≤ 1 → K (some (ni r)) A')
theorem okC_plant : okM LC 5 98 sC_plant := by
  refine qmeth [] false [(137, sC_hungCell), (138, sC_within), (22, sC_hasCrop), (25, sC_setCrop)] 36 rfl ⟨okC_hungCell.le (by decide), ⟨okC_within.le (by decide), ⟨okC_hasCrop.le (by decide), ⟨okC_setCrop.le (by decide), trivial⟩⟩⟩⟩ ?_
  rintro _ A K hA has ⟨c, l, k, w, rfl, ⟨i0, j0⟩, hK⟩
  have rg_c : rng c := has (ni c) (by simp)
  have rg_l : rng l := has (ni l) (by simp)
  have rg_k : rng k := has (ni k) (by simp)
  have rg_w : rng w := has (ni w) (by simp)
  have f0 := frm_0 [6, 7, 10] [] A
  refine ⟨Nat.le_of_ble_eq_true rfl, [], trivial, ?_⟩
  refine Exists.intro c (Exists.intro l (And.intro rfl (And.intro (And.intro i0 j0) (fun r1 g2 g3 => ?_))))
  refine And.intro (fun h4 => ?_) (fun h4 => ?_)
  · exact And.intro (by omega) (hK _ i0 j0 f0 _ (by omega) (by omega))
  · refine Exists.intro k (Exists.intro 5 (And.intro rfl (And.intro (fun h5 => ?_) (fun h5 => ?_))))
    · refine And.intro (fun h6 => by exfalso; omega) (fun h6 => ?_)
      refine Exists.intro w (Exists.intro 200 (And.intro rfl (And.intro (fun h7 => ?_) (fun h7 => ?_))))
      · refine And.intro (fun h8 => by exfalso; omega) (fun h8 => ?_)
        refine Exists.intro r1 (And.intro rfl (And.intro (fun h9 => ?_) (fun h9 => ?_)))
        · obtain ⟨v10, e11⟩ : ∃ v, v = A 6 r1 := ⟨_, rfl⟩
          refine And.intro (fun h12 => by exfalso; omega) (fun h12 => ?_)
          exact And.intro (by omega) (hK _ i0 j0 f0 _ (by omega) (by omega))
        · refine And.intro (fun h13 => ?_) (fun h13 => by exfalso; omega)
          refine Exists.intro r1 (Exists.intro k (Exists.intro w (And.intro rfl (And.intro (And.intro i0 (And.intro j0 (And.intro (by omega) (And.intro (by omega) (And.intro (by omega) (And.intro (by omega) (And.intro (by omega) (by omega)))))))) (fun A14 i15 j16 f17 => ?_)))))
          have f18 := frm_c f0 f17 rfl
          exact And.intro (by omega) (hK _ i15 j16 f18 _ (by omega) (by omega))
      · refine And.intro (fun h19 => ?_) (fun h19 => by exfalso; omega)
        exact And.intro (by omega) (hK _ i0 j0 f0 _ (by omega) (by omega))
    · refine And.intro (fun h20 => ?_) (fun h20 => by exfalso; omega)
      exact And.intro (by omega) (hK _ i0 j0 f0 _ (by omega) (by omega))
def sC_valve : qS := fun as A K => ∃ c d : Int, as = [rf 0, ni c, ni d] ∧ (iva IC A ∧ ivf JC A) ∧ (∀ A' : qA, iva IC A' → ivf JC A' → frm [16] [] A A' → ((0 ≤ c ∧ c ≤ 7) ∧ (0 ≤ d ∧ d ≤ 99) → K (some (ni 1)) A') ∧ (¬ ((0 ≤ c ∧ c ≤ 7) ∧ (0 ≤ d ∧ d ≤ 99)) → K (some (ni 0)) A'))
theorem okC_valve : okM LC 3 99 sC_valve := by
  refine qmeth [] false [(139, sC_isColumn), (138, sC_within)] 23 rfl ⟨okC_isColumn.le (by decide), ⟨okC_within.le (by decide), trivial⟩⟩ ?_
  rintro _ A K hA has ⟨c, d, rfl, ⟨i0, j0⟩, hK⟩
  have rg_c : rng c := has (ni c) (by simp)
  have rg_d : rng d := has (ni d) (by simp)
  have f0 := frm_0 [16] [] A
  refine ⟨Nat.le_of_ble_eq_true rfl, [], trivial, ?_⟩
  refine Exists.intro c (And.intro rfl (And.intro (fun h1 => ?_) (fun h1 => ?_)))
  · refine And.intro (fun h2 => by exfalso; omega) (fun h2 => ?_)
    refine Exists.intro d (Exists.intro 99 (And.intro rfl (And.intro (fun h3 => ?_) (fun h3 => ?_))))
    · refine And.intro (fun h4 => ?_) (fun h4 => by exfalso; omega)
      refine And.intro (by omega) (fun A5 e6 => ?_)
      have i7 := iva_st i0 e6 (And.intro (by omega) trivial)
      have j8 := ivf_sa j0 e6 rfl
      have f9 := frm_s f0 e6 rfl
      exact And.intro (by omega) ((hK _ i7 j8 f9).1 (by first | omega | (subst_vars; omega) | (simp_all; done) | (simp_all; omega)))
    · refine And.intro (fun h10 => by exfalso; omega) (fun h10 => ?_)
      exact And.intro (by omega) ((hK _ i0 j0 f0).2 (by first | omega | (subst_vars; omega) | (simp_all; done) | (simp_all; omega)))
  · refine And.intro (fun h11 => ?_) (fun h11 => by exfalso; omega)
    exact And.intro (by omega) ((hK _ i0 j0 f0).2 (by first | omega | (subst_vars; omega) | (simp_all; done) | (simp_all; omega)))
def sC_kitchen : qS := fun as A K => ∃ c o f : Int, as = [rf 0, ni c, ni o, ni f] ∧ (iva IC A ∧ ivf JC A) ∧ (∀ A' : qA, iva IC A' → ivf JC A' → frm [17, 18] [] A A' → ((0 ≤ c ∧ c ≤ 7) ∧ (0 ≤ o ∧ o ≤ 7) ∧ (0 ≤ f ∧ f ≤ 9999) → K (some (ni 1)) A') ∧ (¬ ((0 ≤ c ∧ c ≤ 7) ∧ (0 ≤ o ∧ o ≤ 7) ∧ (0 ≤ f ∧ f ≤ 9999)) → K (some (ni 0)) A'))
theorem okC_kitchen : okM LC 3 100 sC_kitchen := by
  refine qmeth [] false [(139, sC_isColumn), (140, sC_isPerson), (138, sC_within)] 32 rfl ⟨okC_isColumn.le (by decide), ⟨okC_isPerson.le (by decide), ⟨okC_within.le (by decide), trivial⟩⟩⟩ ?_
  rintro _ A K hA has ⟨c, o, f, rfl, ⟨i0, j0⟩, hK⟩
  have rg_c : rng c := has (ni c) (by simp)
  have rg_o : rng o := has (ni o) (by simp)
  have rg_f : rng f := has (ni f) (by simp)
  have f0 := frm_0 [17, 18] [] A
  refine ⟨Nat.le_of_ble_eq_true rfl, [], trivial, ?_⟩
  refine Exists.intro c (And.intro rfl (And.intro (fun h1 => ?_) (fun h1 => ?_)))
  · refine And.intro (fun h2 => by exfalso; omega) (fun h2 => ?_)
    refine Exists.intro o (And.intro rfl (And.intro (fun h3 => ?_) (fun h3 => ?_)))
    · refine And.intro (fun h4 => by exfalso; omega) (fun h4 => ?_)
      refine Exists.intro f (Exists.intro 9999 (And.intro rfl (And.intro (fun h5 => ?_) (fun h5 => ?_))))
      · refine And.intro (fun h6 => ?_) (fun h6 => by exfalso; omega)
        refine And.intro (by omega) (fun A7 e8 => ?_)
        have i9 := iva_st i0 e8 (And.intro (by omega) trivial)
        have j10 := ivf_sa j0 e8 rfl
        have f11 := frm_s f0 e8 rfl
        refine And.intro (by omega) (fun A12 e13 => ?_)
        have i14 := iva_st i9 e13 (And.intro (by omega) trivial)
        have j15 := ivf_sa j10 e13 rfl
        have f16 := frm_s f11 e13 rfl
        exact And.intro (by omega) ((hK _ i14 j15 f16).1 (by first | omega | (subst_vars; omega) | (simp_all; done) | (simp_all; omega)))
      · refine And.intro (fun h17 => by exfalso; omega) (fun h17 => ?_)
        exact And.intro (by omega) ((hK _ i0 j0 f0).2 (by first | omega | (subst_vars; omega) | (simp_all; done) | (simp_all; omega)))
    · refine And.intro (fun h18 => ?_) (fun h18 => by exfalso; omega)
      exact And.intro (by omega) ((hK _ i0 j0 f0).2 (by first | omega | (subst_vars; omega) | (simp_all; done) | (simp_all; omega)))
  · refine And.intro (fun h19 => ?_) (fun h19 => by exfalso; omega)
    exact And.intro (by omega) ((hK _ i0 j0 f0).2 (by first | omega | (subst_vars; omega) | (simp_all; done) | (simp_all; omega)))
def sC_rope : qS := fun as A K => ∃ c b w : Int, as = [rf 0, ni c, ni b, ni w] ∧ (iva IC A ∧ ivf JC A) ∧ (∀ A' : qA, iva IC A' → ivf JC A' → frm [21, 22] [] A A' → ((0 ≤ c ∧ c ≤ 7) ∧ (0 ≤ b ∧ b ≤ 999) ∧ (0 ≤ w ∧ w ≤ 99) → K (some (ni 1)) A') ∧ (¬ ((0 ≤ c ∧ c ≤ 7) ∧ (0 ≤ b ∧ b ≤ 999) ∧ (0 ≤ w ∧ w ≤ 99)) → K (some (ni 0)) A'))
theorem okC_rope : okM LC 3 101 sC_rope := by
  refine qmeth [] false [(139, sC_isColumn), (138, sC_within)] 33 rfl ⟨okC_isColumn.le (by decide), ⟨okC_within.le (by decide), trivial⟩⟩ ?_
  rintro _ A K hA has ⟨c, b, w, rfl, ⟨i0, j0⟩, hK⟩
  have rg_c : rng c := has (ni c) (by simp)
  have rg_b : rng b := has (ni b) (by simp)
  have rg_w : rng w := has (ni w) (by simp)
  have f0 := frm_0 [21, 22] [] A
  refine ⟨Nat.le_of_ble_eq_true rfl, [], trivial, ?_⟩
  refine Exists.intro c (And.intro rfl (And.intro (fun h1 => ?_) (fun h1 => ?_)))
  · refine And.intro (fun h2 => by exfalso; omega) (fun h2 => ?_)
    refine Exists.intro b (Exists.intro 999 (And.intro rfl (And.intro (fun h3 => ?_) (fun h3 => ?_))))
    · refine And.intro (fun h4 => by exfalso; omega) (fun h4 => ?_)
      refine Exists.intro w (Exists.intro 99 (And.intro rfl (And.intro (fun h5 => ?_) (fun h5 => ?_))))
      · refine And.intro (fun h6 => ?_) (fun h6 => by exfalso; omega)
        refine And.intro (by omega) (fun A7 e8 => ?_)
        have i9 := iva_st i0 e8 (And.intro (by omega) trivial)
        have j10 := ivf_sa j0 e8 rfl
        have f11 := frm_s f0 e8 rfl
        refine And.intro (by omega) (fun A12 e13 => ?_)
        have i14 := iva_st i9 e13 (And.intro (by omega) trivial)
        have j15 := ivf_sa j10 e13 rfl
        have f16 := frm_s f11 e13 rfl
        exact And.intro (by omega) ((hK _ i14 j15 f16).1 (by first | omega | (subst_vars; omega) | (simp_all; done) | (simp_all; omega)))
      · refine And.intro (fun h17 => by exfalso; omega) (fun h17 => ?_)
        exact And.intro (by omega) ((hK _ i0 j0 f0).2 (by first | omega | (subst_vars; omega) | (simp_all; done) | (simp_all; omega)))
    · refine And.intro (fun h18 => ?_) (fun h18 => by exfalso; omega)
      exact And.intro (by omega) ((hK _ i0 j0 f0).2 (by first | omega | (subst_vars; omega) | (simp_all; done) | (simp_all; omega)))
  · refine And.intro (fun h19 => ?_) (fun h19 => by exfalso; omega)
    exact And.intro (by omega) ((hK _ i0 j0 f0).2 (by first | omega | (subst_vars; omega) | (simp_all; done) | (simp_all; omega)))
def sC_seed : qS := fun as A K => ∃ x : Int, as = [rf 0, ni x] ∧ (iva IC A ∧ ivf JC A) ∧ (∀ A' : qA, iva IC A' → ivf JC A' → frm [] [(0, 11)] A A' → (0 ≤ x ∧ x ≤ 65535 → K (some (ni 1)) A') ∧ (¬ (0 ≤ x ∧ x ≤ 65535) → K (some (ni 0)) A'))
theorem okC_seed : okM LC 2 102 sC_seed := by
  refine qmeth [] false [(138, sC_within)] 17 rfl ⟨okC_within.le (by decide), trivial⟩ ?_
  rintro _ A K hA has ⟨x, rfl, ⟨i0, j0⟩, hK⟩
  have rg_x : rng x := has (ni x) (by simp)
  have f0 := frm_0 [] [(0, 11)] A
  refine ⟨Nat.le_of_ble_eq_true rfl, [], trivial, ?_⟩
  have k1 : qn 65535 = 65535 := by decide
  refine Exists.intro x (Exists.intro (qn 65535) (And.intro rfl (And.intro (fun h2 => ?_) (fun h2 => ?_))))
  · refine And.intro (fun h3 => ?_) (fun h3 => by exfalso; omega)
    refine fun A4 e5 => ?_
    have i6 := iva_sf i0 e5 rfl
    have j7 := ivf_st j0 e5 (And.intro (by omega) trivial)
    have f8 := frm_sf f0 e5 rfl
    exact And.intro (by omega) ((hK _ i6 j7 f8).1 (by first | omega | (subst_vars; omega) | (simp_all; done) | (simp_all; omega)))
  · refine And.intro (fun h9 => by exfalso; omega) (fun h9 => ?_)
    exact And.intro (by omega) ((hK _ i0 j0 f0).2 (by first | omega | (subst_vars; omega) | (simp_all; done) | (simp_all; omega)))
def sC_feed : qS := fun as A K => ∃ a b c d e : Int, as = [rf 0, ni a, ni b, ni c, ni d, ni e] ∧ (iva IC A ∧ ivf JC A) ∧ (∀ A' : qA, iva IC A' → ivf JC A' → frm [53] [(52, 1)] A A' → ∀ r : Int, (-1) ≤ r → r ≤ 220 → K (some (ni r)) A')
theorem okC_feed : okM LC 2 103 sC_feed := by
  refine qmeth [] false [(84, sC_append)] 39 rfl ⟨okC_append.le (by decide), trivial⟩ ?_
  rintro _ A K hA has ⟨a, b, c, d, e, rfl, ⟨i0, j0⟩, hK⟩
  have rg_a : rng a := has (ni a) (by simp)
  have rg_b : rng b := has (ni b) (by simp)
  have rg_c : rng c := has (ni c) (by simp)
  have rg_d : rng d := has (ni d) (by simp)
  have rg_e : rng e := has (ni e) (by simp)
  have f0 := frm_0 [53] [(52, 1)] A
  refine ⟨Nat.le_of_ble_eq_true rfl, [], trivial, ?_⟩
  refine fun v1 gv1 e2 => ?_
  have b3 := ivf_at j0 3 rfl
  refine fun v4 e5 => ?_
  refine And.intro (by omega) (And.intro (fun h6 => ?_) (fun h6 => ?_))
  · refine Exists.intro a (And.intro rfl (And.intro (And.intro i0 j0) (fun A7 i8 j9 f10 => ?_)))
    have f11 := frm_c f0 f10 rfl
    refine Exists.intro b (And.intro rfl (And.intro (And.intro i8 j9) (fun A12 i13 j14 f15 => ?_)))
    have f16 := frm_c f11 f15 rfl
    refine Exists.intro c (And.intro rfl (And.intro (And.intro i13 j14) (fun A17 i18 j19 f20 => ?_)))
    have f21 := frm_c f16 f20 rfl
    refine Exists.intro d (And.intro rfl (And.intro (And.intro i18 j19) (fun A22 i23 j24 f25 => ?_)))
    have f26 := frm_c f21 f25 rfl
    refine Exists.intro e (And.intro rfl (And.intro (And.intro i23 j24) (fun A27 i28 j29 f30 => ?_)))
    have f31 := frm_c f26 f30 rfl
    refine fun v32 gv32 e33 => ?_
    have b34 := ivf_at j29 3 rfl
    exact hK _ i28 j29 f31 _ (by omega) (by omega)
  · exact hK _ i0 j0 f0 _ (by omega) (by omega)
def sC_cell : qS := fun as A K => ∃ c l w : Int, as = [rf 0, ni c, ni l, ni w] ∧ (iva IC A ∧ ivf JC A) ∧ (∀ r : Int, rng r → K (some (ni r)) A)
theorem okC_cell : okM LC 4 105 sC_cell := by
  refine qmeth [] false [(141, sC_isCell), (21, sC_hangs), (28, sC_netFact)] 42 rfl ⟨okC_isCell.le (by decide), ⟨okC_hangs.le (by decide), ⟨okC_netFact.le (by decide), trivial⟩⟩⟩ ?_
  rintro _ A K hA has ⟨c, l, w, rfl, ⟨i0, j0⟩, hK⟩
  have rg_c : rng c := has (ni c) (by simp)
  have rg_l : rng l := has (ni l) (by simp)
  have rg_w : rng w := has (ni w) (by simp)
  have f0 := frm_0 [] [] A
  refine ⟨Nat.le_of_ble_eq_true rfl, [], trivial, ?_⟩
  refine Exists.intro c (Exists.intro l (And.intro rfl (And.intro (fun h1 => ?_) (fun h1 => ?_))))
  · refine And.intro (fun h2 => ?_) (fun h2 => by exfalso; omega)
    refine fun v3 e4 => ?_
    refine fun v5 e6 => ?_
    refine And.intro (fun h7 => ?_) (fun h7 => ?_)
    · refine And.intro (by omega) (Exists.intro v5 (And.intro rfl (And.intro (fun h8 => ?_) (fun h8 => ?_))))
      · refine And.intro (fun h9 => by exfalso; omega) (fun h9 => ?_)
        refine And.intro (by omega) (Exists.intro v5 (Exists.intro w (And.intro rfl (And.intro (And.intro i0 (And.intro j0 (And.intro (by omega) (by omega)))) (fun r10 g11 => ?_)))))
        exact hK _ (by first | exact wI_rng _ | omega | (exact (hA _ _).2 rfl))
      · refine And.intro (fun h12 => ?_) (fun h12 => by exfalso; omega)
        exact hK _ (by first | exact wI_rng _ | omega | (exact (hA _ _).2 rfl))
    · refine And.intro (by omega) (Exists.intro v5 (And.intro rfl (And.intro (fun h13 => ?_) (fun h13 => ?_))))
      · refine And.intro (fun h14 => by exfalso; omega) (fun h14 => ?_)
        exact hK _ (by first | exact wI_rng _ | omega | (exact (hA _ _).2 rfl))
      · refine And.intro (fun h15 => ?_) (fun h15 => by exfalso; omega)
        exact hK _ (by first | exact wI_rng _ | omega | (exact (hA _ _).2 rfl))
  · refine And.intro (fun h16 => by exfalso; omega) (fun h16 => ?_)
    exact hK _ (by first | exact wI_rng _ | omega | (exact (hA _ _).2 rfl))
def sC_byLaw : qS := fun as A K => ∃ c l w : Int, as = [rf 0, ni c, ni l, ni w] ∧ (iva IC A ∧ ivf JC A ∧ (LW A) ∧ (KO A)) ∧ (∀ A' : qA, iva IC A' → ivf JC A' → frm [35, 43, 78] [(36, 9), (71, 9)] A A' → ∀ r : Int, (-2) ≤ r → r ≤ 1000 → K (some (ni r)) A')
theorem okC_byLaw : okM LC 6 106 sC_byLaw := by
  refine qmeth [] false [(141, sC_isCell), (138, sC_within), (21, sC_hangs), (22, sC_hasCrop), (5, sC_odds), (4, sC_growth), (6, sC_ageing)] 61 rfl ⟨okC_isCell.le (by decide), ⟨okC_within.le (by decide), ⟨okC_hangs.le (by decide), ⟨okC_hasCrop.le (by decide), ⟨okC_odds.le (by decide), ⟨okC_growth.le (by decide), ⟨okC_ageing.le (by decide), trivial⟩⟩⟩⟩⟩⟩⟩ ?_
  rintro _ A K hA has ⟨c, l, w, rfl, ⟨i0, j0, p1, p2⟩, hK⟩
  have rg_c : rng c := has (ni c) (by simp)
  have rg_l : rng l := has (ni l) (by simp)
  have rg_w : rng w := has (ni w) (by simp)
  have f0 := frm_0 [35, 43, 78] [(36, 9), (71, 9)] A
  refine ⟨Nat.le_of_ble_eq_true rfl, [], trivial, ?_⟩
  refine Exists.intro c (Exists.intro l (And.intro rfl (And.intro (fun h3 => ?_) (fun h3 => ?_))))
  · refine And.intro (fun h4 => by exfalso; omega) (fun h4 => ?_)
    refine Exists.intro w (Exists.intro 2 (And.intro rfl (And.intro (fun h5 => ?_) (fun h5 => ?_))))
    · refine And.intro (fun h6 => ?_) (fun h6 => by exfalso; omega)
      refine fun v7 e8 => ?_
      refine fun v9 e10 => ?_
      refine And.intro (by omega) (Exists.intro v9 (And.intro rfl (And.intro (fun h11 => ?_) (fun h11 => ?_))))
      · refine And.intro (fun h12 => ?_) (fun h12 => by exfalso; omega)
        refine And.intro (fun h13 => ?_) (fun h13 => ?_)
        · refine And.intro (by omega) (Exists.intro v9 (And.intro rfl (And.intro (fun h14 => ?_) (fun h14 => ?_))))
          · obtain ⟨v15, e16⟩ : ∃ v, v = A 6 v9 := ⟨_, rfl⟩
            refine And.intro (fun h17 => ?_) (fun h17 => by exfalso; omega)
            refine And.intro (fun h18 => ?_) (fun h18 => ?_)
            · refine And.intro (by omega) (Exists.intro v9 (And.intro rfl (And.intro (And.intro i0 (And.intro j0 (And.intro (by omega) (And.intro (by omega) (And.intro (LW_fr p1 f0 rfl) (KO_fr p2 f0 rfl)))))) (fun A19 i20 j21 f22 r23 g24 g25 => ?_))))
              have f26 := frm_c f0 f22 rfl
              exact hK _ i20 j21 f26 _ (by omega) (by omega)
            · refine And.intro (by omega) (fun v27 gv27 e28 => ?_)
              have b29 := iva_at i0 4 rfl (i := v9) (by omega) (by omega)
              refine And.intro (by omega) (Exists.intro v9 (Exists.intro v27 (And.intro rfl (And.intro (And.intro i0 (And.intro j0 (And.intro (by omega) (And.intro (by omega) (And.intro (LW_fr p1 f0 rfl) (KO_fr p2 f0 rfl)))))) (fun A30 i31 j32 f33 r34 g35 g36 => ?_)))))
              have f37 := frm_c f0 f33 rfl
              exact hK _ i31 j32 f37 _ (by omega) (by omega)
          · refine And.intro (fun h38 => by exfalso; omega) (fun h38 => ?_)
            exact hK _ i0 j0 f0 _ (by omega) (by omega)
        · refine And.intro (by omega) (Exists.intro v9 (And.intro rfl (And.intro (And.intro i0 (And.intro j0 (And.intro (by omega) (And.intro (by omega) (And.intro (LW_fr p1 f0 rfl) (KO_fr p2 f0 rfl)))))) (fun A39 i40 j41 f42 r43 g44 g45 => ?_))))
          have f46 := frm_c f0 f42 rfl
          exact hK _ i40 j41 f46 _ (by omega) (by omega)
      · refine And.intro (fun h47 => by exfalso; omega) (fun h47 => ?_)
        exact hK _ i0 j0 f0 _ (by omega) (by omega)
    · refine And.intro (fun h48 => by exfalso; omega) (fun h48 => ?_)
      exact hK _ i0 j0 f0 _ (by omega) (by omega)
  · refine And.intro (fun h49 => ?_) (fun h49 => by exfalso; omega)
    exact hK _ i0 j0 f0 _ (by omega) (by omega)
def sC_water : qS := fun as A K => as = [rf 0] ∧ (iva IC A ∧ ivf JC A) ∧ (∀ A' : qA, iva IC A' → ivf JC A' → frm [45, 46, 9, 19] [] A A' → ∀ r : Int, rng r → K (some (ni r)) A')
theorem okC_water : okM LC 6 107 sC_water := by
  refine qmeth [] false [(128, sC_letWaterFlow)] 9 rfl ⟨okC_letWaterFlow.le (by decide), trivial⟩ ?_
  rintro _ A K hA has ⟨rfl, ⟨i0, j0⟩, hK⟩
  have f0 := frm_0 [45, 46, 9, 19] [] A
  refine ⟨Nat.le_of_ble_eq_true rfl, [], trivial, ?_⟩
  refine And.intro rfl (And.intro (And.intro i0 j0) (fun A1 i2 j3 f4 r5 g6 => ?_))
  have f7 := frm_c f0 f4 rfl
  exact hK _ i2 j3 f7 _ (by first | exact wI_rng _ | omega | (exact (hA _ _).2 rfl))
def sC_fall : qS := fun as A K => ∃ c l : Int, as = [rf 0, ni c, ni l] ∧ (iva IC A ∧ ivf JC A ∧ (LW A) ∧ (KO A)) ∧ (∀ A' : qA, iva IC A' → ivf JC A' → frm [6, 7, 10, 8, 20, 23, 25, 26, 27, 28, 29, 30, 31, 32, 33, 35, 43, 78] [(24, 9), (24, 10), (36, 9), (71, 9)] A A' → ∀ r : Int, (-1) ≤ r → r ≤ 6 → K (some (ni r)) A')
theorem okC_fall : okM LC 6 108 sC_fall := by
  refine qmeth [] false [(137, sC_hungCell), (22, sC_hasCrop), (134, sC_dropCrop)] 25 rfl ⟨okC_hungCell.le (by decide), ⟨okC_hasCrop.le (by decide), ⟨okC_dropCrop.le (by decide), trivial⟩⟩⟩ ?_
  rintro _ A K hA has ⟨c, l, rfl, ⟨i0, j0, p1, p2⟩, hK⟩
  have rg_c : rng c := has (ni c) (by simp)
  have rg_l : rng l := has (ni l) (by simp)
  have f0 := frm_0 [6, 7, 10, 8, 20, 23, 25, 26, 27, 28, 29, 30, 31, 32, 33, 35, 43, 78] [(24, 9), (24, 10), (36, 9), (71, 9)] A
  refine ⟨Nat.le_of_ble_eq_true rfl, [], trivial, ?_⟩
  refine Exists.intro c (Exists.intro l (And.intro rfl (And.intro (And.intro i0 j0) (fun r3 g4 g5 => ?_))))
  refine And.intro (fun h6 => ?_) (fun h6 => ?_)
  · exact hK _ i0 j0 f0 _ (by omega) (by omega)
  · refine Exists.intro r3 (And.intro rfl (And.intro (fun h7 => ?_) (fun h7 => ?_)))
    · obtain ⟨v8, e9⟩ : ∃ v, v = A 6 r3 := ⟨_, rfl⟩
      refine And.intro (fun h10 => ?_) (fun h10 => by exfalso; omega)
      obtain ⟨v11, e12⟩ : ∃ v, v = A 6 r3 := ⟨_, rfl⟩
      have b13 := iva_at i0 2 rfl (i := r3) (by omega) (by omega)
      have q14 : v8 = v11 := (e12.trans e9.symm).symm
      subst q14
      refine Exists.intro r3 (Exists.intro 1 (And.intro rfl (And.intro (And.intro i0 (And.intro j0 (And.intro (by omega) (And.intro (by omega) (And.intro (by omega) (And.intro (by omega) (And.intro (by rw [← e12]; omega) (And.intro (LW_fr p1 f0 rfl) (KO_fr p2 f0 rfl))))))))) (fun A15 i16 j17 f18 r19 g20 g21 => ?_))))
      have f22 := frm_c f0 f18 rfl
      exact hK _ i16 j17 f22 _ (by omega) (by omega)
    · refine And.intro (fun h23 => by exfalso; omega) (fun h23 => ?_)
      exact hK _ i0 j0 f0 _ (by omega) (by omega)
def sC_go : qS := fun as A K => as = [rf 0] ∧ (iva IC A ∧ ivf JC A ∧ (LW A) ∧ (KO A)) ∧ (∀ A' : qA, iva IC A' → ivf JC A' → frm [6, 7, 10, 8, 20, 23, 25, 26, 27, 28, 29, 30, 31, 32, 33, 35, 43, 78, 3, 2] [(24, 9), (24, 10), (36, 9), (71, 9), (1, 0)] A A' → ∀ r : Int, rng r → K (some (ni r)) A')
theorem okC_go : okM LC 8 109 sC_go := by
  refine qmeth [] false [(132, sC_letKnotsGo)] 9 rfl ⟨okC_letKnotsGo.le (by decide), trivial⟩ ?_
  rintro _ A K hA has ⟨rfl, ⟨i0, j0, p1, p2⟩, hK⟩
  have f0 := frm_0 [6, 7, 10, 8, 20, 23, 25, 26, 27, 28, 29, 30, 31, 32, 33, 35, 43, 78, 3, 2] [(24, 9), (24, 10), (36, 9), (71, 9), (1, 0)] A
  refine ⟨Nat.le_of_ble_eq_true rfl, [], trivial, ?_⟩
  refine And.intro rfl (And.intro (And.intro i0 (And.intro j0 (And.intro (LW_fr p1 f0 rfl) (KO_fr p2 f0 rfl)))) (fun A3 i4 j5 f6 r7 g8 => ?_))
  have f9 := frm_c f0 f6 rfl
  exact hK _ i4 j5 f9 _ (by first | exact wI_rng _ | omega | (exact (hA _ _).2 rfl))
def sC_day : qS := fun as A K => as = [rf 0] ∧ (iva IC A ∧ ivf JC A ∧ (LW A) ∧ (KO A)) ∧ (∀ A' : qA, iva IC A' → ivf JC A' → frm [6, 7, 10, 8, 20, 23, 25, 26, 27, 28, 29, 30, 31, 32, 33, 35, 43, 78, 3, 2, 45, 46, 9, 19] [(24, 9), (24, 10), (36, 9), (71, 9), (1, 0), (0, 11), (15, 8)] A A' → ∀ r : Int, rng r → K (some (ni r)) A')
theorem okC_day : okM LC 8 110 sC_day := by
  refine qmeth [] true [(128, sC_letWaterFlow), (129, sC_letCropsGrow), (130, sC_letCropsFall), (131, sC_letKnotsAge), (132, sC_letKnotsGo)] 35 rfl ⟨okC_letWaterFlow.le (by decide), ⟨okC_letCropsGrow.le (by decide), ⟨okC_letCropsFall.le (by decide), ⟨okC_letKnotsAge.le (by decide), ⟨okC_letKnotsGo.le (by decide), trivial⟩⟩⟩⟩⟩ ?_
  rintro _ A K hA has ⟨rfl, ⟨i0, j0, p1, p2⟩, hK⟩
  have f0 := frm_0 [6, 7, 10, 8, 20, 23, 25, 26, 27, 28, 29, 30, 31, 32, 33, 35, 43, 78, 3, 2, 45, 46, 9, 19] [(24, 9), (24, 10), (36, 9), (71, 9), (1, 0), (0, 11), (15, 8)] A
  refine ⟨Nat.le_of_ble_eq_true rfl, [], trivial, ?_⟩
  refine fun v3 gv3 e4 => ?_
  refine And.intro rfl (And.intro (And.intro i0 j0) (fun A5 i6 j7 f8 r9 g10 => ?_))
  have f11 := frm_c f0 f8 rfl
  refine And.intro rfl (And.intro (And.intro i6 (And.intro j7 (And.intro (LW_fr p1 f11 rfl) (KO_fr p2 f11 rfl)))) (fun A12 i13 j14 f15 => ?_))
  have f16 := frm_c f11 f15 rfl
  refine And.intro rfl (And.intro (And.intro i13 (And.intro j14 (And.intro (LW_fr p1 f16 rfl) (KO_fr p2 f16 rfl)))) (fun A17 i18 j19 f20 => ?_))
  have f21 := frm_c f16 f20 rfl
  refine And.intro rfl (And.intro (And.intro i18 (And.intro j19 (And.intro (LW_fr p1 f21 rfl) (KO_fr p2 f21 rfl)))) (fun A22 i23 j24 f25 => ?_))
  have f26 := frm_c f21 f25 rfl
  refine And.intro rfl (And.intro (And.intro i23 (And.intro j24 (And.intro (LW_fr p1 f26 rfl) (KO_fr p2 f26 rfl)))) (fun A27 i28 j29 f30 r31 g32 => ?_))
  have f33 := frm_c f26 f30 rfl
  refine fun v34 gv34 e35 => ?_
  refine fun v36 e37 => ?_
  have w40 := wI_rng v36
  refine fun A38 e39 => ?_
  have i41 := iva_sf i28 e39 rfl
  have j42 := ivf_st j29 e39 trivial
  have f43 := frm_sf f33 e39 rfl
  refine fun v44 gv44 e45 => ?_
  refine fun v46 e47 => ?_
  have w48 := wI_rng v46
  exact hK _ i41 j42 f43 _ (by first | exact wI_rng _ | omega | (exact (hA _ _).2 rfl))
def sC_torn : qS := fun as A K => ∃ c l : Int, as = [rf 0, ni c, ni l] ∧ (iva IC A ∧ ivf JC A) ∧ (∀ A' : qA, iva IC A' → ivf JC A' → frm [2, 14] [(1, 0)] A A' → ∀ r : Int, rngL r → K (some (nl r)) A')
theorem okC_torn : okM LC 5 111 sC_torn := by
  refine qmeth [] false [(137, sC_hungCell), (34, sC_wouldGo)] 20 rfl ⟨okC_hungCell.le (by decide), ⟨okC_wouldGo.le (by decide), trivial⟩⟩ ?_
  rintro _ A K hA has ⟨c, l, rfl, ⟨i0, j0⟩, hK⟩
  have rg_c : rng c := has (ni c) (by simp)
  have rg_l : rng l := has (ni l) (by simp)
  have f0 := frm_0 [2, 14] [(1, 0)] A
  refine ⟨Nat.le_of_ble_eq_true rfl, [], trivial, ?_⟩
  refine Exists.intro c (Exists.intro l (And.intro rfl (And.intro (And.intro i0 j0) (fun r1 g2 g3 => ?_))))
  refine And.intro (fun h4 => ?_) (fun h4 => ?_)
  · refine Exists.intro r1 (And.intro rfl (And.intro (And.intro i0 (And.intro j0 (And.intro (by omega) (by omega)))) (fun A5 i6 j7 f8 r9 g10 => ?_)))
    have f11 := frm_c f0 f8 rfl
    exact hK _ i6 j7 f11 _ (by first | assumption | omega | (subst_vars; exact l_rng _) | (subst_vars; exact (hB _ _).1) | exact qnL_rng (by decide))
  · exact hK _ i0 j0 f0 _ (by first | assumption | omega | (subst_vars; exact l_rng _) | (subst_vars; exact (hB _ _).1) | exact qnL_rng (by decide))
def sC_fallIs : qS := fun as A K => ∃ i w : Int, as = [rf 0, ni i, ni w] ∧ (iva IC A ∧ ivf JC A) ∧ (∀ r : Int, rng r → K (some (ni r)) A)
theorem okC_fallIs : okM LC 2 112 sC_fallIs := by
  refine qmeth [] false [(17, sC_isWritten), (18, sC_fallFact)] 19 rfl ⟨okC_isWritten.le (by decide), ⟨okC_fallFact.le (by decide), trivial⟩⟩ ?_
  rintro _ A K hA has ⟨i, w, rfl, ⟨i0, j0⟩, hK⟩
  have rg_i : rng i := has (ni i) (by simp)
  have rg_w : rng w := has (ni w) (by simp)
  have f0 := frm_0 [] [] A
  refine ⟨Nat.le_of_ble_eq_true rfl, [], trivial, ?_⟩
  refine Exists.intro i (And.intro rfl (And.intro (And.intro i0 j0) (And.intro (fun h1 => ?_) (fun h1 => ?_))))
  · refine And.intro (fun h2 => by exfalso; omega) (fun h2 => ?_)
    refine Exists.intro i (Exists.intro w (And.intro rfl (And.intro (And.intro i0 (And.intro j0 (And.intro (by omega) (by omega)))) (fun r3 g4 => ?_))))
    exact hK _ (by first | exact wI_rng _ | omega | (exact (hA _ _).2 rfl))
  · refine And.intro (fun h5 => ?_) (fun h5 => by exfalso; omega)
    exact hK _ (by first | exact wI_rng _ | omega | (exact (hA _ _).2 rfl))
def sC_claimed : qS := fun as A K => ∃ i p : Int, as = [rf 0, ni i, ni p] ∧ (iva IC A ∧ ivf JC A ∧ (LW A) ∧ (KO A)) ∧ (∀ A' : qA, iva IC A' → ivf JC A' → frm [35, 43, 78] [(36, 9), (71, 9)] A A' → ∀ r : Int, (-2) ≤ r → r ≤ 7 → K (some (ni r)) A')
theorem okC_claimed : okM LC 6 113 sC_claimed := by
  refine qmeth [] false [(17, sC_isWritten), (136, sC_claimantOf)] 24 rfl ⟨okC_isWritten.le (by decide), ⟨okC_claimantOf.le (by decide), trivial⟩⟩ ?_
  rintro _ A K hA has ⟨i, p, rfl, ⟨i0, j0, p1, p2⟩, hK⟩
  have rg_i : rng i := has (ni i) (by simp)
  have rg_p : rng p := has (ni p) (by simp)
  have f0 := frm_0 [35, 43, 78] [(36, 9), (71, 9)] A
  refine ⟨Nat.le_of_ble_eq_true rfl, [], trivial, ?_⟩
  refine Exists.intro i (And.intro rfl (And.intro (And.intro i0 j0) (And.intro (fun h3 => ?_) (fun h3 => ?_))))
  · refine And.intro (fun h4 => by exfalso; omega) (fun h4 => ?_)
    refine And.intro (fun h5 => ?_) (fun h5 => ?_)
    · exact hK _ i0 j0 f0 _ (by omega) (by omega)
    · refine And.intro (fun h6 => ?_) (fun h6 => ?_)
      · refine Exists.intro i (Exists.intro p (And.intro rfl (And.intro (And.intro i0 (And.intro j0 (And.intro (by omega) (And.intro (by omega) (And.intro (LW_fr p1 f0 rfl) (KO_fr p2 f0 rfl)))))) (fun A7 i8 j9 f10 r11 g12 g13 => ?_))))
        have f14 := frm_c f0 f10 rfl
        exact hK _ i8 j9 f14 _ (by omega) (by omega)
      · exact hK _ i0 j0 f0 _ (by omega) (by omega)
  · refine And.intro (fun h15 => ?_) (fun h15 => by exfalso; omega)
    exact hK _ i0 j0 f0 _ (by omega) (by omega)
def sC_right : qS := fun as A K => ∃ i p : Int, as = [rf 0, ni i, ni p] ∧ (iva IC A ∧ ivf JC A ∧ (LW A) ∧ (KO A)) ∧ (∀ A' : qA, iva IC A' → ivf JC A' → frm [23, 31, 35, 43, 78] [(36, 9), (71, 9)] A A' → ∀ r : Int, rng r → K (some (ni r)) A')
theorem okC_right : okM LC 6 114 sC_right := by
  refine qmeth [] true [(17, sC_isWritten), (136, sC_claimantOf), (140, sC_isPerson)] 79 rfl ⟨okC_isWritten.le (by decide), ⟨okC_claimantOf.le (by decide), ⟨okC_isPerson.le (by decide), trivial⟩⟩⟩ ?_
  rintro _ A K hA has ⟨i, p, rfl, ⟨i0, j0, p1, p2⟩, hK⟩
  have rg_i : rng i := has (ni i) (by simp)
  have rg_p : rng p := has (ni p) (by simp)
  have f0 := frm_0 [23, 31, 35, 43, 78] [(36, 9), (71, 9)] A
  refine ⟨Nat.le_of_ble_eq_true rfl, [], trivial, ?_⟩
  refine Exists.intro i (And.intro rfl (And.intro (And.intro i0 j0) (And.intro (fun h3 => ?_) (fun h3 => ?_))))
  · refine And.intro (fun h4 => by exfalso; omega) (fun h4 => ?_)
    refine And.intro (fun h5 => ?_) (fun h5 => ?_)
    · exact hK _ i0 j0 f0 _ (by first | exact wI_rng _ | omega | (exact (hA _ _).2 rfl))
    · refine And.intro (fun h6 => ?_) (fun h6 => ?_)
      · refine And.intro (by omega) (fun v7 gv7 e8 => ?_)
        have b9 := iva_at i0 21 rfl (i := i) (by omega) (by omega)
        refine Exists.intro i (Exists.intro p (And.intro rfl (And.intro (And.intro i0 (And.intro j0 (And.intro (by omega) (And.intro (by omega) (And.intro (LW_fr p1 f0 rfl) (KO_fr p2 f0 rfl)))))) (fun A10 i11 j12 f13 r14 g15 g16 => ?_))))
        have f17 := frm_c f0 f13 rfl
        refine Exists.intro v7 (And.intro rfl (And.intro (fun h18 => ?_) (fun h18 => ?_)))
        · refine And.intro (fun h19 => by exfalso; omega) (fun h19 => ?_)
          refine Exists.intro r14 (And.intro rfl (And.intro (fun h20 => ?_) (fun h20 => ?_)))
          · refine And.intro (fun h21 => by exfalso; omega) (fun h21 => ?_)
            refine And.intro (fun h22 => ?_) (fun h22 => ?_)
            · refine And.intro (by omega) (fun v23 gv23 e24 => ?_)
              refine And.intro (by omega) (fun v25 gv25 e26 => ?_)
              refine fun v27 e28 => ?_
              have w31 := wI_rng v27
              refine And.intro (by omega) (fun A29 e30 => ?_)
              have i32 := iva_st i11 e30 trivial
              have j33 := ivf_sa j12 e30 rfl
              have f34 := frm_s f17 e30 rfl
              refine And.intro (by omega) (fun v35 gv35 e36 => ?_)
              refine And.intro (by omega) (fun v37 gv37 e38 => ?_)
              have q39 : v25 = v37 := (e38.trans ((congrFun (st_a e30 rfl) _).trans e26.symm)).symm
              subst q39
              refine fun v40 e41 => ?_
              have w44 := wI_rng v40
              refine And.intro (by omega) (fun A42 e43 => ?_)
              have i45 := iva_st i32 e43 trivial
              have j46 := ivf_sa j33 e43 rfl
              have f47 := frm_s f34 e43 rfl
              refine And.intro (by omega) (fun A48 e49 => ?_)
              have i50 := iva_st i45 e49 (And.intro (by omega) trivial)
              have j51 := ivf_sa j46 e49 rfl
              have f52 := frm_s f47 e49 rfl
              refine And.intro (by omega) (fun v53 gv53 e54 => ?_)
              have q55 : v25 = v53 := (e54.trans ((congrFun (Eq.trans (st_a e49 rfl) (st_a e43 rfl)) _).trans e38.symm)).symm
              subst q55
              exact hK _ i50 j51 f52 _ (by first | exact wI_rng _ | omega | (exact (hA _ _).2 rfl))
            · exact hK _ i11 j12 f17 _ (by first | exact wI_rng _ | omega | (exact (hA _ _).2 rfl))
          · refine And.intro (fun h56 => ?_) (fun h56 => by exfalso; omega)
            exact hK _ i11 j12 f17 _ (by first | exact wI_rng _ | omega | (exact (hA _ _).2 rfl))
        · refine And.intro (fun h57 => ?_) (fun h57 => by exfalso; omega)
          exact hK _ i11 j12 f17 _ (by first | exact wI_rng _ | omega | (exact (hA _ _).2 rfl))
      · exact hK _ i0 j0 f0 _ (by first | exact wI_rng _ | omega | (exact (hA _ _).2 rfl))
  · refine And.intro (fun h58 => ?_) (fun h58 => by exfalso; omega)
    exact hK _ i0 j0 f0 _ (by first | exact wI_rng _ | omega | (exact (hA _ _).2 rfl))
def sC_food : qS := fun as A K => ∃ p : Int, as = [rf 0, ni p] ∧ (iva IC A ∧ ivf JC A) ∧ (∀ r : Int, rng r → K (some (ni r)) A)
theorem okC_food : okM LC 3 115 sC_food := by
  refine qmeth [] false [(140, sC_isPerson)] 17 rfl ⟨okC_isPerson.le (by decide), trivial⟩ ?_
  rintro _ A K hA has ⟨p, rfl, ⟨i0, j0⟩, hK⟩
  have rg_p : rng p := has (ni p) (by simp)
  have f0 := frm_0 [] [] A
  refine ⟨Nat.le_of_ble_eq_true rfl, [], trivial, ?_⟩
  refine Exists.intro p (And.intro rfl (And.intro (fun h1 => ?_) (fun h1 => ?_)))
  · refine And.intro (fun h2 => by exfalso; omega) (fun h2 => ?_)
    refine And.intro (by omega) (fun v3 gv3 e4 => ?_)
    exact hK _ (by first | exact wI_rng _ | omega | (exact (hA _ _).2 rfl))
  · refine And.intro (fun h5 => ?_) (fun h5 => by exfalso; omega)
    exact hK _ (by first | exact wI_rng _ | omega | (exact (hA _ _).2 rfl))
def sC_kitchenIs : qS := fun as A K => ∃ c w : Int, as = [rf 0, ni c, ni w] ∧ (iva IC A ∧ ivf JC A) ∧ (∀ r : Int, rng r → K (some (ni r)) A)
theorem okC_kitchenIs : okM LC 3 116 sC_kitchenIs := by
  refine qmeth [] false [(139, sC_isColumn), (2, sC_browFact)] 17 rfl ⟨okC_isColumn.le (by decide), ⟨okC_browFact.le (by decide), trivial⟩⟩ ?_
  rintro _ A K hA has ⟨c, w, rfl, ⟨i0, j0⟩, hK⟩
  have rg_c : rng c := has (ni c) (by simp)
  have rg_w : rng w := has (ni w) (by simp)
  have f0 := frm_0 [] [] A
  refine ⟨Nat.le_of_ble_eq_true rfl, [], trivial, ?_⟩
  refine Exists.intro c (And.intro rfl (And.intro (fun h1 => ?_) (fun h1 => ?_)))
  · refine And.intro (fun h2 => by exfalso; omega) (fun h2 => ?_)
    refine Exists.intro c (Exists.intro w (And.intro rfl (And.intro (And.intro i0 (And.intro j0 (And.intro (by omega) (by omega)))) (fun r3 g4 => ?_))))
    exact hK _ (by first | exact wI_rng _ | omega | (exact (hA _ _).2 rfl))
  · refine And.intro (fun h5 => ?_) (fun h5 => by exfalso; omega)
    exact hK _ (by first | exact wI_rng _ | omega | (exact (hA _ _).2 rfl))
def sC_mayWork : qS := fun as A K => ∃ w c l : Int, as = [rf 0, ni w, ni c, ni l] ∧ (iva IC A ∧ ivf JC A) ∧ (∀ r : Int, (-1) ≤ r → r ≤ 1 → K (some (ni r)) A)
theorem okC_mayWork : okM LC 4 117 sC_mayWork := by
  refine qmeth [] false [(141, sC_isCell), (1, sC_carries)] 29 rfl ⟨okC_isCell.le (by decide), ⟨okC_carries.le (by decide), trivial⟩⟩ ?_
  rintro _ A K hA has ⟨w, c, l, rfl, ⟨i0, j0⟩, hK⟩
  have rg_w : rng w := has (ni w) (by simp)
  have rg_c : rng c := has (ni c) (by simp)
  have rg_l : rng l := has (ni l) (by simp)
  have f0 := frm_0 [] [] A
  refine ⟨Nat.le_of_ble_eq_true rfl, [], trivial, ?_⟩
  refine And.intro (fun h1 => ?_) (fun h1 => ?_)
  · exact hK _ (by omega) (by omega)
  · refine And.intro (fun h2 => ?_) (fun h2 => ?_)
    · exact hK _ (by omega) (by omega)
    · refine Exists.intro c (Exists.intro l (And.intro rfl (And.intro (fun h3 => ?_) (fun h3 => ?_))))
      · refine And.intro (fun h4 => ?_) (fun h4 => by exfalso; omega)
        refine Exists.intro w (Exists.intro c (Exists.intro l (And.intro rfl (And.intro (And.intro i0 (And.intro j0 (And.intro (by omega) (And.intro (by omega) (And.intro (by omega) (And.intro (by omega) (And.intro (by omega) (by omega)))))))) (fun r5 g6 g7 => ?_)))))
        refine And.intro (fun h8 => ?_) (fun h8 => ?_)
        · exact hK _ (by omega) (by omega)
        · exact hK _ (by omega) (by omega)
      · refine And.intro (fun h9 => by exfalso; omega) (fun h9 => ?_)
        exact hK _ (by omega) (by omega)
def sC_work : qS := fun as A K => ∃ w c x v : Int, as = [rf 0, ni w, ni c, nl x, ni v] ∧ (iva IC A ∧ ivf JC A) ∧ (∀ A' : qA, iva IC A' → ivf JC A' → frm [56, 57, 58, 59, 60, 61, 62] [(55, 7)] A A' → ∀ r : Int, rng r → K (some (ni r)) A')
theorem okC_work : okM LC 4 118 sC_work := by
  refine qmeth [] true [(143, sC_toldCells), (139, sC_isColumn), (63, sC_tell), (64, sC_asWork), (67, sC_solve), (73, sC_cellAt), (72, sC_least), (142, sC_isTold), (1, sC_carries)] 77 rfl ⟨okC_toldCells.le (by decide), ⟨okC_isColumn.le (by decide), ⟨okC_tell.le (by decide), ⟨okC_asWork.le (by decide), ⟨okC_solve.le (by decide), ⟨okC_cellAt.le (by decide), ⟨okC_least.le (by decide), ⟨okC_isTold.le (by decide), ⟨okC_carries.le (by decide), trivial⟩⟩⟩⟩⟩⟩⟩⟩⟩ ?_
  rintro _ A K hA has ⟨w, c, x, v, rfl, ⟨i0, j0⟩, hK⟩
  have rg_w : rng w := has (ni w) (by simp)
  have rg_c : rng c := has (ni c) (by simp)
  have rg_x : rngL x := has (nl x) (by simp)
  have rg_v : rng v := has (ni v) (by simp)
  have f0 := frm_0 [56, 57, 58, 59, 60, 61, 62] [(55, 7)] A
  refine ⟨Nat.le_of_ble_eq_true rfl, [(26, [(0, 2, 0), (1, 0, 0), (2, 0, 0), (3, 1, 0), (5, 0, 0), (7, 0, 0)], fun zs B nn => match zs with | [l1, l2, l3, l5, k] => iva IC B ∧ ivf JC B ∧ frm [56, 57, 58, 59, 60, 61, 62] [(55, 7)] A B ∧ nn = (48 - k : Int).toNat ∧ (l1 = w) ∧ (l2 = c) ∧ (l3 = x) ∧ (l5 = v) ∧ (0 ≤ k) ∧ (k ≤ 48) ∧ (1 ≤ w) ∧ (w ≤ 99) ∧ (0 ≤ c) ∧ (c ≤ 7) | _ => False)], ?_, ?_⟩
  · refine ⟨⟨rfl, ?_⟩, trivial⟩
    · refine fun l1 l2 l3 l5 k B mm hB hz hI => ?_
      obtain ⟨i1, j1, f1, hm, c0, c1, c2, c3, c4, c5, c6, c7, c8, c9⟩ := hI
      obtain ⟨hz_l1, hz_l2, hz_l3, hz_l5, hz_k, _⟩ := hz
      refine And.intro (fun h11 => ?_) (fun h11 => ?_)
      · refine Exists.intro l3 (And.intro rfl (And.intro (And.intro i1 j1) (fun A12 i13 j14 f15 => ?_)))
        have f16 := frm_c f1 f15 rfl
        refine Exists.intro l2 (And.intro rfl (And.intro (And.intro i13 (And.intro j14 (And.intro (by omega) (by omega)))) (fun A17 i18 j19 f20 => ?_)))
        have f21 := frm_c f16 f20 rfl
        refine And.intro rfl (And.intro (And.intro i18 j19) (fun A22 i23 j24 f25 => ?_))
        have f26 := frm_c f21 f25 rfl
        refine And.intro (fun h27 => ?_) (fun h27 => ?_)
        · refine Exists.intro l5 (And.intro rfl (And.intro (And.intro i23 j24) (fun r28 g29 g30 => ?_)))
          exact hK _ i23 j24 f26 _ (by first | exact wI_rng _ | omega | (exact (hA _ _).2 rfl))
        · refine And.intro rfl (And.intro (And.intro i23 j24) (fun r31 g32 => ?_))
          exact hK _ i23 j24 f26 _ (by first | exact wI_rng _ | omega | (exact (hA _ _).2 rfl))
      · refine Exists.intro l3 (Exists.intro k (And.intro rfl (fun r33 g34 g35 => ?_)))
        refine And.intro (fun h36 => ?_) (fun h36 => ?_)
        · refine fun v37 e38 => ?_
          have w39 := wI_rng v37
          have w40 : wI v37 = v37 := wI_id (by omega)
          exact Exists.intro (48 - ((wI v37)) : Int).toNat (And.intro (by omega) (And.intro i1 (And.intro j1 (And.intro f1 (And.intro rfl (And.intro (by omega) (And.intro (by omega) (And.intro (by omega) (And.intro (by omega) (And.intro (by omega) (And.intro (by omega) (And.intro (by omega) (And.intro (by omega) (And.intro (by omega) (by omega)))))))))))))))
        · refine And.intro (by omega) (fun v41 e42 => ?_)
          have h43 := qd_nn (a := k) (b := 6) (by omega)
          refine And.intro (by omega) (fun v44 e45 => ?_)
          have h46 := qm_nn (a := k) (b := 6) (by omega)
          have w47 := wI_rng v41
          have w48 : wI v41 = v41 := wI_id (by omega)
          refine Exists.intro l1 (Exists.intro (wI v41) (Exists.intro v44 (And.intro rfl (And.intro (And.intro i1 (And.intro j1 (And.intro (by omega) (And.intro (by omega) (And.intro (by omega) (And.intro (by omega) (And.intro (by omega) (by omega)))))))) (fun r49 g50 g51 => ?_)))))
          refine And.intro (fun h52 => ?_) (fun h52 => ?_)
          · refine fun v53 e54 => ?_
            have w55 := wI_rng v53
            have w56 : wI v53 = v53 := wI_id (by omega)
            exact Exists.intro (48 - ((wI v53)) : Int).toNat (And.intro (by omega) (And.intro i1 (And.intro j1 (And.intro f1 (And.intro rfl (And.intro (by omega) (And.intro (by omega) (And.intro (by omega) (And.intro (by omega) (And.intro (by omega) (And.intro (by omega) (And.intro (by omega) (And.intro (by omega) (And.intro (by omega) (by omega)))))))))))))))
          · exact hK _ i1 j1 f1 _ (by first | exact wI_rng _ | omega | (exact (hA _ _).2 rfl))
  · refine Exists.intro x (Exists.intro 8 (And.intro rfl (fun r1 g2 => ?_)))
    refine And.intro (fun h3 => ?_) (fun h3 => ?_)
    · exact hK _ i0 j0 f0 _ (by first | exact wI_rng _ | omega | (exact (hA _ _).2 rfl))
    · refine And.intro (fun h4 => ?_) (fun h4 => ?_)
      · exact hK _ i0 j0 f0 _ (by first | exact wI_rng _ | omega | (exact (hA _ _).2 rfl))
      · refine Exists.intro c (And.intro rfl (And.intro (fun h5 => ?_) (fun h5 => ?_)))
        · refine And.intro (fun h6 => by exfalso; omega) (fun h6 => ?_)
          refine And.intro (fun h7 => ?_) (fun h7 => ?_)
          · exact hK _ i0 j0 f0 _ (by first | exact wI_rng _ | omega | (exact (hA _ _).2 rfl))
          · refine And.intro (fun h8 => ?_) (fun h8 => ?_)
            · exact hK _ i0 j0 f0 _ (by first | exact wI_rng _ | omega | (exact (hA _ _).2 rfl))
            · refine And.intro (fun h9 => ?_) (fun h9 => ?_)
              · exact Exists.intro (48 - 0 : Int).toNat (And.intro i0 (And.intro j0 (And.intro f0 (And.intro rfl (And.intro (by omega) (And.intro (by omega) (And.intro (by omega) (And.intro (by omega) (And.intro (by omega) (And.intro (by omega) (And.intro (by omega) (And.intro (by omega) (And.intro (by omega) (by omega))))))))))))))
              · exact hK _ i0 j0 f0 _ (by first | exact wI_rng _ | omega | (exact (hA _ _).2 rfl))
        · refine And.intro (fun h10 => ?_) (fun h10 => by exfalso; omega)
          exact hK _ i0 j0 f0 _ (by first | exact wI_rng _ | omega | (exact (hA _ _).2 rfl))
def sC_pollen : qS := fun as A K => ∃ f t k n w : Int, as = [rf 0, ni f, ni t, ni k, ni n, ni w] ∧ (iva IC A ∧ ivf JC A) ∧ (∀ A' : qA, iva IC A' → ivf JC A' → frm [69, 70] [(68, 2), (68, 3)] A A' → ∀ r : Int, rngL r → K (some (nl r)) A')
theorem okC_pollen : okM LC 4 119 sC_pollen := by
  refine qmeth [] false [(139, sC_isColumn), (138, sC_within), (35, sC_columnsOf), (80, sC_fly)] 50 rfl ⟨okC_isColumn.le (by decide), ⟨okC_within.le (by decide), ⟨okC_columnsOf.le (by decide), ⟨okC_fly.le (by decide), trivial⟩⟩⟩⟩ ?_
  rintro _ A K hA has ⟨f, t, k, n, w, rfl, ⟨i0, j0⟩, hK⟩
  have rg_f : rng f := has (ni f) (by simp)
  have rg_t : rng t := has (ni t) (by simp)
  have rg_k : rng k := has (ni k) (by simp)
  have rg_n : rng n := has (ni n) (by simp)
  have rg_w : rng w := has (ni w) (by simp)
  have f0 := frm_0 [69, 70] [(68, 2), (68, 3)] A
  refine ⟨Nat.le_of_ble_eq_true rfl, [], trivial, ?_⟩
  refine Exists.intro f (And.intro rfl (And.intro (fun h1 => ?_) (fun h1 => ?_)))
  · refine And.intro (fun h2 => by exfalso; omega) (fun h2 => ?_)
    refine Exists.intro t (And.intro rfl (And.intro (fun h3 => ?_) (fun h3 => ?_)))
    · refine And.intro (fun h4 => by exfalso; omega) (fun h4 => ?_)
      refine Exists.intro k (Exists.intro 5 (And.intro rfl (And.intro (fun h5 => ?_) (fun h5 => ?_))))
      · refine And.intro (fun h6 => by exfalso; omega) (fun h6 => ?_)
        refine And.intro (fun h7 => ?_) (fun h7 => ?_)
        · exact hK _ i0 j0 f0 _ (by first | assumption | omega | (subst_vars; exact l_rng _) | (subst_vars; exact (hB _ _).1) | exact qnL_rng (by decide))
        · refine And.intro (fun h8 => ?_) (fun h8 => ?_)
          · exact hK _ i0 j0 f0 _ (by first | assumption | omega | (subst_vars; exact l_rng _) | (subst_vars; exact (hB _ _).1) | exact qnL_rng (by decide))
          · refine Exists.intro w (Exists.intro 1 (And.intro rfl (And.intro (fun h9 => ?_) (fun h9 => ?_))))
            · refine And.intro (fun h10 => ?_) (fun h10 => by exfalso; omega)
              refine Exists.intro k (And.intro rfl (And.intro (And.intro i0 j0) (fun r11 g12 g13 => ?_)))
              refine Exists.intro f (Exists.intro t (Exists.intro r11 (Exists.intro n (And.intro rfl (And.intro (And.intro i0 (And.intro j0 (And.intro (by omega) (And.intro (by omega) (And.intro (by omega) (by omega)))))) (fun A14 i15 j16 f17 => ?_))))))
              have f18 := frm_c f0 f17 rfl
              refine And.intro (fun h19 => ?_) (fun h19 => ?_)
              · refine fun v20 gv20 e21 => ?_
                exact hK _ i15 j16 f18 _ (by first | assumption | omega | (subst_vars; exact l_rng _) | (subst_vars; exact (hB _ _).1) | exact qnL_rng (by decide))
              · refine fun v22 gv22 e23 => ?_
                exact hK _ i15 j16 f18 _ (by first | assumption | omega | (subst_vars; exact l_rng _) | (subst_vars; exact (hB _ _).1) | exact qnL_rng (by decide))
            · refine And.intro (fun h24 => by exfalso; omega) (fun h24 => ?_)
              exact hK _ i0 j0 f0 _ (by first | assumption | omega | (subst_vars; exact l_rng _) | (subst_vars; exact (hB _ _).1) | exact qnL_rng (by decide))
      · refine And.intro (fun h25 => ?_) (fun h25 => by exfalso; omega)
        exact hK _ i0 j0 f0 _ (by first | assumption | omega | (subst_vars; exact l_rng _) | (subst_vars; exact (hB _ _).1) | exact qnL_rng (by decide))
    · refine And.intro (fun h26 => ?_) (fun h26 => by exfalso; omega)
      exact hK _ i0 j0 f0 _ (by first | assumption | omega | (subst_vars; exact l_rng _) | (subst_vars; exact (hB _ _).1) | exact qnL_rng (by decide))
  · refine And.intro (fun h27 => ?_) (fun h27 => by exfalso; omega)
    exact hK _ i0 j0 f0 _ (by first | assumption | omega | (subst_vars; exact l_rng _) | (subst_vars; exact (hB _ _).1) | exact qnL_rng (by decide))
def sC_pollinate : qS := fun as A K => ∃ c k : Int, as = [rf 0, ni c, ni k] ∧ (iva IC A ∧ ivf JC A) ∧ (∀ A' : qA, iva IC A' → ivf JC A' → frm [10] [] A A' → ∀ r : Int, rng r → K (some (ni r)) A')
theorem okC_pollinate : okM LC 3 120 sC_pollinate := by
  refine qmeth [] true [(139, sC_isColumn), (138, sC_within), (22, sC_hasCrop)] 57 rfl ⟨okC_isColumn.le (by decide), ⟨okC_within.le (by decide), ⟨okC_hasCrop.le (by decide), trivial⟩⟩⟩ ?_
  rintro _ A K hA has ⟨c, k, rfl, ⟨i0, j0⟩, hK⟩
  have rg_c : rng c := has (ni c) (by simp)
  have rg_k : rng k := has (ni k) (by simp)
  have f0 := frm_0 [10] [] A
  refine ⟨Nat.le_of_ble_eq_true rfl, [(13, [(0, 2, 0), (1, 0, 0), (2, 0, 0), (3, 0, 0), (4, 0, 0)], fun zs B nn => match zs with | [l1, l2, s, l] => iva IC B ∧ ivf JC B ∧ frm [10] [] A B ∧ nn = (6 - l : Int).toNat ∧ (l1 = c) ∧ (l2 = k) ∧ (0 ≤ l) ∧ (l ≤ 6) ∧ (0 ≤ c) ∧ (c ≤ 7) | _ => False)], ?_, ?_⟩
  · refine ⟨⟨rfl, ?_⟩, trivial⟩
    · refine fun l1 l2 s l B mm hB hz hI => ?_
      obtain ⟨i1, j1, f1, hm, c0, c1, c2, c3, c4, c5⟩ := hI
      obtain ⟨hz_l1, hz_l2, hz_s, hz_l, _⟩ := hz
      refine And.intro (fun h7 => ?_) (fun h7 => ?_)
      · exact hK _ i1 j1 f1 _ (by first | exact wI_rng _ | omega | (exact (hA _ _).2 rfl))
      · refine fun v8 e9 => ?_
        refine fun v10 e11 => ?_
        have w12 := wI_rng v10
        refine Exists.intro (wI v10) (And.intro rfl (And.intro (fun h13 => ?_) (fun h13 => ?_)))
        · obtain ⟨v14, e15⟩ : ∃ v, v = B 6 (wI v10) := ⟨_, rfl⟩
          refine And.intro (fun h16 => by exfalso; omega) (fun h16 => ?_)
          refine And.intro (by omega) (fun v17 gv17 e18 => ?_)
          have b19 := iva_at i1 2 rfl (i := v10) (by omega) (by omega)
          refine And.intro (fun h20 => ?_) (fun h20 => ?_)
          · refine fun v21 e22 => ?_
            have w23 := wI_rng v21
            have w24 : wI v21 = v21 := wI_id (by omega)
            exact Exists.intro (6 - ((wI v21)) : Int).toNat (And.intro (by omega) (And.intro i1 (And.intro j1 (And.intro f1 (And.intro rfl (And.intro (by omega) (And.intro (by omega) (And.intro (by omega) (And.intro (by omega) (And.intro (by omega) (by omega)))))))))))
          · refine And.intro (by omega) (fun v25 gv25 e26 => ?_)
            have b27 := iva_at i1 5 rfl (i := v10) (by omega) (by omega)
            refine And.intro (fun h28 => ?_) (fun h28 => ?_)
            · refine fun v29 e30 => ?_
              have w31 := wI_rng v29
              have w32 : wI v29 = v29 := wI_id (by omega)
              exact Exists.intro (6 - ((wI v29)) : Int).toNat (And.intro (by omega) (And.intro i1 (And.intro j1 (And.intro f1 (And.intro rfl (And.intro (by omega) (And.intro (by omega) (And.intro (by omega) (And.intro (by omega) (And.intro (by omega) (by omega)))))))))))
            · refine And.intro (by omega) (And.intro (by omega) (fun A33 e34 => ?_))
              have i35 := iva_st i1 e34 (And.intro (by omega) trivial)
              have j36 := ivf_sa j1 e34 rfl
              have f37 := frm_s f1 e34 rfl
              refine fun v38 e39 => ?_
              refine fun v40 e41 => ?_
              have w42 := wI_rng v38
              have w43 := wI_rng v40
              have w44 : wI v40 = v40 := wI_id (by omega)
              exact Exists.intro (6 - ((wI v40)) : Int).toNat (And.intro (by omega) (And.intro i35 (And.intro j36 (And.intro f37 (And.intro rfl (And.intro (by omega) (And.intro (by omega) (And.intro (by omega) (And.intro (by omega) (And.intro (by omega) (by omega)))))))))))
        · refine And.intro (fun h45 => ?_) (fun h45 => by exfalso; omega)
          refine fun v46 e47 => ?_
          have w48 := wI_rng v46
          have w49 : wI v46 = v46 := wI_id (by omega)
          exact Exists.intro (6 - ((wI v46)) : Int).toNat (And.intro (by omega) (And.intro i1 (And.intro j1 (And.intro f1 (And.intro rfl (And.intro (by omega) (And.intro (by omega) (And.intro (by omega) (And.intro (by omega) (And.intro (by omega) (by omega)))))))))))
  · refine Exists.intro c (And.intro rfl (And.intro (fun h1 => ?_) (fun h1 => ?_)))
    · refine And.intro (fun h2 => by exfalso; omega) (fun h2 => ?_)
      refine Exists.intro k (Exists.intro 5 (And.intro rfl (And.intro (fun h3 => ?_) (fun h3 => ?_))))
      · refine And.intro (fun h4 => ?_) (fun h4 => by exfalso; omega)
        exact Exists.intro (6 - 0 : Int).toNat (And.intro i0 (And.intro j0 (And.intro f0 (And.intro rfl (And.intro (by omega) (And.intro (by omega) (And.intro (by omega) (And.intro (by omega) (And.intro (by omega) (by omega))))))))))
      · refine And.intro (fun h5 => by exfalso; omega) (fun h5 => ?_)
        exact hK _ i0 j0 f0 _ (by first | exact wI_rng _ | omega | (exact (hA _ _).2 rfl))
    · refine And.intro (fun h6 => ?_) (fun h6 => by exfalso; omega)
      exact hK _ i0 j0 f0 _ (by first | exact wI_rng _ | omega | (exact (hA _ _).2 rfl))
def sC_planted : qS := fun as A K => ∃ x w : Int, as = [rf 0, nl x, ni w] ∧ (iva IC A ∧ ivf JC A) ∧ (∀ A' : qA, iva IC A' → ivf JC A' → frm [64, 65, 66, 67, 6, 7, 10] [(63, 6), (63, 7)] A A' → ∀ r : Int, rng r → K (some (ni r)) A')
theorem okC_planted : okM LC 8 121 sC_planted := by
  refine qmeth [] true [(143, sC_toldCells), (38, sC_choose), (43, sC_kindAt), (42, sC_carryOut), (142, sC_isTold), (21, sC_hangs), (22, sC_hasCrop)] 75 rfl ⟨okC_toldCells.le (by decide), ⟨okC_choose.le (by decide), ⟨okC_kindAt.le (by decide), ⟨okC_carryOut.le (by decide), ⟨okC_isTold.le (by decide), ⟨okC_hangs.le (by decide), ⟨okC_hasCrop.le (by decide), trivial⟩⟩⟩⟩⟩⟩⟩ ?_
  rintro _ A K hA has ⟨x, w, rfl, ⟨i0, j0⟩, hK⟩
  have rg_x : rngL x := has (nl x) (by simp)
  have rg_w : rng w := has (ni w) (by simp)
  have f0 := frm_0 [64, 65, 66, 67, 6, 7, 10] [(63, 6), (63, 7)] A
  refine ⟨Nat.le_of_ble_eq_true rfl, [(20, [(0, 2, 0), (1, 1, 0), (3, 0, 0), (5, 0, 0)], fun zs B nn => match zs with | [l1, l3, k] => iva IC B ∧ ivf JC B ∧ frm [64, 65, 66, 67, 6, 7, 10] [(63, 6), (63, 7)] A B ∧ nn = (48 - k : Int).toNat ∧ (l1 = x) ∧ (l3 = w) ∧ (0 ≤ k) ∧ (k ≤ 48) | _ => False)], ?_, ?_⟩
  · refine ⟨⟨rfl, ?_⟩, trivial⟩
    · refine fun l1 l3 k B mm hB hz hI => ?_
      obtain ⟨i1, j1, f1, hm, c0, c1, c2, c3⟩ := hI
      obtain ⟨hz_l1, hz_l3, hz_k, _⟩ := hz
      refine And.intro (fun h7 => ?_) (fun h7 => ?_)
      · refine Exists.intro l1 (And.intro rfl (And.intro (And.intro i1 j1) (fun A8 i9 j10 f11 r12 g13 g14 => ?_)))
        have f15 := frm_c f1 f11 rfl
        refine And.intro (fun h16 => ?_) (fun h16 => ?_)
        · refine And.intro (fun h17 => ?_) (fun h17 => ?_)
          · refine And.intro (fun h18 => ?_) (fun h18 => ?_)
            · refine fun v19 gv19 e20 => ?_
              exact hK _ i9 j10 f15 _ (by first | exact wI_rng _ | omega | (exact (hA _ _).2 rfl))
            · refine And.intro (fun h21 => ?_) (fun h21 => ?_)
              · refine Exists.intro l3 (And.intro rfl (And.intro (And.intro i9 j10) (fun r22 g23 g24 => ?_)))
                exact hK _ i9 j10 f15 _ (by first | exact wI_rng _ | omega | (exact (hA _ _).2 rfl))
              · refine fun v25 gv25 e26 => ?_
                exact hK _ i9 j10 f15 _ (by first | exact wI_rng _ | omega | (exact (hA _ _).2 rfl))
          · refine And.intro rfl (And.intro (And.intro i9 j10) (fun A27 i28 j29 f30 => ?_))
            have f31 := frm_c f15 f30 rfl
            refine And.intro (fun h32 => by exfalso; omega) (fun h32 => ?_)
            refine And.intro (fun h33 => by exfalso; omega) (fun h33 => ?_)
            refine fun v34 gv34 e35 => ?_
            exact hK _ i28 j29 f31 _ (by first | exact wI_rng _ | omega | (exact (hA _ _).2 rfl))
        · exact hK _ i9 j10 f15 _ (by first | exact wI_rng _ | omega | (exact (hA _ _).2 rfl))
      · refine Exists.intro l1 (Exists.intro k (And.intro rfl (fun r36 g37 g38 => ?_)))
        refine And.intro (fun h39 => ?_) (fun h39 => ?_)
        · refine fun v40 e41 => ?_
          have w42 := wI_rng v40
          have w43 : wI v40 = v40 := wI_id (by omega)
          exact Exists.intro (48 - ((wI v40)) : Int).toNat (And.intro (by omega) (And.intro i1 (And.intro j1 (And.intro f1 (And.intro rfl (And.intro (by omega) (And.intro (by omega) (And.intro (by omega) (by omega)))))))))
        · refine Exists.intro k (And.intro rfl (And.intro (fun h44 => ?_) (fun h44 => ?_)))
          · refine And.intro (fun h45 => by exfalso; omega) (fun h45 => ?_)
            refine Exists.intro k (And.intro rfl (And.intro (fun h46 => ?_) (fun h46 => ?_)))
            · obtain ⟨v47, e48⟩ : ∃ v, v = B 6 k := ⟨_, rfl⟩
              refine And.intro (fun h49 => by exfalso; omega) (fun h49 => ?_)
              exact hK _ i1 j1 f1 _ (by first | exact wI_rng _ | omega | (exact (hA _ _).2 rfl))
            · refine And.intro (fun h50 => ?_) (fun h50 => by exfalso; omega)
              refine fun v51 e52 => ?_
              have w53 := wI_rng v51
              have w54 : wI v51 = v51 := wI_id (by omega)
              exact Exists.intro (48 - ((wI v51)) : Int).toNat (And.intro (by omega) (And.intro i1 (And.intro j1 (And.intro f1 (And.intro rfl (And.intro (by omega) (And.intro (by omega) (And.intro (by omega) (by omega)))))))))
          · refine And.intro (fun h55 => ?_) (fun h55 => by exfalso; omega)
            exact hK _ i1 j1 f1 _ (by first | exact wI_rng _ | omega | (exact (hA _ _).2 rfl))
  · refine Exists.intro x (Exists.intro 5 (And.intro rfl (fun r1 g2 => ?_)))
    refine And.intro (fun h3 => ?_) (fun h3 => ?_)
    · exact hK _ i0 j0 f0 _ (by first | exact wI_rng _ | omega | (exact (hA _ _).2 rfl))
    · refine And.intro (fun h4 => ?_) (fun h4 => ?_)
      · exact hK _ i0 j0 f0 _ (by first | exact wI_rng _ | omega | (exact (hA _ _).2 rfl))
      · refine And.intro (fun h5 => ?_) (fun h5 => ?_)
        · exact Exists.intro (48 - 0 : Int).toNat (And.intro i0 (And.intro j0 (And.intro f0 (And.intro rfl (And.intro (by omega) (And.intro (by omega) (And.intro (by omega) (by omega))))))))
        · refine And.intro (fun h6 => ?_) (fun h6 => ?_)
          · exact Exists.intro (48 - 0 : Int).toNat (And.intro i0 (And.intro j0 (And.intro f0 (And.intro rfl (And.intro (by omega) (And.intro (by omega) (And.intro (by omega) (by omega))))))))
          · exact hK _ i0 j0 f0 _ (by first | exact wI_rng _ | omega | (exact (hA _ _).2 rfl))
def sC_drought : qS := fun as A K => ∃ d c w : Int, as = [rf 0, ni d, ni c, ni w] ∧ (iva IC A ∧ ivf JC A ∧ (LW A) ∧ (KO A)) ∧ (∀ A' : qA, iva IC A' → ivf JC A' → frm [49, 47, 48, 51, 45, 46, 50, 35, 43, 78] [(44, 9), (44, 10), (36, 9), (71, 9)] A A' → ∀ r : Int, rng r → K (some (ni r)) A')
theorem okC_drought : okM LC 12 122 sC_drought := by
  refine qmeth [] true [(138, sC_within), (248, sC_bitsI), (89, sC_share), (93, sC_dropsAt)] 49 rfl ⟨okC_within.le (by decide), ⟨okC_bitsI.le (by decide), ⟨okC_share.le (by decide), ⟨okC_dropsAt.le (by decide), trivial⟩⟩⟩⟩ ?_
  rintro _ A K hA has ⟨d, c, w, rfl, ⟨i0, j0, p1, p2⟩, hK⟩
  have rg_d : rng d := has (ni d) (by simp)
  have rg_c : rng c := has (ni c) (by simp)
  have rg_w : rng w := has (ni w) (by simp)
  have f0 := frm_0 [49, 47, 48, 51, 45, 46, 50, 35, 43, 78] [(44, 9), (44, 10), (36, 9), (71, 9)] A
  refine ⟨Nat.le_of_ble_eq_true rfl, [], trivial, ?_⟩
  refine Exists.intro d (Exists.intro 36 (And.intro rfl (And.intro (fun h3 => ?_) (fun h3 => ?_))))
  · refine And.intro (fun h4 => by exfalso; omega) (fun h4 => ?_)
    refine And.intro (fun h5 => ?_) (fun h5 => ?_)
    · exact hK _ i0 j0 f0 _ (by first | exact wI_rng _ | omega | (exact (hA _ _).2 rfl))
    · refine And.intro (fun h6 => ?_) (fun h6 => ?_)
      · refine Exists.intro c (And.intro rfl (fun r7 g8 => ?_))
        refine And.intro (fun h9 => ?_) (fun h9 => ?_)
        · exact hK _ i0 j0 f0 _ (by first | exact wI_rng _ | omega | (exact (hA _ _).2 rfl))
        · refine And.intro (fun h10 => ?_) (fun h10 => ?_)
          · exact hK _ i0 j0 f0 _ (by first | exact wI_rng _ | omega | (exact (hA _ _).2 rfl))
          · refine And.intro (fun h11 => ?_) (fun h11 => ?_)
            · refine Exists.intro d (Exists.intro c (And.intro rfl (And.intro (And.intro i0 (And.intro j0 (And.intro (by omega) (And.intro (by omega) (And.intro (LW_fr p1 f0 rfl) (KO_fr p2 f0 rfl)))))) (fun A12 i13 j14 f15 => ?_))))
              have f16 := frm_c f0 f15 rfl
              refine And.intro (fun h17 => ?_) (fun h17 => ?_)
              · refine Exists.intro w (And.intro rfl (And.intro (And.intro i13 j14) (fun r18 g19 g20 => ?_)))
                exact hK _ i13 j14 f16 _ (by first | exact wI_rng _ | omega | (exact (hA _ _).2 rfl))
              · refine fun v21 gv21 e22 => ?_
                exact hK _ i13 j14 f16 _ (by first | exact wI_rng _ | omega | (exact (hA _ _).2 rfl))
            · exact hK _ i0 j0 f0 _ (by first | exact wI_rng _ | omega | (exact (hA _ _).2 rfl))
      · exact hK _ i0 j0 f0 _ (by first | exact wI_rng _ | omega | (exact (hA _ _).2 rfl))
  · refine And.intro (fun h23 => ?_) (fun h23 => by exfalso; omega)
    exact hK _ i0 j0 f0 _ (by first | exact wI_rng _ | omega | (exact (hA _ _).2 rfl))
def sC_mended : qS := fun as A K => ∃ x w : Int, as = [rf 0, nl x, ni w] ∧ (iva IC A ∧ ivf JC A) ∧ (∀ A' : qA, iva IC A' → ivf JC A' → frm [56, 57, 58, 59, 60, 61, 62] [(55, 7)] A A' → ∀ r : Int, rng r → K (some (ni r)) A')
theorem okC_mended : okM LC 4 123 sC_mended := by
  refine qmeth [] true [(143, sC_toldCells), (63, sC_tell), (66, sC_asMending), (67, sC_solve), (73, sC_cellAt), (72, sC_least)] 54 rfl ⟨okC_toldCells.le (by decide), ⟨okC_tell.le (by decide), ⟨okC_asMending.le (by decide), ⟨okC_solve.le (by decide), ⟨okC_cellAt.le (by decide), ⟨okC_least.le (by decide), trivial⟩⟩⟩⟩⟩⟩ ?_
  rintro _ A K hA has ⟨x, w, rfl, ⟨i0, j0⟩, hK⟩
  have rg_x : rngL x := has (nl x) (by simp)
  have rg_w : rng w := has (ni w) (by simp)
  have f0 := frm_0 [56, 57, 58, 59, 60, 61, 62] [(55, 7)] A
  refine ⟨Nat.le_of_ble_eq_true rfl, [], trivial, ?_⟩
  refine Exists.intro x (Exists.intro 8 (And.intro rfl (fun r1 g2 => ?_)))
  refine And.intro (fun h3 => ?_) (fun h3 => ?_)
  · exact hK _ i0 j0 f0 _ (by first | exact wI_rng _ | omega | (exact (hA _ _).2 rfl))
  · refine fun v4 e5 => ?_
    refine fun v6 e7 => ?_
    refine fun (v8 : Int) (e9 : v8 = 0) => ?_
    refine fun v10 e11 => ?_
    refine And.intro (fun h12 => ?_) (fun h12 => ?_)
    · exact hK _ i0 j0 f0 _ (by first | exact wI_rng _ | omega | (exact (hA _ _).2 rfl))
    · refine And.intro (fun h13 => ?_) (fun h13 => ?_)
      · exact hK _ i0 j0 f0 _ (by first | exact wI_rng _ | omega | (exact (hA _ _).2 rfl))
      · refine And.intro (fun h14 => ?_) (fun h14 => ?_)
        · refine Exists.intro x (And.intro rfl (And.intro (And.intro i0 j0) (fun A15 i16 j17 f18 => ?_)))
          have f19 := frm_c f0 f18 rfl
          refine And.intro rfl (And.intro (And.intro i16 j17) (fun A20 i21 j22 f23 => ?_))
          have f24 := frm_c f19 f23 rfl
          refine And.intro rfl (And.intro (And.intro i21 j22) (fun A25 i26 j27 f28 => ?_))
          have f29 := frm_c f24 f28 rfl
          refine And.intro (fun h30 => ?_) (fun h30 => ?_)
          · refine Exists.intro w (And.intro rfl (And.intro (And.intro i26 j27) (fun r31 g32 g33 => ?_)))
            exact hK _ i26 j27 f29 _ (by first | exact wI_rng _ | omega | (exact (hA _ _).2 rfl))
          · refine And.intro rfl (And.intro (And.intro i26 j27) (fun r34 g35 => ?_))
            exact hK _ i26 j27 f29 _ (by first | exact wI_rng _ | omega | (exact (hA _ _).2 rfl))
        · exact hK _ i0 j0 f0 _ (by first | exact wI_rng _ | omega | (exact (hA _ _).2 rfl))
def sC_hail : qS := fun as A K => ∃ k : Int, as = [rf 0, ni k] ∧ (iva IC A ∧ ivf JC A) ∧ (∀ r : Int, (-1) ≤ r → r ≤ 8 → K (some (ni r)) A)
theorem okC_hail : okM LC 4 124 sC_hail := by
  refine qmeth [] false [(138, sC_within), (36, sC_highestFall)] 35 rfl ⟨okC_within.le (by decide), ⟨okC_highestFall.le (by decide), trivial⟩⟩ ?_
  rintro _ A K hA has ⟨k, rfl, ⟨i0, j0⟩, hK⟩
  have rg_k : rng k := has (ni k) (by simp)
  have f0 := frm_0 [] [] A
  refine ⟨Nat.le_of_ble_eq_true rfl, [(10, [(0, 2, 0), (1, 0, 0), (2, 0, 0), (3, 0, 0)], fun zs B nn => match zs with | [l1, s, c] => A = B ∧ nn = (8 - c : Int).toNat ∧ (l1 = k) ∧ (0 ≤ c) ∧ (c ≤ 8) ∧ (0 ≤ s) ∧ (s ≤ c) | _ => False)], ?_, ?_⟩
  · refine ⟨⟨rfl, ?_⟩, trivial⟩
    · refine fun l1 s c B mm hB hz hI => ?_
      obtain ⟨rfl, hm, c0, c1, c2, c3, c4⟩ := hI
      obtain ⟨hz_l1, hz_s, hz_c, _⟩ := hz
      refine And.intro (fun h4 => ?_) (fun h4 => ?_)
      · exact hK _ (by omega) (by omega)
      · refine Exists.intro c (Exists.intro l1 (And.intro rfl (And.intro (And.intro i0 (And.intro j0 (And.intro (by omega) (by omega)))) (fun r5 g6 g7 => ?_))))
        refine And.intro (by omega) (fun v8 gv8 e9 => ?_)
        have b10 := iva_at i0 14 rfl (i := c) (by omega) (by omega)
        refine And.intro (fun h11 => ?_) (fun h11 => ?_)
        · refine fun v12 e13 => ?_
          exact And.intro (by omega) (Exists.intro (8 - v12 : Int).toNat (And.intro (by omega) (And.intro rfl (And.intro rfl (And.intro (by omega) (And.intro (by omega) (And.intro (by omega) (And.intro (by omega) (by omega)))))))))
        · refine fun v14 e15 => ?_
          refine fun v16 e17 => ?_
          exact And.intro (by omega) (And.intro (by omega) (Exists.intro (8 - v16 : Int).toNat (And.intro (by omega) (And.intro rfl (And.intro rfl (And.intro (by omega) (And.intro (by omega) (And.intro (by omega) (And.intro (by omega) (by omega))))))))))
  · refine Exists.intro k (Exists.intro 63 (And.intro rfl (And.intro (fun h1 => ?_) (fun h1 => ?_))))
    · refine And.intro (fun h2 => ?_) (fun h2 => by exfalso; omega)
      exact Exists.intro (8 - 0 : Int).toNat (And.intro rfl (And.intro rfl (And.intro (by omega) (And.intro (by omega) (And.intro (by omega) (And.intro (by omega) (by omega)))))))
    · refine And.intro (fun h3 => by exfalso; omega) (fun h3 => ?_)
      exact hK _ (by omega) (by omega)
def sC_check : qS := fun as A K => ∃ c n : Int, as = [rf 0, ni c, ni n] ∧ (iva IC A ∧ ivf JC A) ∧ (∀ A' : qA, iva IC A' → ivf JC A' → frm [] [(52, 1)] A A' → ∀ r : Int, rng r → K (some (ni r)) A')
theorem okC_check : okM LC 3 125 sC_check := by
  refine qmeth [] false [(139, sC_isColumn), (22, sC_hasCrop), (85, sC_numberAt)] 70 rfl ⟨okC_isColumn.le (by decide), ⟨okC_hasCrop.le (by decide), ⟨okC_numberAt.le (by decide), trivial⟩⟩⟩ ?_
  rintro _ A K hA has ⟨c, n, rfl, ⟨i0, j0⟩, hK⟩
  have rg_c : rng c := has (ni c) (by simp)
  have rg_n : rng n := has (ni n) (by simp)
  have f0 := frm_0 [] [(52, 1)] A
  refine ⟨Nat.le_of_ble_eq_true rfl, [(20, [(0, 2, 0), (1, 0, 0), (2, 0, 0), (3, 0, 0)], fun zs B nn => match zs with | [l1, l2, k] => iva IC B ∧ ivf JC B ∧ frm [] [(52, 1)] A B ∧ nn = (6 - k : Int).toNat ∧ (l1 = c) ∧ (l2 = n) ∧ (0 ≤ k) ∧ (k ≤ 6) ∧ (0 ≤ c) ∧ (c ≤ 7) ∧ (0 ≤ n) | _ => False)], ?_, ?_⟩
  · refine ⟨⟨rfl, ?_⟩, trivial⟩
    · refine fun l1 l2 k B mm hB hz hI => ?_
      obtain ⟨i1, j1, f1, hm, c0, c1, c2, c3, c4, c5, c6⟩ := hI
      obtain ⟨hz_l1, hz_l2, hz_k, _⟩ := hz
      refine And.intro (fun h17 => ?_) (fun h17 => ?_)
      · refine And.intro (fun h18 => ?_) (fun h18 => ?_)
        · refine (fun v19 e20 => ?_)
          exact hK _ i1 j1 f1 _ (by first | exact wI_rng _ | omega | (exact (hA _ _).2 rfl))
        · exact hK _ i1 j1 f1 _ (by first | exact wI_rng _ | omega | (exact (hA _ _).2 rfl))
      · refine And.intro (fun h21 => ?_) (fun h21 => ?_)
        · refine And.intro (fun h22 => ?_) (fun h22 => ?_)
          · refine (fun v23 e24 => ?_)
            exact hK _ i1 j1 f1 _ (by first | exact wI_rng _ | omega | (exact (hA _ _).2 rfl))
          · exact hK _ i1 j1 f1 _ (by first | exact wI_rng _ | omega | (exact (hA _ _).2 rfl))
        · refine fun v25 e26 => ?_
          refine fun v27 e28 => ?_
          refine And.intro (by omega) (Exists.intro v27 (And.intro rfl (And.intro (fun h29 => ?_) (fun h29 => ?_))))
          · obtain ⟨v30, e31⟩ : ∃ v, v = B 6 v27 := ⟨_, rfl⟩
            refine And.intro (fun h32 => by exfalso; omega) (fun h32 => ?_)
            refine And.intro (by omega) (fun v33 gv33 e34 => ?_)
            have b35 := iva_at i1 3 rfl (i := v27) (by omega) (by omega)
            refine Exists.intro k (And.intro rfl (And.intro (And.intro i1 (And.intro j1 (And.intro (by omega) (by omega)))) (fun r36 g37 => ?_)))
            refine And.intro (fun h38 => ?_) (fun h38 => ?_)
            · refine fun v39 e40 => ?_
              exact And.intro (by omega) (Exists.intro (6 - v39 : Int).toNat (And.intro (by omega) (And.intro i1 (And.intro j1 (And.intro f1 (And.intro rfl (And.intro (by omega) (And.intro (by omega) (And.intro (by omega) (And.intro (by omega) (And.intro (by omega) (And.intro (by omega) (by omega)))))))))))))
            · exact hK _ i1 j1 f1 _ (by first | exact wI_rng _ | omega | (exact (hA _ _).2 rfl))
          · refine And.intro (fun h41 => ?_) (fun h41 => by exfalso; omega)
            refine Exists.intro k (And.intro rfl (And.intro (And.intro i1 (And.intro j1 (And.intro (by omega) (by omega)))) (fun r42 g43 => ?_)))
            refine And.intro (fun h44 => ?_) (fun h44 => ?_)
            · refine fun v45 e46 => ?_
              exact And.intro (by omega) (Exists.intro (6 - v45 : Int).toNat (And.intro (by omega) (And.intro i1 (And.intro j1 (And.intro f1 (And.intro rfl (And.intro (by omega) (And.intro (by omega) (And.intro (by omega) (And.intro (by omega) (And.intro (by omega) (And.intro (by omega) (by omega)))))))))))))
            · exact hK _ i1 j1 f1 _ (by first | exact wI_rng _ | omega | (exact (hA _ _).2 rfl))
  · refine Exists.intro c (And.intro rfl (And.intro (fun h1 => ?_) (fun h1 => ?_)))
    · refine And.intro (fun h2 => by exfalso; omega) (fun h2 => ?_)
      refine And.intro (fun h3 => ?_) (fun h3 => ?_)
      · exact hK _ i0 j0 f0 _ (by first | exact wI_rng _ | omega | (exact (hA _ _).2 rfl))
      · refine fun v4 gv4 e5 => ?_
        have b6 := ivf_at j0 3 rfl
        refine And.intro (by omega) (fun v7 e8 => ?_)
        have h9 := qd_nn (a := v4) (b := 4) (by omega)
        refine And.intro (by omega) (And.intro (fun h10 => ?_) (fun h10 => ?_))
        · refine fun A11 e12 => ?_
          have i13 := iva_sf i0 e12 rfl
          have j14 := ivf_st j0 e12 (And.intro (by omega) trivial)
          have f15 := frm_sf f0 e12 rfl
          exact Exists.intro (6 - 0 : Int).toNat (And.intro i13 (And.intro j14 (And.intro f15 (And.intro rfl (And.intro (by omega) (And.intro (by omega) (And.intro (by omega) (And.intro (by omega) (And.intro (by omega) (And.intro (by omega) (by omega)))))))))))
        · exact hK _ i0 j0 f0 _ (by first | exact wI_rng _ | omega | (exact (hA _ _).2 rfl))
    · refine And.intro (fun h16 => ?_) (fun h16 => by exfalso; omega)
      exact hK _ i0 j0 f0 _ (by first | exact wI_rng _ | omega | (exact (hA _ _).2 rfl))
def sC_count36 : qS := fun as A K => ∃ w : Int, as = [rf 0, ni w] ∧ (iva IC A ∧ ivf JC A ∧ (36 ≤ A 34 (fd 4) ∧ A 34 (fd 4) ≤ 36)) ∧ (∀ r : Int, rng r → K (some (ni r)) A)
theorem okC_count36 : okM LC 4 126 sC_count36 := by
  refine qmeth [(34, 4, 36)] false [(127, sC_countOfRow), (249, sC_bitsL), (27, sC_crops)] 41 rfl ⟨okC_countOfRow.le (by decide), ⟨okC_bitsL.le (by decide), ⟨okC_crops.le (by decide), trivial⟩⟩⟩ ?_
  rintro _ A K hA has ⟨w, rfl, ⟨i0, j0, p1⟩, hK⟩
  have rg_w : rng w := has (ni w) (by simp)
  have f0 := frm_0 [] [] A
  obtain ⟨v2, e3⟩ : ∃ v, v = A 34 (fd 4) := ⟨_, rfl⟩
  rw [← e3] at p1
  refine ⟨Nat.le_of_ble_eq_true rfl, [], trivial, ?_⟩
  refine (And.intro (fun h4 => ?_) (And.intro (fun h4 => ?_) (And.intro (fun h4 => ?_) (And.intro (fun h4 => ?_) (And.intro (fun h4 => ?_) (And.intro (fun h4 => ?_) (And.intro (fun h4 => ?_) (And.intro (fun h4 => ?_) trivial))))))))
  · refine Exists.intro w (And.intro rfl (And.intro (And.intro i0 j0) (fun r5 g6 => ?_)))
    exact hK _ (by first | exact wI_rng _ | omega | (exact (hA _ _).2 rfl))
  · refine fun v7 e8 => ?_
    refine Exists.intro v7 (And.intro rfl (fun r9 g10 => ?_))
    exact hK _ (by first | exact wI_rng _ | omega | (exact (hA _ _).2 rfl))
  · refine fun v11 gv11 e12 => ?_
    exact hK _ (by first | exact wI_rng _ | omega | (exact (hA _ _).2 rfl))
  · refine fun v13 gv13 e14 => ?_
    have b15 := ivf_at j0 2 rfl
    exact hK _ (by first | exact wI_rng _ | omega | (exact (hA _ _).2 rfl))
  · obtain ⟨v16, e17⟩ : ∃ v, v = A 34 (fd 4) := ⟨_, rfl⟩
    have q18 : v2 = v16 := (e17.trans e3.symm).symm
    subst q18
    refine And.intro (show A 34 (fd 4) = ((36 : Nat) : Int) by omega) ?_
    refine fun v19 gv19 e20 => ?_
    have b21 := ivf_at j0 8 rfl
    exact hK _ (by first | exact wI_rng _ | omega | (exact (hA _ _).2 rfl))
  · refine fun v22 gv22 e23 => ?_
    have b24 := ivf_at j0 3 rfl
    exact hK _ (by first | exact wI_rng _ | omega | (exact (hA _ _).2 rfl))
  · refine fun v25 gv25 e26 => ?_
    have b27 := ivf_at j0 7 rfl
    exact hK _ (by first | exact wI_rng _ | omega | (exact (hA _ _).2 rfl))
  · refine And.intro rfl (fun r28 g29 g30 => ?_)
    exact hK _ (by first | exact wI_rng _ | omega | (exact (hA _ _).2 rfl))
def sC_count71 : qS := fun as A K => ∃ w : Int, as = [rf 0, ni w] ∧ (iva IC A ∧ ivf JC A ∧ (71 ≤ A 34 (fd 4) ∧ A 34 (fd 4) ≤ 71)) ∧ (∀ r : Int, rng r → K (some (ni r)) A)
theorem okC_count71 : okM LC 4 126 sC_count71 := by
  refine qmeth [(34, 4, 71)] false [(127, sC_countOfRow), (249, sC_bitsL), (27, sC_crops)] 41 rfl ⟨okC_countOfRow.le (by decide), ⟨okC_bitsL.le (by decide), ⟨okC_crops.le (by decide), trivial⟩⟩⟩ ?_
  rintro _ A K hA has ⟨w, rfl, ⟨i0, j0, p1⟩, hK⟩
  have rg_w : rng w := has (ni w) (by simp)
  have f0 := frm_0 [] [] A
  obtain ⟨v2, e3⟩ : ∃ v, v = A 34 (fd 4) := ⟨_, rfl⟩
  rw [← e3] at p1
  refine ⟨Nat.le_of_ble_eq_true rfl, [], trivial, ?_⟩
  refine (And.intro (fun h4 => ?_) (And.intro (fun h4 => ?_) (And.intro (fun h4 => ?_) (And.intro (fun h4 => ?_) (And.intro (fun h4 => ?_) (And.intro (fun h4 => ?_) (And.intro (fun h4 => ?_) (And.intro (fun h4 => ?_) trivial))))))))
  · refine Exists.intro w (And.intro rfl (And.intro (And.intro i0 j0) (fun r5 g6 => ?_)))
    exact hK _ (by first | exact wI_rng _ | omega | (exact (hA _ _).2 rfl))
  · refine fun v7 e8 => ?_
    refine Exists.intro v7 (And.intro rfl (fun r9 g10 => ?_))
    exact hK _ (by first | exact wI_rng _ | omega | (exact (hA _ _).2 rfl))
  · refine fun v11 gv11 e12 => ?_
    exact hK _ (by first | exact wI_rng _ | omega | (exact (hA _ _).2 rfl))
  · refine fun v13 gv13 e14 => ?_
    have b15 := ivf_at j0 2 rfl
    exact hK _ (by first | exact wI_rng _ | omega | (exact (hA _ _).2 rfl))
  · obtain ⟨v16, e17⟩ : ∃ v, v = A 34 (fd 4) := ⟨_, rfl⟩
    have q18 : v2 = v16 := (e17.trans e3.symm).symm
    subst q18
    refine And.intro (show A 34 (fd 4) = ((71 : Nat) : Int) by omega) ?_
    refine fun v19 gv19 e20 => ?_
    have b21 := ivf_at j0 11 rfl
    exact hK _ (by first | exact wI_rng _ | omega | (exact (hA _ _).2 rfl))
  · refine fun v22 gv22 e23 => ?_
    have b24 := ivf_at j0 3 rfl
    exact hK _ (by first | exact wI_rng _ | omega | (exact (hA _ _).2 rfl))
  · refine fun v25 gv25 e26 => ?_
    have b27 := ivf_at j0 7 rfl
    exact hK _ (by first | exact wI_rng _ | omega | (exact (hA _ _).2 rfl))
  · refine And.intro rfl (fun r28 g29 g30 => ?_)
    exact hK _ (by first | exact wI_rng _ | omega | (exact (hA _ _).2 rfl))
def sC_count : qS := fun as A K => ∃ w : Int, as = [rf 0, ni w] ∧ (iva IC A ∧ ivf JC A ∧ (LW A)) ∧ (∀ r : Int, rng r → K (some (ni r)) A)
theorem okC_count : okM LC 4 126 sC_count := by
  refine okM_or (okC_count36.le (by decide)) (okC_count71.le (by decide)) ?_
  rintro _ A K ⟨w, rfl, ⟨h0, h1, h2⟩, hK⟩
  rcases h2 with q | q
  · exact Or.inl ⟨w, rfl, ⟨h0, h1, ⟨by omega, by omega⟩⟩, hK⟩
  · exact Or.inr ⟨w, rfl, ⟨h0, h1, ⟨by omega, by omega⟩⟩, hK⟩
