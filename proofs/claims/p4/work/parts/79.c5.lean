def sC_reckonGrowth : qS := fun as A K => ∃ d : Int, as = [rf 44, ni d] ∧ (iva IC A ∧ ivf JC A ∧ 0 ≤ d ∧ d ≤ 36 ∧ (LW A) ∧ (KO A)) ∧ (∀ A' : qA, iva IC A' → ivf JC A' → frm [51, 35, 43, 78] [(36, 9), (71, 9)] A A' → K none A')
theorem okC_reckonGrowth : okM LC 6 90 sC_reckonGrowth := by
  refine qmeth [] false [(24, sC_needOf), (22, sC_hasCrop), (4, sC_growth)] 51 rfl ⟨okC_needOf.le (by decide), ⟨okC_hasCrop.le (by decide), ⟨okC_growth.le (by decide), trivial⟩⟩⟩ ?_
  rintro _ A K hA has ⟨d, rfl, ⟨i0, j0, p1, p2, p3, p4⟩, hK⟩
  have rg_d : rng d := has (ni d) (by simp)
  have f0 := frm_0 [51, 35, 43, 78] [(36, 9), (71, 9)] A
  refine ⟨Nat.le_of_ble_eq_true rfl, [(2, [(0, 2, 44), (1, 0, 0), (2, 0, 0)], fun zs B nn => match zs with | [l1, c] => iva IC B ∧ ivf JC B ∧ frm [51, 35, 43, 78] [(36, 9), (71, 9)] A B ∧ nn = ((48 - c) * 100 + 50 : Int).toNat ∧ (l1 = d) ∧ (0 ≤ c) ∧ (c ≤ 48) | _ => False), (14, [(0, 2, 44), (1, 0, 0), (2, 0, 0), (3, 0, 0), (4, 0, 0)], fun zs B nn => match zs with | [l1, c, t, k] => iva IC B ∧ ivf JC B ∧ frm [51, 35, 43, 78] [(36, 9), (71, 9)] A B ∧ nn = ((48 - c) * 100 + 22 - k : Int).toNat ∧ (l1 = d) ∧ (0 ≤ c) ∧ (c ≤ 47) ∧ (0 ≤ k) ∧ (k ≤ 21) | _ => False)], ?_, ?_⟩
  · refine ⟨⟨rfl, ?_⟩, ⟨rfl, ?_⟩, trivial⟩
    · refine fun l1 c B mm hB hz hI => ?_
      obtain ⟨i1, j1, f1, hm, c0, c1, c2⟩ := hI
      obtain ⟨hz_l1, hz_c, _⟩ := hz
      refine And.intro (fun h5 => ?_) (fun h5 => ?_)
      · exact hK _ i1 j1 f1
      · refine Exists.intro c (And.intro rfl (And.intro (And.intro i1 j1) (fun r6 g7 g8 => ?_)))
        refine (fun v9 e10 => ?_)
        exact Exists.intro ((48 - c) * 100 + 22 - 0 : Int).toNat (And.intro (by omega) (And.intro i1 (And.intro j1 (And.intro f1 (And.intro rfl (And.intro (by omega) (And.intro (by omega) (And.intro (by omega) (And.intro (by omega) (by omega))))))))))
    · refine fun l1 c t k B mm hB hz hI => ?_
      obtain ⟨i1, j1, f1, hm, c0, c1, c2, c3, c4⟩ := hI
      obtain ⟨hz_l1, hz_c, hz_t, hz_k, _⟩ := hz
      refine And.intro (fun h11 => ?_) (fun h11 => ?_)
      · refine fun v12 e13 => ?_
        exact And.intro (by omega) (Exists.intro ((48 - v12) * 100 + 50 : Int).toNat (And.intro (by omega) (And.intro i1 (And.intro j1 (And.intro f1 (And.intro rfl (And.intro (by omega) (And.intro (by omega) (by omega)))))))))
      · refine And.intro (fun h14 => ?_) (fun h14 => ?_)
        · refine fun v15 e16 => ?_
          exact And.intro (by omega) (Exists.intro ((48 - v15) * 100 + 50 : Int).toNat (And.intro (by omega) (And.intro i1 (And.intro j1 (And.intro f1 (And.intro rfl (And.intro (by omega) (And.intro (by omega) (by omega)))))))))
        · refine fun v17 e18 => ?_
          refine fun v19 e20 => ?_
          refine Exists.intro c (And.intro rfl (And.intro (fun h21 => ?_) (fun h21 => ?_)))
          · obtain ⟨v22, e23⟩ : ∃ v, v = B 6 c := ⟨_, rfl⟩
            refine And.intro (fun h24 => by exfalso; omega) (fun h24 => ?_)
            refine Exists.intro c (Exists.intro k (And.intro rfl (And.intro (And.intro i1 (And.intro j1 (And.intro (by omega) (And.intro (by omega) (And.intro (LW_fr p3 f1 rfl) (KO_fr p4 f1 rfl)))))) (fun A25 i26 j27 f28 r29 g30 g31 => ?_))))
            have f32 := frm_c f1 f28 rfl
            refine And.intro (by omega) (fun A33 e34 => ?_)
            have i35 := iva_st i26 e34 trivial
            have j36 := ivf_sa j27 e34 rfl
            have f37 := frm_s f32 e34 rfl
            refine fun v38 e39 => ?_
            exact And.intro (by omega) (Exists.intro ((48 - c) * 100 + 22 - v38 : Int).toNat (And.intro (by omega) (And.intro i35 (And.intro j36 (And.intro f37 (And.intro rfl (And.intro (by omega) (And.intro (by omega) (And.intro (by omega) (And.intro (by omega) (by omega)))))))))))
          · refine And.intro (fun h40 => ?_) (fun h40 => by exfalso; omega)
            refine And.intro (by omega) (fun A41 e42 => ?_)
            have i43 := iva_st i1 e42 trivial
            have j44 := ivf_sa j1 e42 rfl
            have f45 := frm_s f1 e42 rfl
            refine fun v46 e47 => ?_
            exact And.intro (by omega) (Exists.intro ((48 - c) * 100 + 22 - v46 : Int).toNat (And.intro (by omega) (And.intro i43 (And.intro j44 (And.intro f45 (And.intro rfl (And.intro (by omega) (And.intro (by omega) (And.intro (by omega) (And.intro (by omega) (by omega)))))))))))
  · exact Exists.intro ((48 - 0) * 100 + 50 : Int).toNat (And.intro i0 (And.intro j0 (And.intro f0 (And.intro rfl (And.intro (by omega) (And.intro (by omega) (by omega)))))))
def sC_weighTrial : qS := fun as A K => as = [rf 44] ∧ (iva IC A ∧ ivf JC A) ∧ (∀ A' : qA, iva IC A' → ivf JC A' → frm [45, 46, 50, 48] [(44, 10)] A A' → K none A')
theorem okC_weighTrial : okM LC 5 92 sC_weighTrial := by
  refine qmeth [] true [(87, sC_pourB)] 62 rfl ⟨okC_pourB.le (by decide), trivial⟩ ?_
  rintro _ A K hA has ⟨rfl, ⟨i0, j0⟩, hK⟩
  have f0 := frm_0 [45, 46, 50, 48] [(44, 10)] A
  refine ⟨Nat.le_of_ble_eq_true rfl, [(10, [(0, 2, 44), (1, 0, 0), (2, 0, 0)], fun zs B nn => match zs with | [s, k] => iva IC B ∧ ivf JC B ∧ frm [45, 46, 50, 48] [(44, 10)] A B ∧ nn = (148 - k : Int).toNat ∧ (0 ≤ k) ∧ (k ≤ 48) | _ => False), (38, [(0, 2, 44), (2, 0, 0)], fun zs B nn => match zs with | [k] => iva IC B ∧ ivf JC B ∧ frm [45, 46, 50, 48] [(44, 10)] A B ∧ nn = (4 - k : Int).toNat ∧ (0 ≤ k) ∧ (k ≤ 4) | _ => False)], ?_, ?_⟩
  · refine ⟨⟨rfl, ?_⟩, ⟨rfl, ?_⟩, trivial⟩
    · refine fun s k B mm hB hz hI => ?_
      obtain ⟨i1, j1, f1, hm, c0, c1⟩ := hI
      obtain ⟨hz_s, hz_k, _⟩ := hz
      refine And.intro (fun h6 => ?_) (fun h6 => ?_)
      · refine fun v7 gv7 e8 => ?_
        refine And.intro (fun h9 => ?_) (fun h9 => ?_)
        · exact hK _ i1 j1 f1
        · refine fun A10 e11 => ?_
          have i12 := iva_sf i1 e11 rfl
          have j13 := ivf_st j1 e11 trivial
          have f14 := frm_sf f1 e11 rfl
          exact Exists.intro (4 - 0 : Int).toNat (And.intro (by omega) (And.intro i12 (And.intro j13 (And.intro f14 (And.intro rfl (And.intro (by omega) (by omega)))))))
      · refine fun v15 e16 => ?_
        refine And.intro (by omega) (fun v17 gv17 e18 => ?_)
        have b19 := iva_at i1 25 rfl (i := k) (by omega) (by omega)
        refine fun v20 e21 => ?_
        refine And.intro (by omega) (fun v22 gv22 e23 => ?_)
        refine fun v24 e25 => ?_
        refine fun v26 e27 => ?_
        have w28 := wI_rng v24
        have w29 := wI_rng v26
        have w30 : wI v26 = v26 := wI_id (by omega)
        exact Exists.intro (148 - ((wI v26)) : Int).toNat (And.intro (by omega) (And.intro i1 (And.intro j1 (And.intro f1 (And.intro rfl (And.intro (by omega) (by omega)))))))
    · refine fun k B mm hB hz hI => ?_
      obtain ⟨i1, j1, f1, hm, c0, c1⟩ := hI
      obtain ⟨hz_k, _⟩ := hz
      refine fun v31 gv31 e32 => ?_
      have b33 := ivf_at j1 4 rfl
      refine And.intro (fun h34 => ?_) (fun h34 => ?_)
      · exact hK _ i1 j1 f1
      · refine And.intro (by omega) (fun v35 gv35 e36 => ?_)
        have b37 := iva_at i1 22 rfl (i := k) (by omega) (by omega)
        refine And.intro (by omega) (fun v38 gv38 e39 => ?_)
        have b40 := iva_at i1 24 rfl (i := v35) (by omega) (by omega)
        refine And.intro (by omega) (fun A41 e42 => ?_)
        have i43 := iva_st i1 e42 (And.intro (by omega) trivial)
        have j44 := ivf_sa j1 e42 rfl
        have f45 := frm_s f1 e42 rfl
        refine fun v46 e47 => ?_
        have w48 := wI_rng v46
        have w49 : wI v46 = v46 := wI_id (by omega)
        exact Exists.intro (4 - ((wI v46)) : Int).toNat (And.intro (by omega) (And.intro i43 (And.intro j44 (And.intro f45 (And.intro rfl (And.intro (by omega) (by omega)))))))
  · refine And.intro rfl (And.intro (And.intro i0 j0) (fun A1 i2 j3 f4 => ?_))
    have f5 := frm_c f0 f4 rfl
    exact Exists.intro (148 - 0 : Int).toNat (And.intro i2 (And.intro j3 (And.intro f5 (And.intro rfl (And.intro (by omega) (by omega))))))
def sC_tryValve4 : qS := fun as A K => ∃ p f : Int, as = [rf 44, ni p, ni f] ∧ (iva IC A ∧ ivf JC A ∧ 4 ≤ p ∧ p ≤ 4) ∧ (∀ A' : qA, iva IC A' → ivf JC A' → frm [49, 45, 46, 50, 48] [(44, 10)] A A' → K none A')
theorem okC_tryValve4 : okM LC 6 91 sC_tryValve4 := by
  refine qmeth [] false [(92, sC_weighTrial)] 43 rfl ⟨okC_weighTrial.le (by decide), trivial⟩ ?_
  rintro _ A K hA has ⟨p, f, rfl, ⟨i0, j0, p1, p2⟩, hK⟩
  have rg_p : rng p := has (ni p) (by simp)
  have rg_f : rng f := has (ni f) (by simp)
  have f0 := frm_0 [49, 45, 46, 50, 48] [(44, 10)] A
  refine ⟨Nat.le_of_ble_eq_true rfl, [], trivial, ?_⟩
  refine fun v3 gv3 e4 => ?_
  have b5 := ivf_at j0 4 rfl
  refine And.intro (fun h6 => ?_) (fun h6 => by exfalso; omega)
  refine And.intro rfl (And.intro (And.intro i0 j0) (fun A7 i8 j9 f10 => ?_))
  have f11 := frm_c f0 f10 rfl
  exact hK _ i8 j9 f11
def sC_tryValve3 : qS := fun as A K => ∃ p f : Int, as = [rf 44, ni p, ni f] ∧ (iva IC A ∧ ivf JC A ∧ 3 ≤ p ∧ p ≤ 3) ∧ (∀ A' : qA, iva IC A' → ivf JC A' → frm [49, 45, 46, 50, 48] [(44, 10)] A A' → K none A')
theorem okC_tryValve3 : okM LC 7 91 sC_tryValve3 := by
  refine qmeth [] false [(92, sC_weighTrial), (91, sC_tryValve4)] 43 rfl ⟨okC_weighTrial.le (by decide), ⟨okC_tryValve4.le (by decide), trivial⟩⟩ ?_
  rintro _ A K hA has ⟨p, f, rfl, ⟨i0, j0, p1, p2⟩, hK⟩
  have rg_p : rng p := has (ni p) (by simp)
  have rg_f : rng f := has (ni f) (by simp)
  have f0 := frm_0 [49, 45, 46, 50, 48] [(44, 10)] A
  refine ⟨Nat.le_of_ble_eq_true rfl, [(12, [(0, 2, 44), (1, 0, 0), (2, 0, 0), (3, 0, 0)], fun zs B nn => match zs with | [l1, l2, k] => iva IC B ∧ ivf JC B ∧ frm [49, 45, 46, 50, 48] [(44, 10)] A B ∧ nn = (10 - k : Int).toNat ∧ (l1 = p) ∧ (l2 = f) ∧ (0 ≤ k) ∧ (k ≤ 10) | _ => False)], ?_, ?_⟩
  · refine ⟨⟨rfl, ?_⟩, trivial⟩
    · refine fun l1 l2 k B mm hB hz hI => ?_
      obtain ⟨i1, j1, f1, hm, c0, c1, c2, c3⟩ := hI
      obtain ⟨hz_l1, hz_l2, hz_k, _⟩ := hz
      refine And.intro (fun h13 => ?_) (fun h13 => ?_)
      · exact hK _ i1 j1 f1
      · refine And.intro (fun h14 => ?_) (fun h14 => ?_)
        · exact hK _ i1 j1 f1
        · refine And.intro (by omega) (fun v15 gv15 e16 => ?_)
          have b17 := iva_at i1 22 rfl (i := l1) (by omega) (by omega)
          refine And.intro (by omega) (fun A18 e19 => ?_)
          have i20 := iva_st i1 e19 (And.intro (by omega) trivial)
          have j21 := ivf_sa j1 e19 rfl
          have f22 := frm_s f1 e19 rfl
          refine fun v23 e24 => ?_
          refine fun v25 e26 => ?_
          refine And.intro (by omega) (And.intro (by omega) (Exists.intro v23 (Exists.intro v25 (And.intro rfl (And.intro (And.intro i20 (And.intro j21 (And.intro (by omega) (by omega)))) (fun A27 i28 j29 f30 => ?_))))))
          have f31 := frm_c f22 f30 rfl
          refine fun v32 e33 => ?_
          exact And.intro (by omega) (Exists.intro (10 - v32 : Int).toNat (And.intro (by omega) (And.intro i28 (And.intro j29 (And.intro f31 (And.intro rfl (And.intro (by omega) (And.intro (by omega) (And.intro (by omega) (by omega))))))))))
  · refine fun v3 gv3 e4 => ?_
    have b5 := ivf_at j0 4 rfl
    refine And.intro (fun h6 => ?_) (fun h6 => ?_)
    · refine And.intro rfl (And.intro (And.intro i0 j0) (fun A7 i8 j9 f10 => ?_))
      have f11 := frm_c f0 f10 rfl
      exact hK _ i8 j9 f11
    · refine And.intro (fun h12 => ?_) (fun h12 => by exfalso; omega)
      exact Exists.intro (10 - 0 : Int).toNat (And.intro i0 (And.intro j0 (And.intro f0 (And.intro rfl (And.intro (by omega) (And.intro (by omega) (And.intro (by omega) (by omega))))))))
def sC_tryValve2 : qS := fun as A K => ∃ p f : Int, as = [rf 44, ni p, ni f] ∧ (iva IC A ∧ ivf JC A ∧ 2 ≤ p ∧ p ≤ 2) ∧ (∀ A' : qA, iva IC A' → ivf JC A' → frm [49, 45, 46, 50, 48] [(44, 10)] A A' → K none A')
theorem okC_tryValve2 : okM LC 8 91 sC_tryValve2 := by
  refine qmeth [] false [(92, sC_weighTrial), (91, sC_tryValve3)] 43 rfl ⟨okC_weighTrial.le (by decide), ⟨okC_tryValve3.le (by decide), trivial⟩⟩ ?_
  rintro _ A K hA has ⟨p, f, rfl, ⟨i0, j0, p1, p2⟩, hK⟩
  have rg_p : rng p := has (ni p) (by simp)
  have rg_f : rng f := has (ni f) (by simp)
  have f0 := frm_0 [49, 45, 46, 50, 48] [(44, 10)] A
  refine ⟨Nat.le_of_ble_eq_true rfl, [(12, [(0, 2, 44), (1, 0, 0), (2, 0, 0), (3, 0, 0)], fun zs B nn => match zs with | [l1, l2, k] => iva IC B ∧ ivf JC B ∧ frm [49, 45, 46, 50, 48] [(44, 10)] A B ∧ nn = (10 - k : Int).toNat ∧ (l1 = p) ∧ (l2 = f) ∧ (0 ≤ k) ∧ (k ≤ 10) | _ => False)], ?_, ?_⟩
  · refine ⟨⟨rfl, ?_⟩, trivial⟩
    · refine fun l1 l2 k B mm hB hz hI => ?_
      obtain ⟨i1, j1, f1, hm, c0, c1, c2, c3⟩ := hI
      obtain ⟨hz_l1, hz_l2, hz_k, _⟩ := hz
      refine And.intro (fun h13 => ?_) (fun h13 => ?_)
      · exact hK _ i1 j1 f1
      · refine And.intro (fun h14 => ?_) (fun h14 => ?_)
        · exact hK _ i1 j1 f1
        · refine And.intro (by omega) (fun v15 gv15 e16 => ?_)
          have b17 := iva_at i1 22 rfl (i := l1) (by omega) (by omega)
          refine And.intro (by omega) (fun A18 e19 => ?_)
          have i20 := iva_st i1 e19 (And.intro (by omega) trivial)
          have j21 := ivf_sa j1 e19 rfl
          have f22 := frm_s f1 e19 rfl
          refine fun v23 e24 => ?_
          refine fun v25 e26 => ?_
          refine And.intro (by omega) (And.intro (by omega) (Exists.intro v23 (Exists.intro v25 (And.intro rfl (And.intro (And.intro i20 (And.intro j21 (And.intro (by omega) (by omega)))) (fun A27 i28 j29 f30 => ?_))))))
          have f31 := frm_c f22 f30 rfl
          refine fun v32 e33 => ?_
          exact And.intro (by omega) (Exists.intro (10 - v32 : Int).toNat (And.intro (by omega) (And.intro i28 (And.intro j29 (And.intro f31 (And.intro rfl (And.intro (by omega) (And.intro (by omega) (And.intro (by omega) (by omega))))))))))
  · refine fun v3 gv3 e4 => ?_
    have b5 := ivf_at j0 4 rfl
    refine And.intro (fun h6 => ?_) (fun h6 => ?_)
    · refine And.intro rfl (And.intro (And.intro i0 j0) (fun A7 i8 j9 f10 => ?_))
      have f11 := frm_c f0 f10 rfl
      exact hK _ i8 j9 f11
    · refine And.intro (fun h12 => ?_) (fun h12 => by exfalso; omega)
      exact Exists.intro (10 - 0 : Int).toNat (And.intro i0 (And.intro j0 (And.intro f0 (And.intro rfl (And.intro (by omega) (And.intro (by omega) (And.intro (by omega) (by omega))))))))
def sC_tryValve1 : qS := fun as A K => ∃ p f : Int, as = [rf 44, ni p, ni f] ∧ (iva IC A ∧ ivf JC A ∧ 1 ≤ p ∧ p ≤ 1) ∧ (∀ A' : qA, iva IC A' → ivf JC A' → frm [49, 45, 46, 50, 48] [(44, 10)] A A' → K none A')
theorem okC_tryValve1 : okM LC 9 91 sC_tryValve1 := by
  refine qmeth [] false [(92, sC_weighTrial), (91, sC_tryValve2)] 43 rfl ⟨okC_weighTrial.le (by decide), ⟨okC_tryValve2.le (by decide), trivial⟩⟩ ?_
  rintro _ A K hA has ⟨p, f, rfl, ⟨i0, j0, p1, p2⟩, hK⟩
  have rg_p : rng p := has (ni p) (by simp)
  have rg_f : rng f := has (ni f) (by simp)
  have f0 := frm_0 [49, 45, 46, 50, 48] [(44, 10)] A
  refine ⟨Nat.le_of_ble_eq_true rfl, [(12, [(0, 2, 44), (1, 0, 0), (2, 0, 0), (3, 0, 0)], fun zs B nn => match zs with | [l1, l2, k] => iva IC B ∧ ivf JC B ∧ frm [49, 45, 46, 50, 48] [(44, 10)] A B ∧ nn = (10 - k : Int).toNat ∧ (l1 = p) ∧ (l2 = f) ∧ (0 ≤ k) ∧ (k ≤ 10) | _ => False)], ?_, ?_⟩
  · refine ⟨⟨rfl, ?_⟩, trivial⟩
    · refine fun l1 l2 k B mm hB hz hI => ?_
      obtain ⟨i1, j1, f1, hm, c0, c1, c2, c3⟩ := hI
      obtain ⟨hz_l1, hz_l2, hz_k, _⟩ := hz
      refine And.intro (fun h13 => ?_) (fun h13 => ?_)
      · exact hK _ i1 j1 f1
      · refine And.intro (fun h14 => ?_) (fun h14 => ?_)
        · exact hK _ i1 j1 f1
        · refine And.intro (by omega) (fun v15 gv15 e16 => ?_)
          have b17 := iva_at i1 22 rfl (i := l1) (by omega) (by omega)
          refine And.intro (by omega) (fun A18 e19 => ?_)
          have i20 := iva_st i1 e19 (And.intro (by omega) trivial)
          have j21 := ivf_sa j1 e19 rfl
          have f22 := frm_s f1 e19 rfl
          refine fun v23 e24 => ?_
          refine fun v25 e26 => ?_
          refine And.intro (by omega) (And.intro (by omega) (Exists.intro v23 (Exists.intro v25 (And.intro rfl (And.intro (And.intro i20 (And.intro j21 (And.intro (by omega) (by omega)))) (fun A27 i28 j29 f30 => ?_))))))
          have f31 := frm_c f22 f30 rfl
          refine fun v32 e33 => ?_
          exact And.intro (by omega) (Exists.intro (10 - v32 : Int).toNat (And.intro (by omega) (And.intro i28 (And.intro j29 (And.intro f31 (And.intro rfl (And.intro (by omega) (And.intro (by omega) (And.intro (by omega) (by omega))))))))))
  · refine fun v3 gv3 e4 => ?_
    have b5 := ivf_at j0 4 rfl
    refine And.intro (fun h6 => ?_) (fun h6 => ?_)
    · refine And.intro rfl (And.intro (And.intro i0 j0) (fun A7 i8 j9 f10 => ?_))
      have f11 := frm_c f0 f10 rfl
      exact hK _ i8 j9 f11
    · refine And.intro (fun h12 => ?_) (fun h12 => by exfalso; omega)
      exact Exists.intro (10 - 0 : Int).toNat (And.intro i0 (And.intro j0 (And.intro f0 (And.intro rfl (And.intro (by omega) (And.intro (by omega) (And.intro (by omega) (by omega))))))))
def sC_tryValve0 : qS := fun as A K => ∃ p f : Int, as = [rf 44, ni p, ni f] ∧ (iva IC A ∧ ivf JC A ∧ 0 ≤ p ∧ p ≤ 0) ∧ (∀ A' : qA, iva IC A' → ivf JC A' → frm [49, 45, 46, 50, 48] [(44, 10)] A A' → K none A')
theorem okC_tryValve0 : okM LC 10 91 sC_tryValve0 := by
  refine qmeth [] false [(92, sC_weighTrial), (91, sC_tryValve1)] 43 rfl ⟨okC_weighTrial.le (by decide), ⟨okC_tryValve1.le (by decide), trivial⟩⟩ ?_
  rintro _ A K hA has ⟨p, f, rfl, ⟨i0, j0, p1, p2⟩, hK⟩
  have rg_p : rng p := has (ni p) (by simp)
  have rg_f : rng f := has (ni f) (by simp)
  have f0 := frm_0 [49, 45, 46, 50, 48] [(44, 10)] A
  refine ⟨Nat.le_of_ble_eq_true rfl, [(12, [(0, 2, 44), (1, 0, 0), (2, 0, 0), (3, 0, 0)], fun zs B nn => match zs with | [l1, l2, k] => iva IC B ∧ ivf JC B ∧ frm [49, 45, 46, 50, 48] [(44, 10)] A B ∧ nn = (10 - k : Int).toNat ∧ (l1 = p) ∧ (l2 = f) ∧ (0 ≤ k) ∧ (k ≤ 10) | _ => False)], ?_, ?_⟩
  · refine ⟨⟨rfl, ?_⟩, trivial⟩
    · refine fun l1 l2 k B mm hB hz hI => ?_
      obtain ⟨i1, j1, f1, hm, c0, c1, c2, c3⟩ := hI
      obtain ⟨hz_l1, hz_l2, hz_k, _⟩ := hz
      refine And.intro (fun h13 => ?_) (fun h13 => ?_)
      · exact hK _ i1 j1 f1
      · refine And.intro (fun h14 => ?_) (fun h14 => ?_)
        · exact hK _ i1 j1 f1
        · refine And.intro (by omega) (fun v15 gv15 e16 => ?_)
          have b17 := iva_at i1 22 rfl (i := l1) (by omega) (by omega)
          refine And.intro (by omega) (fun A18 e19 => ?_)
          have i20 := iva_st i1 e19 (And.intro (by omega) trivial)
          have j21 := ivf_sa j1 e19 rfl
          have f22 := frm_s f1 e19 rfl
          refine fun v23 e24 => ?_
          refine fun v25 e26 => ?_
          refine And.intro (by omega) (And.intro (by omega) (Exists.intro v23 (Exists.intro v25 (And.intro rfl (And.intro (And.intro i20 (And.intro j21 (And.intro (by omega) (by omega)))) (fun A27 i28 j29 f30 => ?_))))))
          have f31 := frm_c f22 f30 rfl
          refine fun v32 e33 => ?_
          exact And.intro (by omega) (Exists.intro (10 - v32 : Int).toNat (And.intro (by omega) (And.intro i28 (And.intro j29 (And.intro f31 (And.intro rfl (And.intro (by omega) (And.intro (by omega) (And.intro (by omega) (by omega))))))))))
  · refine fun v3 gv3 e4 => ?_
    have b5 := ivf_at j0 4 rfl
    refine And.intro (fun h6 => ?_) (fun h6 => ?_)
    · refine And.intro rfl (And.intro (And.intro i0 j0) (fun A7 i8 j9 f10 => ?_))
      have f11 := frm_c f0 f10 rfl
      exact hK _ i8 j9 f11
    · refine And.intro (fun h12 => ?_) (fun h12 => by exfalso; omega)
      exact Exists.intro (10 - 0 : Int).toNat (And.intro i0 (And.intro j0 (And.intro f0 (And.intro rfl (And.intro (by omega) (And.intro (by omega) (And.intro (by omega) (by omega))))))))
def sC_share : qS := fun as A K => ∃ d x : Int, as = [rf 44, ni d, ni x] ∧ (iva IC A ∧ ivf JC A ∧ 0 ≤ d ∧ d ≤ 36 ∧ (LW A) ∧ (KO A)) ∧ (∀ A' : qA, iva IC A' → ivf JC A' → frm [49, 47, 48, 51, 45, 46, 50, 35, 43, 78] [(44, 9), (44, 10), (36, 9), (71, 9)] A A' → K none A')
theorem okC_share : okM LC 11 89 sC_share := by
  refine qmeth [] false [(90, sC_reckonGrowth), (91, sC_tryValve0)] 54 rfl ⟨okC_reckonGrowth.le (by decide), ⟨okC_tryValve0.le (by decide), trivial⟩⟩ ?_
  rintro _ A K hA has ⟨d, x, rfl, ⟨i0, j0, p1, p2, p3, p4⟩, hK⟩
  have rg_d : rng d := has (ni d) (by simp)
  have rg_x : rng x := has (ni x) (by simp)
  have f0 := frm_0 [49, 47, 48, 51, 45, 46, 50, 35, 43, 78] [(44, 9), (44, 10), (36, 9), (71, 9)] A
  refine ⟨Nat.le_of_ble_eq_true rfl, [(5, [(0, 2, 44), (1, 0, 0), (2, 0, 0), (3, 0, 0)], fun zs B nn => match zs with | [l1, l2, k] => iva IC B ∧ ivf JC B ∧ frm [49, 47, 48, 51, 45, 46, 50, 35, 43, 78] [(44, 9), (44, 10), (36, 9), (71, 9)] A B ∧ nn = (8 - k : Int).toNat ∧ (l1 = d) ∧ (l2 = x) ∧ (0 ≤ k) ∧ (k ≤ 8) | _ => False)], ?_, ?_⟩
  · refine ⟨⟨rfl, ?_⟩, trivial⟩
    · refine fun l1 l2 k B mm hB hz hI => ?_
      obtain ⟨i1, j1, f1, hm, c0, c1, c2, c3⟩ := hI
      obtain ⟨hz_l1, hz_l2, hz_k, _⟩ := hz
      refine And.intro (fun h10 => ?_) (fun h10 => ?_)
      · refine Exists.intro l1 (And.intro rfl (And.intro (And.intro i1 (And.intro j1 (And.intro (by omega) (And.intro (by omega) (And.intro (LW_fr p3 f1 rfl) (KO_fr p4 f1 rfl)))))) (fun A11 i12 j13 f14 => ?_)))
        have f15 := frm_c f1 f14 rfl
        refine fun A16 e17 => ?_
        have i18 := iva_sf i12 e17 rfl
        have j19 := ivf_st j13 e17 trivial
        have f20 := frm_sf f15 e17 rfl
        refine Exists.intro 0 (Exists.intro l1 (And.intro rfl (And.intro (And.intro i18 (And.intro j19 (And.intro (by omega) (by omega)))) (fun A21 i22 j23 f24 => ?_))))
        have f25 := frm_c f20 f24 rfl
        exact hK _ i22 j23 f25
      · refine And.intro (by omega) (fun A26 e27 => ?_)
        have i28 := iva_st i1 e27 (And.intro (by omega) trivial)
        have j29 := ivf_sa j1 e27 rfl
        have f30 := frm_s f1 e27 rfl
        refine fun v31 e32 => ?_
        refine fun v33 e34 => ?_
        have h35 := ia_bd (a := v31) (b := 1) (by omega) (by omega)
        refine And.intro (fun h36 => ?_) (fun h36 => ?_)
        · refine fun v37 e38 => ?_
          exact And.intro (by omega) (Exists.intro (8 - v37 : Int).toNat (And.intro (by omega) (And.intro i28 (And.intro j29 (And.intro f30 (And.intro rfl (And.intro (by omega) (And.intro (by omega) (And.intro (by omega) (by omega))))))))))
        · refine fun v39 gv39 e40 => ?_
          have b41 := ivf_at j29 4 rfl
          refine And.intro (fun h42 => ?_) (fun h42 => ?_)
          · refine fun v43 e44 => ?_
            exact And.intro (by omega) (Exists.intro (8 - v43 : Int).toNat (And.intro (by omega) (And.intro i28 (And.intro j29 (And.intro f30 (And.intro rfl (And.intro (by omega) (And.intro (by omega) (And.intro (by omega) (by omega))))))))))
          · refine fun v45 gv45 e46 => ?_
            have b47 := ivf_at j29 4 rfl
            have q48 : v39 = v45 := (e46.trans e40.symm).symm
            subst q48
            refine And.intro (by omega) (fun A49 e50 => ?_)
            have i51 := iva_st i28 e50 (And.intro (by omega) trivial)
            have j52 := ivf_sa j29 e50 rfl
            have f53 := frm_s f30 e50 rfl
            refine fun v54 gv54 e55 => ?_
            have b56 := ivf_at j52 4 rfl
            have q57 : v39 = v54 := (e55.trans ((congrFun (st_a e50 rfl) _).trans e46.symm)).symm
            subst q57
            refine fun v58 e59 => ?_
            refine And.intro (by omega) (fun A60 e61 => ?_)
            have i62 := iva_sf i51 e61 rfl
            have j63 := ivf_st j52 e61 (And.intro (by omega) trivial)
            have f64 := frm_sf f53 e61 rfl
            refine fun v65 e66 => ?_
            exact And.intro (by omega) (Exists.intro (8 - v65 : Int).toNat (And.intro (by omega) (And.intro i62 (And.intro j63 (And.intro f64 (And.intro rfl (And.intro (by omega) (And.intro (by omega) (And.intro (by omega) (by omega))))))))))
  · refine fun A5 e6 => ?_
    have i7 := iva_sf i0 e6 rfl
    have j8 := ivf_st j0 e6 (And.intro (by omega) trivial)
    have f9 := frm_sf f0 e6 rfl
    exact Exists.intro (8 - 0 : Int).toNat (And.intro i7 (And.intro j8 (And.intro f9 (And.intro rfl (And.intro (by omega) (And.intro (by omega) (And.intro (by omega) (by omega))))))))
def sC_dropsAt : qS := fun as A K => ∃ p : Int, as = [rf 44, ni p] ∧ (iva IC A ∧ ivf JC A) ∧ (∀ r : Int, (-1) ≤ r → r ≤ 99 → K (some (ni r)) A)
theorem okC_dropsAt : okM LC 2 93 sC_dropsAt := by
  refine qmeth [] false [(138, sC_within)] 17 rfl ⟨okC_within.le (by decide), trivial⟩ ?_
  rintro _ A K hA has ⟨p, rfl, ⟨i0, j0⟩, hK⟩
  have rg_p : rng p := has (ni p) (by simp)
  have f0 := frm_0 [] [] A
  refine ⟨Nat.le_of_ble_eq_true rfl, [], trivial, ?_⟩
  refine Exists.intro p (Exists.intro 3 (And.intro rfl (And.intro (fun h1 => ?_) (fun h1 => ?_))))
  · refine And.intro (fun h2 => by exfalso; omega) (fun h2 => ?_)
    refine And.intro (by omega) (fun v3 gv3 e4 => ?_)
    have b5 := iva_at i0 23 rfl (i := p) (by omega) (by omega)
    exact hK _ (by omega) (by omega)
  · refine And.intro (fun h6 => ?_) (fun h6 => by exfalso; omega)
    exact hK _ (by omega) (by omega)
def sC_arrive : qS := fun as A K => ∃ c t y to b : Int, as = [rf 68, ni c, ni t, ni y, ni to, ni b] ∧ (iva IC A ∧ ivf JC A ∧ 0 ≤ c ∧ c ≤ 7 ∧ 0 ≤ t ∧ t ≤ 2) ∧ (∀ A' : qA, iva IC A' → ivf JC A' → frm [69] [] A A' → K none A')
theorem okC_arrive : okM LC 1 81 sC_arrive := by
  refine qmeth [] true [] 39 rfl trivial ?_
  rintro _ A K hA has ⟨c, t, y, to, b, rfl, ⟨i0, j0, p1, p2, p3, p4⟩, hK⟩
  have rg_c : rng c := has (ni c) (by simp)
  have rg_t : rng t := has (ni t) (by simp)
  have rg_y : rng y := has (ni y) (by simp)
  have rg_to : rng to := has (ni to) (by simp)
  have rg_b : rng b := has (ni b) (by simp)
  have f0 := frm_0 [69] [] A
  refine ⟨Nat.le_of_ble_eq_true rfl, [], trivial, ?_⟩
  refine And.intro (fun h5 => ?_) (fun h5 => ?_)
  · refine And.intro (fun h6 => ?_) (fun h6 => ?_)
    · refine fun v7 e8 => ?_
      refine fun v9 e10 => ?_
      refine And.intro (by omega) (fun v11 gv11 e12 => ?_)
      refine fun v13 e14 => ?_
      have w17 := wI_rng v13
      refine And.intro (by omega) (fun A15 e16 => ?_)
      have i18 := iva_st i0 e16 trivial
      have j19 := ivf_sa j0 e16 rfl
      have f20 := frm_s f0 e16 rfl
      exact hK _ i18 j19 f20
    · refine And.intro (fun h21 => ?_) (fun h21 => ?_)
      · refine fun v22 e23 => ?_
        refine fun v24 e25 => ?_
        refine And.intro (by omega) (fun v26 gv26 e27 => ?_)
        refine fun v28 e29 => ?_
        have w32 := wI_rng v28
        refine And.intro (by omega) (fun A30 e31 => ?_)
        have i33 := iva_st i0 e31 trivial
        have j34 := ivf_sa j0 e31 rfl
        have f35 := frm_s f0 e31 rfl
        exact hK _ i33 j34 f35
      · refine fun v36 e37 => ?_
        refine fun v38 e39 => ?_
        refine And.intro (by omega) (fun v40 gv40 e41 => ?_)
        refine fun v42 e43 => ?_
        have w46 := wI_rng v42
        refine And.intro (by omega) (fun A44 e45 => ?_)
        have i47 := iva_st i0 e45 trivial
        have j48 := ivf_sa j0 e45 rfl
        have f49 := frm_s f0 e45 rfl
        exact hK _ i47 j48 f49
  · refine fun v50 e51 => ?_
    refine fun v52 e53 => ?_
    have h54 := ia_bd (a := v50) (b := 1) (by omega) (by omega)
    refine And.intro (fun h55 => ?_) (fun h55 => ?_)
    · refine And.intro (fun h56 => ?_) (fun h56 => by exfalso; omega)
      refine fun v57 e58 => ?_
      refine fun v59 e60 => ?_
      refine And.intro (by omega) (fun v61 gv61 e62 => ?_)
      refine fun v63 e64 => ?_
      have w67 := wI_rng v63
      refine And.intro (by omega) (fun A65 e66 => ?_)
      have i68 := iva_st i0 e66 trivial
      have j69 := ivf_sa j0 e66 rfl
      have f70 := frm_s f0 e66 rfl
      exact hK _ i68 j69 f70
    · refine And.intro (fun h71 => by exfalso; omega) (fun h71 => ?_)
      refine And.intro (fun h72 => ?_) (fun h72 => ?_)
      · refine fun v73 e74 => ?_
        refine fun v75 e76 => ?_
        refine And.intro (by omega) (fun v77 gv77 e78 => ?_)
        refine fun v79 e80 => ?_
        have w83 := wI_rng v79
        refine And.intro (by omega) (fun A81 e82 => ?_)
        have i84 := iva_st i0 e82 trivial
        have j85 := ivf_sa j0 e82 rfl
        have f86 := frm_s f0 e82 rfl
        exact hK _ i84 j85 f86
      · refine fun v87 e88 => ?_
        refine fun v89 e90 => ?_
        refine And.intro (by omega) (fun v91 gv91 e92 => ?_)
        refine fun v93 e94 => ?_
        have w97 := wI_rng v93
        refine And.intro (by omega) (fun A95 e96 => ?_)
        have i98 := iva_st i0 e96 trivial
        have j99 := ivf_sa j0 e96 rfl
        have f100 := frm_s f0 e96 rfl
        exact hK _ i98 j99 f100
def sC_cancel : qS := fun as A K => ∃ x : Int, as = [rf 68, ni x] ∧ (iva IC A ∧ ivf JC A ∧ 0 ≤ x ∧ x ≤ 12) ∧ (∀ A' : qA, iva IC A' → ivf JC A' → frm [] [(68, 2), (68, 3)] A A' → K none A')
theorem okC_cancel : okM LC 1 82 sC_cancel := by
  refine qmeth [] true [] 31 rfl trivial ?_
  rintro _ A K hA has ⟨x, rfl, ⟨i0, j0, p1, p2⟩, hK⟩
  have rg_x : rng x := has (ni x) (by simp)
  have f0 := frm_0 [] [(68, 2), (68, 3)] A
  refine ⟨Nat.le_of_ble_eq_true rfl, [(2, [(0, 2, 68), (1, 0, 0), (2, 0, 0)], fun zs B nn => match zs with | [l1, i] => iva IC B ∧ ivf JC B ∧ frm [] [(68, 2), (68, 3)] A B ∧ nn = (12 - i : Int).toNat ∧ (l1 = x) ∧ (0 ≤ i) ∧ (i ≤ 12) | _ => False)], ?_, ?_⟩
  · refine ⟨⟨rfl, ?_⟩, trivial⟩
    · refine fun l1 i B mm hB hz hI => ?_
      obtain ⟨i1, j1, f1, hm, c0, c1, c2⟩ := hI
      obtain ⟨hz_l1, hz_i, _⟩ := hz
      refine And.intro (fun h3 => ?_) (fun h3 => ?_)
      · exact hK _ i1 j1 f1
      · refine fun v4 gv4 e5 => ?_
        refine And.intro (by omega) (fun v6 e7 => ?_)
        have h8 := qm_bd (a := v4) (b := 3) (by omega)
        refine And.intro (fun h9 => ?_) (fun h9 => ?_)
        · exact hK _ i1 j1 f1
        · refine fun v10 gv10 e11 => ?_
          have q12 : v4 = v10 := (e11.trans e5.symm).symm
          subst q12
          refine And.intro (by omega) (fun v13 e14 => ?_)
          have h15 := qd_bd (a := v4) (b := 3) (lo := (-2147483648)) (hi := 2147483647) (by omega) (by omega) (by omega) (by omega) (by omega)
          have w18 := wI_rng v13
          have w19 : wI v13 = v13 := wI_id (by omega)
          refine fun A16 e17 => ?_
          have i20 := iva_sf i1 e17 rfl
          have j21 := ivf_st j1 e17 trivial
          have f22 := frm_sf f1 e17 rfl
          refine fun v23 gv23 e24 => ?_
          refine And.intro (by omega) (fun v25 e26 => ?_)
          have h27 := qd_bd (a := v23) (b := 3) (lo := (-2147483648)) (hi := 2147483647) (by omega) (by omega) (by omega) (by omega) (by omega)
          have w30 := wI_rng v25
          have w31 : wI v25 = v25 := wI_id (by omega)
          refine fun A28 e29 => ?_
          have i32 := iva_sf i20 e29 rfl
          have j33 := ivf_st j21 e29 trivial
          have f34 := frm_sf f22 e29 rfl
          refine fun v35 e36 => ?_
          have w37 := wI_rng v35
          have w38 : wI v35 = v35 := wI_id (by omega)
          exact Exists.intro (12 - ((wI v35)) : Int).toNat (And.intro (by omega) (And.intro i32 (And.intro j33 (And.intro f34 (And.intro rfl (And.intro (by omega) (And.intro (by omega) (by omega))))))))
  · exact Exists.intro (12 - 0 : Int).toNat (And.intro i0 (And.intro j0 (And.intro f0 (And.intro rfl (And.intro (by omega) (And.intro (by omega) (by omega)))))))
def sC_fly : qS := fun as A K => ∃ f to b x : Int, as = [rf 68, ni f, ni to, ni b, ni x] ∧ (iva IC A ∧ ivf JC A ∧ 0 ≤ f ∧ f ≤ 7 ∧ 0 ≤ x ∧ x ≤ 12) ∧ (∀ A' : qA, iva IC A' → ivf JC A' → frm [69, 70] [(68, 2), (68, 3)] A A' → K none A')
theorem okC_fly : okM LC 2 80 sC_fly := by
  refine qmeth [] true [(250, sC_fill69), (81, sC_arrive), (82, sC_cancel)] 127 rfl ⟨okC_fill69.le (by decide), ⟨okC_arrive.le (by decide), ⟨okC_cancel.le (by decide), trivial⟩⟩⟩ ?_
  rintro _ A K hA has ⟨f, to, b, x, rfl, ⟨i0, j0, p1, p2, p3, p4⟩, hK⟩
  have rg_f : rng f := has (ni f) (by simp)
  have rg_to : rng to := has (ni to) (by simp)
  have rg_b : rng b := has (ni b) (by simp)
  have rg_x : rng x := has (ni x) (by simp)
  have f0 := frm_0 [69, 70] [(68, 2), (68, 3)] A
  refine ⟨Nat.le_of_ble_eq_true rfl, [(16, [(0, 2, 68), (2, 0, 0), (3, 0, 0), (4, 0, 0), (5, 0, 0)], fun zs B nn => match zs with | [l2, l3, l4, i] => iva IC B ∧ ivf JC B ∧ frm [69, 70] [(68, 2), (68, 3)] A B ∧ nn = ((12 - i) * 100 + 1099 : Int).toNat ∧ (l2 = to) ∧ (l3 = b) ∧ (l4 = x) ∧ (0 ≤ i) ∧ (i ≤ 12) | _ => False), (99, [(0, 2, 68), (4, 0, 0), (5, 0, 0)], fun zs B nn => match zs with | [l4, k] => iva IC B ∧ ivf JC B ∧ frm [69, 70] [(68, 2), (68, 3)] A B ∧ nn = (8 - k : Int).toNat ∧ (l4 = x) ∧ (0 ≤ k) ∧ (k ≤ 8) | _ => False), (33, [(0, 2, 68), (2, 0, 0), (3, 0, 0), (4, 0, 0), (5, 0, 0), (6, 0, 0)], fun zs B nn => match zs with | [l2, l3, l4, i, k] => iva IC B ∧ ivf JC B ∧ frm [69, 70] [(68, 2), (68, 3)] A B ∧ nn = ((12 - i) * 100 + 1024 - k : Int).toNat ∧ (l2 = to) ∧ (l3 = b) ∧ (l4 = x) ∧ (0 ≤ i) ∧ (i ≤ 11) ∧ (0 ≤ k) ∧ (k ≤ 24) | _ => False)], ?_, ?_⟩
  · refine ⟨⟨rfl, ?_⟩, ⟨rfl, ?_⟩, ⟨rfl, ?_⟩, trivial⟩
    · refine fun l2 l3 l4 i B mm hB hz hI => ?_
      obtain ⟨i1, j1, f1, hm, c0, c1, c2, c3, c4⟩ := hI
      obtain ⟨hz_l2, hz_l3, hz_l4, hz_i, _⟩ := hz
      refine And.intro (fun h20 => ?_) (fun h20 => ?_)
      · refine fun A21 e22 => ?_
        have i23 := iva_sf i1 e22 rfl
        have j24 := ivf_st j1 e22 trivial
        have f25 := frm_sf f1 e22 rfl
        exact Exists.intro (8 - 0 : Int).toNat (And.intro (by omega) (And.intro i23 (And.intro j24 (And.intro f25 (And.intro rfl (And.intro (by omega) (And.intro (by omega) (by omega))))))))
      · refine And.intro (by omega) (fun A26 e27 => ?_)
        have i28 := iva_cp i1 e27 (fun i h0 h1 => trivial)
        have j29 := ivf_cp j1 e27 rfl
        have f30 := frm_cp f1 e27 rfl
        refine Exists.intro 0 (And.intro rfl (And.intro (And.intro i28 j29) (fun A31 i32 j33 f34 => ?_)))
        have f35 := frm_c f30 f34 rfl
        exact Exists.intro ((12 - i) * 100 + 1024 - 0 : Int).toNat (And.intro (by omega) (And.intro i32 (And.intro j33 (And.intro f35 (And.intro rfl (And.intro (by omega) (And.intro (by omega) (And.intro (by omega) (And.intro (by omega) (And.intro (by omega) (And.intro (by omega) (by omega))))))))))))
    · refine fun l4 k B mm hB hz hI => ?_
      obtain ⟨i1, j1, f1, hm, c0, c1, c2⟩ := hI
      obtain ⟨hz_l4, hz_k, _⟩ := hz
      refine And.intro (fun h36 => ?_) (fun h36 => ?_)
      · refine Exists.intro l4 (And.intro rfl (And.intro (And.intro i1 (And.intro j1 (And.intro (by omega) (by omega)))) (fun A37 i38 j39 f40 => ?_)))
        have f41 := frm_c f1 f40 rfl
        exact hK _ i38 j39 f41
      · refine fun v42 gv42 e43 => ?_
        refine fun v44 e45 => ?_
        refine fun v46 e47 => ?_
        refine And.intro (by omega) (fun v48 gv48 e49 => ?_)
        refine fun v50 e51 => ?_
        have w54 := wI_rng v50
        refine fun A52 e53 => ?_
        have i55 := iva_sf i1 e53 rfl
        have j56 := ivf_st j1 e53 trivial
        have f57 := frm_sf f1 e53 rfl
        refine fun v58 e59 => ?_
        have w60 := wI_rng v58
        have w61 : wI v58 = v58 := wI_id (by omega)
        exact Exists.intro (8 - ((wI v58)) : Int).toNat (And.intro (by omega) (And.intro i55 (And.intro j56 (And.intro f57 (And.intro rfl (And.intro (by omega) (And.intro (by omega) (by omega))))))))
    · refine fun l2 l3 l4 i k B mm hB hz hI => ?_
      obtain ⟨i1, j1, f1, hm, c0, c1, c2, c3, c4, c5, c6⟩ := hI
      obtain ⟨hz_l2, hz_l3, hz_l4, hz_i, hz_k, _⟩ := hz
      refine And.intro (fun h62 => ?_) (fun h62 => ?_)
      · refine fun v63 gv63 e64 => ?_
        refine fun v65 e66 => ?_
        have w69 := wI_rng v65
        refine fun A67 e68 => ?_
        have i70 := iva_sf i1 e68 rfl
        have j71 := ivf_st j1 e68 trivial
        have f72 := frm_sf f1 e68 rfl
        refine fun v73 e74 => ?_
        have w75 := wI_rng v73
        have w76 : wI v73 = v73 := wI_id (by omega)
        exact Exists.intro ((12 - ((wI v73))) * 100 + 1099 : Int).toNat (And.intro (by omega) (And.intro i70 (And.intro j71 (And.intro f72 (And.intro rfl (And.intro (by omega) (And.intro (by omega) (And.intro (by omega) (And.intro (by omega) (by omega))))))))))
      · refine And.intro (by omega) (fun v77 e78 => ?_)
        have h79 := qd_nn (a := k) (b := 3) (by omega)
        refine fun v80 e81 => ?_
        have w84 := wI_rng v80
        have w85 : wI v80 = v80 := wI_id (by omega)
        refine (fun v82 e83 => ?_)
        refine And.intro (by omega) (fun v86 e87 => ?_)
        have h88 := qm_nn (a := k) (b := 3) (by omega)
        refine And.intro (by omega) (fun v89 gv89 e90 => ?_)
        refine Exists.intro v82 (Exists.intro v86 (Exists.intro v89 (Exists.intro l2 (Exists.intro l3 (And.intro rfl (And.intro (And.intro i1 (And.intro j1 (And.intro (by omega) (And.intro (by omega) (And.intro (by omega) (by omega)))))) (fun A91 i92 j93 f94 => ?_)))))))
        have f95 := frm_c f1 f94 rfl
        refine And.intro (by omega) (fun v96 e97 => ?_)
        have h98 := qm_nn (a := k) (b := 3) (by omega)
        refine And.intro (by omega) (fun v99 gv99 e100 => ?_)
        have q101 : v89 = v99 := (e100.trans ((congrFun (frm_a f94 rfl) _).trans e90.symm)).symm
        subst q101
        have w102 := wI_rng v77
        have w103 : wI v77 = v77 := wI_id (by omega)
        refine Exists.intro (wI v77) (Exists.intro v96 (Exists.intro v89 (Exists.intro l2 (Exists.intro l3 (And.intro rfl (And.intro (And.intro i92 (And.intro j93 (And.intro (by omega) (And.intro (by omega) (And.intro (by omega) (by omega)))))) (fun A104 i105 j106 f107 => ?_)))))))
        have f108 := frm_c f95 f107 rfl
        refine fun v109 e110 => ?_
        have w113 := wI_rng v109
        have w114 : wI v109 = v109 := wI_id (by omega)
        refine (fun v111 e112 => ?_)
        refine And.intro (by omega) (fun v115 e116 => ?_)
        have h117 := qm_nn (a := k) (b := 3) (by omega)
        refine And.intro (by omega) (fun v118 gv118 e119 => ?_)
        have q120 : v89 = v118 := (e119.trans ((congrFun (frm_a f107 rfl) _).trans e100.symm)).symm
        subst q120
        refine Exists.intro v111 (Exists.intro v115 (Exists.intro v89 (Exists.intro l2 (Exists.intro l3 (And.intro rfl (And.intro (And.intro i105 (And.intro j106 (And.intro (by omega) (And.intro (by omega) (And.intro (by omega) (by omega)))))) (fun A121 i122 j123 f124 => ?_)))))))
        have f125 := frm_c f108 f124 rfl
        refine fun v126 e127 => ?_
        have w128 := wI_rng v126
        have w129 : wI v126 = v126 := wI_id (by omega)
        exact Exists.intro ((12 - i) * 100 + 1024 - ((wI v126)) : Int).toNat (And.intro (by omega) (And.intro i122 (And.intro j123 (And.intro f125 (And.intro rfl (And.intro (by omega) (And.intro (by omega) (And.intro (by omega) (And.intro (by omega) (And.intro (by omega) (And.intro (by omega) (by omega))))))))))))
  · refine Exists.intro 0 (And.intro rfl (And.intro (And.intro i0 j0) (fun A5 i6 j7 f8 => ?_)))
    have f9 := frm_c f0 f8 rfl
    refine Exists.intro f (Exists.intro 0 (Exists.intro 1 (Exists.intro to (Exists.intro b (And.intro rfl (And.intro (And.intro i6 (And.intro j7 (And.intro (by omega) (And.intro (by omega) (And.intro (by omega) (by omega)))))) (fun A10 i11 j12 f13 => ?_)))))))
    have f14 := frm_c f9 f13 rfl
    refine fun A15 e16 => ?_
    have i17 := iva_sf i11 e16 rfl
    have j18 := ivf_st j12 e16 trivial
    have f19 := frm_sf f14 e16 rfl
    exact Exists.intro ((12 - 0) * 100 + 1099 : Int).toNat (And.intro i17 (And.intro j18 (And.intro f19 (And.intro rfl (And.intro (by omega) (And.intro (by omega) (And.intro (by omega) (And.intro (by omega) (by omega)))))))))
