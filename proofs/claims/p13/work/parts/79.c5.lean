def fC_reckonGrowth_c2 (rec : Nat → List Int → qA → qA) (l1 c : Int) (B : qA) : qA := (if c < 48 then qlet (fC_needOf c B) fun r6 => qlet (min l1 r6) fun v10 => rec 14 [l1, c, v10, 0] B else B)
def fC_reckonGrowth_c14 (rec : Nat → List Int → qA → qA) (l1 c t k : Int) (B : qA) : qA := (if t < k then qlet (c + 1) fun v13 => rec 2 [l1, v13] B else (if 20 < k then qlet (c + 1) fun v16 => rec 2 [l1, v16] B else qlet (c * 21) fun v18 => qlet (v18 + k) fun v20 => (if 0 ≤ c ∧ c ≤ 47 ∧ HG B c ∧ 0 ≤ B 6 c ∧ B 6 c ≤ 5 then qlp (fC_growth c k B) fun r30 A26 => qlet (qu A26 51 v20 r30) fun A36 => qlet (k + 1) fun v41 => rec 14 [l1, c, t, v41] A36 else qlet (qu B 51 v20 0) fun A44 => qlet (k + 1) fun v49 => rec 14 [l1, c, t, v49] A44)))
def fC_reckonGrowth_L : Nat → Nat → List Int → qA → qA
  | 0 => fun _ _ B => B
  | nF + 1 => fun k zs B => bif Nat.beq k 2 then (match zs with | [l1, c] => fC_reckonGrowth_c2 (fC_reckonGrowth_L nF) l1 c B | _ => B) else bif Nat.beq k 14 then (match zs with | [l1, c, t, k] => fC_reckonGrowth_c14 (fC_reckonGrowth_L nF) l1 c t k B | _ => B) else B
theorem fC_reckonGrowth_L2 (nF : Nat) (l1 c : Int) (B : qA) : fC_reckonGrowth_L (nF + 1) 2 [l1, c] B = fC_reckonGrowth_c2 (fC_reckonGrowth_L nF) l1 c B := (congrFun (congrFun (congrFun (fC_reckonGrowth_L.eq_2 nF) 2) [l1, c]) B).trans (qL1 rfl rfl)
theorem fC_reckonGrowth_L14 (nF : Nat) (l1 c t k : Int) (B : qA) : fC_reckonGrowth_L (nF + 1) 14 [l1, c, t, k] B = fC_reckonGrowth_c14 (fC_reckonGrowth_L nF) l1 c t k B := (congrFun (congrFun (congrFun (fC_reckonGrowth_L.eq_2 nF) 14) [l1, c, t, k]) B).trans (qL0 rfl (qL1 rfl rfl))
def fC_reckonGrowth (d : Int) (A : qA) : qA := (fC_reckonGrowth_L 100000) 2 [d, 0] A
def sC_reckonGrowth : qS := fun as A K => ∃ d : Int, as = [rf 44, ni d] ∧ (iva IC A ∧ ivf JC A ∧ 0 ≤ d ∧ d ≤ 36 ∧ (LW A) ∧ (KO A)) ∧ (∀ A' : qA, iva IC A' → ivf JC A' → frm [51, 35, 43, 78] [(36, 9), (71, 9)] A A' → (A' = fC_reckonGrowth d A) → K none A')
theorem okC_reckonGrowth : okM LC 6 90 sC_reckonGrowth := by
  refine qmeth [] false [(24, sC_needOf), (22, sC_hasCrop), (4, sC_growth)] 51 rfl ⟨okC_needOf.le (by decide), ⟨okC_hasCrop.le (by decide), ⟨okC_growth.le (by decide), trivial⟩⟩⟩ ?_
  rintro _ A K hA has ⟨d, rfl, ⟨i0, j0, p1, p2, p3, p4⟩, hK⟩
  have rg_d : rng d := has (ni d) (by simp)
  have f0 := frm_0 [51, 35, 43, 78] [(36, 9), (71, 9)] A
  have hT : _ = fC_reckonGrowth d A := (fC_reckonGrowth.eq_1 d A).symm
  refine ⟨Nat.le_of_ble_eq_true rfl, [(2, [(0, 2, 44), (1, 0, 0), (2, 0, 0)], fun zs B nn => match zs with | [l1, c] => iva IC B ∧ ivf JC B ∧ frm [51, 35, 43, 78] [(36, 9), (71, 9)] A B ∧ nn = ((48 - c) * 100 + 50 : Int).toNat ∧ (l1 = d) ∧ (0 ≤ c) ∧ (c ≤ 48) ∧ (∃ nf : Nat, nn < nf ∧ fC_reckonGrowth_L nf 2 [l1, c] B = fC_reckonGrowth d A) | _ => False), (14, [(0, 2, 44), (1, 0, 0), (2, 0, 0), (3, 0, 0), (4, 0, 0)], fun zs B nn => match zs with | [l1, c, t, k] => iva IC B ∧ ivf JC B ∧ frm [51, 35, 43, 78] [(36, 9), (71, 9)] A B ∧ nn = ((48 - c) * 100 + 22 - k : Int).toNat ∧ (l1 = d) ∧ (0 ≤ c) ∧ (c ≤ 47) ∧ (0 ≤ k) ∧ (k ≤ 21) ∧ (∃ nf : Nat, nn < nf ∧ fC_reckonGrowth_L nf 14 [l1, c, t, k] B = fC_reckonGrowth d A) | _ => False)], ?_, ?_⟩
  · refine ⟨⟨rfl, ?_⟩, ⟨rfl, ?_⟩, trivial⟩
    · refine fun l1 c B mm hB hz hI => ?_
      obtain ⟨i1, j1, f1, hm, c0, c1, c2, ⟨nf, hnf, hT⟩⟩ := hI
      obtain ⟨hz_l1, hz_c, _⟩ := hz
      obtain ⟨ng, rfl⟩ : ∃ k, nf = k + 1 := ⟨nf - 1, by omega⟩
      replace hT := (fC_reckonGrowth_c2.eq_1 (fC_reckonGrowth_L ng) l1 c B).symm.trans ((fC_reckonGrowth_L2 ng l1 c B).symm.trans hT)
      refine And.intro (fun h5 => ?_) (fun h5 => ?_)
      · replace hT := (if_neg (Int.not_lt.mpr h5)).symm.trans hT
        exact hK _ i1 j1 f1 hT
      · replace hT := (if_pos h5).symm.trans hT
        refine Exists.intro c (And.intro rfl (And.intro (And.intro i1 j1) (fun r6 g8 g9 g7 => ?_)))
        replace hT := qlc g7 hT
        clear g7
        refine (fun v10 e11 => ?_)
        replace hT := qlc e11 hT
        exact Exists.intro ((48 - c) * 100 + 22 - 0 : Int).toNat (And.intro (by first | exact qtn hm (by (try clear hm hnf); omega) | omega) (And.intro i1 (And.intro j1 (And.intro f1 (And.intro rfl (And.intro (by (first | (clear hm hnf; omega) | omega)) (And.intro (by (first | (clear hm hnf; omega) | omega)) (And.intro (by (first | (clear hm hnf; omega) | omega)) (And.intro (by (first | (clear hm hnf; omega) | omega)) (And.intro (by (first | (clear hm hnf; omega) | omega)) (Exists.intro ng (And.intro (by first | exact qtm hm hnf (by (try clear hm hnf); omega) | omega) hT))))))))))))
    · refine fun l1 c t k B mm hB hz hI => ?_
      obtain ⟨i1, j1, f1, hm, c0, c1, c2, c3, c4, ⟨nf, hnf, hT⟩⟩ := hI
      obtain ⟨hz_l1, hz_c, hz_t, hz_k, _⟩ := hz
      obtain ⟨ng, rfl⟩ : ∃ k, nf = k + 1 := ⟨nf - 1, by omega⟩
      replace hT := (fC_reckonGrowth_c14.eq_1 (fC_reckonGrowth_L ng) l1 c t k B).symm.trans ((fC_reckonGrowth_L14 ng l1 c t k B).symm.trans hT)
      refine And.intro (fun h12 => ?_) (fun h12 => ?_)
      · replace hT := (if_pos h12).symm.trans hT
        refine fun v13 e14 => ?_
        replace hT := qlc e14 hT
        exact And.intro (by (first | (clear hm hnf; omega) | omega)) (Exists.intro ((48 - v13) * 100 + 50 : Int).toNat (And.intro (by first | exact qtn hm (by (try clear hm hnf); omega) | omega) (And.intro i1 (And.intro j1 (And.intro f1 (And.intro rfl (And.intro (by (first | (clear hm hnf; omega) | omega)) (And.intro (by (first | (clear hm hnf; omega) | omega)) (And.intro (by (first | (clear hm hnf; omega) | omega)) (Exists.intro ng (And.intro (by first | exact qtm hm hnf (by (try clear hm hnf); omega) | omega) hT)))))))))))
      · replace hT := (if_neg (Int.not_lt.mpr h12)).symm.trans hT
        refine And.intro (fun h15 => ?_) (fun h15 => ?_)
        · replace hT := (if_pos h15).symm.trans hT
          refine fun v16 e17 => ?_
          replace hT := qlc e17 hT
          exact And.intro (by (first | (clear hm hnf; omega) | omega)) (Exists.intro ((48 - v16) * 100 + 50 : Int).toNat (And.intro (by first | exact qtn hm (by (try clear hm hnf); omega) | omega) (And.intro i1 (And.intro j1 (And.intro f1 (And.intro rfl (And.intro (by (first | (clear hm hnf; omega) | omega)) (And.intro (by (first | (clear hm hnf; omega) | omega)) (And.intro (by (first | (clear hm hnf; omega) | omega)) (Exists.intro ng (And.intro (by first | exact qtm hm hnf (by (try clear hm hnf); omega) | omega) hT)))))))))))
        · replace hT := (if_neg (Int.not_lt.mpr h15)).symm.trans hT
          refine fun v18 e19 => ?_
          replace hT := qlc e19 hT
          refine fun v20 e21 => ?_
          replace hT := qlc e21 hT
          refine Exists.intro c (And.intro rfl (And.intro (fun h22 => ?_) (fun h22 => ?_)))
          · replace hT := (if_pos h22).symm.trans hT
            obtain ⟨v23, e24⟩ : ∃ v, v = B 6 c := ⟨_, rfl⟩
            refine And.intro (fun h25 => by exfalso; omega) (fun h25 => ?_)
            refine Exists.intro c (Exists.intro k (And.intro rfl (And.intro (And.intro i1 (And.intro j1 (And.intro (by (first | (clear hm hnf; omega) | omega)) (And.intro (by (first | (clear hm hnf; omega) | omega)) (And.intro (LW_fr p3 f1 rfl) (KO_fr p4 f1 rfl)))))) (fun A26 i27 j28 f29 r30 g33 g34 g31 g32 => ?_))))
            replace hT := qlpc g31 g32 hT
            clear g31 g32
            have f35 := frm_c f1 f29 rfl
            refine And.intro (by (first | (clear hm hnf; omega) | omega)) (fun A36 e37 => ?_)
            replace hT := qlc e37 hT
            have i38 := iva_st i27 e37 trivial
            have j39 := ivf_sa j28 e37 rfl
            have f40 := frm_s f35 e37 rfl
            refine fun v41 e42 => ?_
            replace hT := qlc e42 hT
            exact And.intro (by (first | (clear hm hnf; omega) | omega)) (Exists.intro ((48 - c) * 100 + 22 - v41 : Int).toNat (And.intro (by first | exact qtn hm (by (try clear hm hnf); omega) | omega) (And.intro i38 (And.intro j39 (And.intro f40 (And.intro rfl (And.intro (by (first | (clear hm hnf; omega) | omega)) (And.intro (by (first | (clear hm hnf; omega) | omega)) (And.intro (by (first | (clear hm hnf; omega) | omega)) (And.intro (by (first | (clear hm hnf; omega) | omega)) (And.intro (by (first | (clear hm hnf; omega) | omega)) (Exists.intro ng (And.intro (by first | exact qtm hm hnf (by (try clear hm hnf); omega) | omega) hT)))))))))))))
          · replace hT := (if_neg h22).symm.trans hT
            refine And.intro (fun h43 => ?_) (fun h43 => by exfalso; omega)
            refine And.intro (by (first | (clear hm hnf; omega) | omega)) (fun A44 e45 => ?_)
            replace hT := qlc e45 hT
            have i46 := iva_st i1 e45 trivial
            have j47 := ivf_sa j1 e45 rfl
            have f48 := frm_s f1 e45 rfl
            refine fun v49 e50 => ?_
            replace hT := qlc e50 hT
            exact And.intro (by (first | (clear hm hnf; omega) | omega)) (Exists.intro ((48 - c) * 100 + 22 - v49 : Int).toNat (And.intro (by first | exact qtn hm (by (try clear hm hnf); omega) | omega) (And.intro i46 (And.intro j47 (And.intro f48 (And.intro rfl (And.intro (by (first | (clear hm hnf; omega) | omega)) (And.intro (by (first | (clear hm hnf; omega) | omega)) (And.intro (by (first | (clear hm hnf; omega) | omega)) (And.intro (by (first | (clear hm hnf; omega) | omega)) (And.intro (by (first | (clear hm hnf; omega) | omega)) (Exists.intro ng (And.intro (by first | exact qtm hm hnf (by (try clear hm hnf); omega) | omega) hT)))))))))))))
  · exact Exists.intro ((48 - 0) * 100 + 50 : Int).toNat (And.intro i0 (And.intro j0 (And.intro f0 (And.intro rfl (And.intro (by (first | (clear hm hnf; omega) | omega)) (And.intro (by (first | (clear hm hnf; omega) | omega)) (And.intro (by (first | (clear hm hnf; omega) | omega)) (Exists.intro 100000 (And.intro (by (first | (clear hm hnf; omega) | omega)) hT)))))))))
theorem pC_reckonGrowth {d : Int} {A : qA} (hA : qokA LC A) (p0 : iva IC A) (p1 : ivf JC A) (p2 : 0 ≤ d) (p3 : d ≤ 36) (p4 : LW A) (p5 : KO A) : qokA LC (fC_reckonGrowth d A) ∧ iva IC (fC_reckonGrowth d A) ∧ ivf JC (fC_reckonGrowth d A) ∧ frm [51, 35, 43, 78] [(36, 9), (71, 9)] A (fC_reckonGrowth d A) := by
  obtain ⟨r, B, hB, _, hk⟩ := okM_ex okC_reckonGrowth (as := [rf 44, ni d]) (K := fun _ B => B = (fC_reckonGrowth d A) ∧ iva IC (fC_reckonGrowth d A) ∧ ivf JC (fC_reckonGrowth d A) ∧ frm [51, 35, 43, 78] [(36, 9), (71, 9)] A (fC_reckonGrowth d A)) hA (qoks_c (show qok (rf _) from trivial) (qoks_c (show rng d from ⟨by (first | (clear hm hnf; omega) | omega), by (first | (clear hm hnf; omega) | omega)⟩) qoks_n)) ⟨d, rfl, ⟨p0, p1, p2, p3, p4, p5⟩, fun A9 i9 j9 f9 x0 => (by rw [← x0]; exact ⟨rfl, i9, j9, f9⟩)⟩
  exact ⟨hk.1 ▸ hB, hk.2⟩
def fC_weighTrial_c10 (rec : Nat → List Int → qA → qA) (s k : Int) (B : qA) : qA := (if k < 48 then qlet (k * 21) fun v16 => qlet (B 50 k) fun v18 => qlet (v16 + v18) fun v21 => qlet (B 51 v21) fun v23 => qlet (s + v23) fun v25 => qlet (k + 1) fun v27 => rec 10 [((wI v25)), ((wI v27))] B else qlet (B 44 (fd 10)) fun v8 => (if v8 < s then qlet (qu B 44 (fd 10) s) fun A11 => rec 38 [0] A11 else B))
def fC_weighTrial_c38 (rec : Nat → List Int → qA → qA) (k : Int) (B : qA) : qA := qlet (B 44 (fd 9)) fun v32 => (if k < v32 then qlet (B 47 k) fun v36 => qlet (B 49 v36) fun v39 => qlet (qu B 48 k v39) fun A42 => qlet (k + 1) fun v47 => rec 38 [((wI v47))] A42 else B)
def fC_weighTrial_L : Nat → Nat → List Int → qA → qA
  | 0 => fun _ _ B => B
  | nF + 1 => fun k zs B => bif Nat.beq k 10 then (match zs with | [s, k] => fC_weighTrial_c10 (fC_weighTrial_L nF) s k B | _ => B) else bif Nat.beq k 38 then (match zs with | [k] => fC_weighTrial_c38 (fC_weighTrial_L nF) k B | _ => B) else B
theorem fC_weighTrial_L10 (nF : Nat) (s k : Int) (B : qA) : fC_weighTrial_L (nF + 1) 10 [s, k] B = fC_weighTrial_c10 (fC_weighTrial_L nF) s k B := (congrFun (congrFun (congrFun (fC_weighTrial_L.eq_2 nF) 10) [s, k]) B).trans (qL1 rfl rfl)
theorem fC_weighTrial_L38 (nF : Nat) (k : Int) (B : qA) : fC_weighTrial_L (nF + 1) 38 [k] B = fC_weighTrial_c38 (fC_weighTrial_L nF) k B := (congrFun (congrFun (congrFun (fC_weighTrial_L.eq_2 nF) 38) [k]) B).trans (qL0 rfl (qL1 rfl rfl))
def fC_weighTrial (A : qA) : qA := qlet (fC_pourB A) fun A1 => (fC_weighTrial_L 100000) 10 [0, 0] A1
def sC_weighTrial : qS := fun as A K => as = [rf 44] ∧ (iva IC A ∧ ivf JC A) ∧ (∀ A' : qA, iva IC A' → ivf JC A' → frm [45, 46, 50, 48] [(44, 10)] A A' → (A' = fC_weighTrial A) → K none A')
theorem okC_weighTrial : okM LC 5 92 sC_weighTrial := by
  refine qmeth [] true [(87, sC_pourB)] 62 rfl ⟨okC_pourB.le (by decide), trivial⟩ ?_
  rintro _ A K hA has ⟨rfl, ⟨i0, j0⟩, hK⟩
  have f0 := frm_0 [45, 46, 50, 48] [(44, 10)] A
  have hT : _ = fC_weighTrial A := (fC_weighTrial.eq_1 A).symm
  refine ⟨Nat.le_of_ble_eq_true rfl, [(10, [(0, 2, 44), (1, 0, 0), (2, 0, 0)], fun zs B nn => match zs with | [s, k] => iva IC B ∧ ivf JC B ∧ frm [45, 46, 50, 48] [(44, 10)] A B ∧ nn = (148 - k : Int).toNat ∧ (0 ≤ k) ∧ (k ≤ 48) ∧ (∃ nf : Nat, nn < nf ∧ fC_weighTrial_L nf 10 [s, k] B = fC_weighTrial A) | _ => False), (38, [(0, 2, 44), (2, 0, 0)], fun zs B nn => match zs with | [k] => iva IC B ∧ ivf JC B ∧ frm [45, 46, 50, 48] [(44, 10)] A B ∧ nn = (4 - k : Int).toNat ∧ (0 ≤ k) ∧ (k ≤ 4) ∧ (∃ nf : Nat, nn < nf ∧ fC_weighTrial_L nf 38 [k] B = fC_weighTrial A) | _ => False)], ?_, ?_⟩
  · refine ⟨⟨rfl, ?_⟩, ⟨rfl, ?_⟩, trivial⟩
    · refine fun s k B mm hB hz hI => ?_
      obtain ⟨i1, j1, f1, hm, c0, c1, ⟨nf, hnf, hT⟩⟩ := hI
      obtain ⟨hz_s, hz_k, _⟩ := hz
      obtain ⟨ng, rfl⟩ : ∃ k, nf = k + 1 := ⟨nf - 1, by omega⟩
      replace hT := (fC_weighTrial_c10.eq_1 (fC_weighTrial_L ng) s k B).symm.trans ((fC_weighTrial_L10 ng s k B).symm.trans hT)
      refine And.intro (fun h7 => ?_) (fun h7 => ?_)
      · replace hT := (if_neg (Int.not_lt.mpr h7)).symm.trans hT
        refine fun v8 gv8 e9 => ?_
        replace hT := qlc e9 hT
        refine And.intro (fun h10 => ?_) (fun h10 => ?_)
        · replace hT := (if_neg (Int.not_lt.mpr h10)).symm.trans hT
          exact hK _ i1 j1 f1 hT
        · replace hT := (if_pos h10).symm.trans hT
          refine fun A11 e12 => ?_
          replace hT := qlc e12 hT
          have i13 := iva_sf i1 e12 rfl
          have j14 := ivf_st j1 e12 trivial
          have f15 := frm_sf f1 e12 rfl
          exact Exists.intro (4 - 0 : Int).toNat (And.intro (by first | exact qtn hm (by (try clear hm hnf); omega) | omega) (And.intro i13 (And.intro j14 (And.intro f15 (And.intro rfl (And.intro (by (first | (clear hm hnf; omega) | omega)) (And.intro (by (first | (clear hm hnf; omega) | omega)) (Exists.intro ng (And.intro (by first | exact qtm hm hnf (by (try clear hm hnf); omega) | omega) hT)))))))))
      · replace hT := (if_pos h7).symm.trans hT
        refine fun v16 e17 => ?_
        replace hT := qlc e17 hT
        refine And.intro (by (first | (clear hm hnf; omega) | omega)) (fun v18 gv18 e19 => ?_)
        replace hT := qlc e19 hT
        have b20 := iva_at i1 25 rfl (i := k) (by (first | (clear hm hnf; omega) | omega)) (by (first | (clear hm hnf; omega) | omega))
        refine fun v21 e22 => ?_
        replace hT := qlc e22 hT
        refine And.intro (by (first | (clear hm hnf; omega) | omega)) (fun v23 gv23 e24 => ?_)
        replace hT := qlc e24 hT
        refine fun v25 e26 => ?_
        replace hT := qlc e26 hT
        refine fun v27 e28 => ?_
        replace hT := qlc e28 hT
        have w29 := wI_rng v25
        have w30 := wI_rng v27
        have w31 : wI v27 = v27 := wI_id (by (first | (clear hm hnf; omega) | omega))
        exact Exists.intro (148 - ((wI v27)) : Int).toNat (And.intro (by first | exact qtn hm (by (try clear hm hnf); omega) | omega) (And.intro i1 (And.intro j1 (And.intro f1 (And.intro rfl (And.intro (by (first | (clear hm hnf; omega) | omega)) (And.intro (by (first | (clear hm hnf; omega) | omega)) (Exists.intro ng (And.intro (by first | exact qtm hm hnf (by (try clear hm hnf); omega) | omega) hT)))))))))
    · refine fun k B mm hB hz hI => ?_
      obtain ⟨i1, j1, f1, hm, c0, c1, ⟨nf, hnf, hT⟩⟩ := hI
      obtain ⟨hz_k, _⟩ := hz
      obtain ⟨ng, rfl⟩ : ∃ k, nf = k + 1 := ⟨nf - 1, by omega⟩
      replace hT := (fC_weighTrial_c38.eq_1 (fC_weighTrial_L ng) k B).symm.trans ((fC_weighTrial_L38 ng k B).symm.trans hT)
      refine fun v32 gv32 e33 => ?_
      replace hT := qlc e33 hT
      have b34 := ivf_at j1 4 rfl
      refine And.intro (fun h35 => ?_) (fun h35 => ?_)
      · replace hT := (if_neg (Int.not_lt.mpr h35)).symm.trans hT
        exact hK _ i1 j1 f1 hT
      · replace hT := (if_pos h35).symm.trans hT
        refine And.intro (by (first | (clear hm hnf; omega) | omega)) (fun v36 gv36 e37 => ?_)
        replace hT := qlc e37 hT
        have b38 := iva_at i1 22 rfl (i := k) (by (first | (clear hm hnf; omega) | omega)) (by (first | (clear hm hnf; omega) | omega))
        refine And.intro (by (first | (clear hm hnf; omega) | omega)) (fun v39 gv39 e40 => ?_)
        replace hT := qlc e40 hT
        have b41 := iva_at i1 24 rfl (i := v36) (by (first | (clear hm hnf; omega) | omega)) (by (first | (clear hm hnf; omega) | omega))
        refine And.intro (by (first | (clear hm hnf; omega) | omega)) (fun A42 e43 => ?_)
        replace hT := qlc e43 hT
        have i44 := iva_st i1 e43 (And.intro (by (first | (clear hm hnf; omega) | omega)) trivial)
        have j45 := ivf_sa j1 e43 rfl
        have f46 := frm_s f1 e43 rfl
        refine fun v47 e48 => ?_
        replace hT := qlc e48 hT
        have w49 := wI_rng v47
        have w50 : wI v47 = v47 := wI_id (by (first | (clear hm hnf; omega) | omega))
        exact Exists.intro (4 - ((wI v47)) : Int).toNat (And.intro (by first | exact qtn hm (by (try clear hm hnf); omega) | omega) (And.intro i44 (And.intro j45 (And.intro f46 (And.intro rfl (And.intro (by (first | (clear hm hnf; omega) | omega)) (And.intro (by (first | (clear hm hnf; omega) | omega)) (Exists.intro ng (And.intro (by first | exact qtm hm hnf (by (try clear hm hnf); omega) | omega) hT)))))))))
  · refine And.intro rfl (And.intro (And.intro i0 j0) (fun A1 i2 j3 f4 g5 => ?_))
    replace hT := qlc g5 hT
    have f6 := frm_c f0 f4 rfl
    exact Exists.intro (148 - 0 : Int).toNat (And.intro i2 (And.intro j3 (And.intro f6 (And.intro rfl (And.intro (by (first | (clear hm hnf; omega) | omega)) (And.intro (by (first | (clear hm hnf; omega) | omega)) (Exists.intro 100000 (And.intro (by (first | (clear hm hnf; omega) | omega)) hT))))))))
theorem pC_weighTrial {A : qA} (hA : qokA LC A) (p0 : iva IC A) (p1 : ivf JC A) : qokA LC (fC_weighTrial A) ∧ iva IC (fC_weighTrial A) ∧ ivf JC (fC_weighTrial A) ∧ frm [45, 46, 50, 48] [(44, 10)] A (fC_weighTrial A) := by
  obtain ⟨r, B, hB, _, hk⟩ := okM_ex okC_weighTrial (as := [rf 44]) (K := fun _ B => B = (fC_weighTrial A) ∧ iva IC (fC_weighTrial A) ∧ ivf JC (fC_weighTrial A) ∧ frm [45, 46, 50, 48] [(44, 10)] A (fC_weighTrial A)) hA (qoks_c (show qok (rf _) from trivial) qoks_n) ⟨rfl, ⟨p0, p1⟩, fun A9 i9 j9 f9 x0 => (by rw [← x0]; exact ⟨rfl, i9, j9, f9⟩)⟩
  exact ⟨hk.1 ▸ hB, hk.2⟩
def fC_tryValve4 (p f : Int) (A : qA) : qA := qlet (A 44 (fd 9)) fun v3 => qlet (fC_weighTrial A) fun A7 => A7
def sC_tryValve4 : qS := fun as A K => ∃ p f : Int, as = [rf 44, ni p, ni f] ∧ (iva IC A ∧ ivf JC A ∧ 4 ≤ p ∧ p ≤ 4) ∧ (∀ A' : qA, iva IC A' → ivf JC A' → frm [49, 45, 46, 50, 48] [(44, 10)] A A' → (A' = fC_tryValve4 p f A) → K none A')
theorem okC_tryValve4 : okM LC 6 91 sC_tryValve4 := by
  refine qmeth [] false [(92, sC_weighTrial)] 43 rfl ⟨okC_weighTrial.le (by decide), trivial⟩ ?_
  rintro _ A K hA has ⟨p, f, rfl, ⟨i0, j0, p1, p2⟩, hK⟩
  have rg_p : rng p := has (ni p) (by simp)
  have rg_f : rng f := has (ni f) (by simp)
  have f0 := frm_0 [49, 45, 46, 50, 48] [(44, 10)] A
  have hT : _ = fC_tryValve4 p f A := (fC_tryValve4.eq_1 p f A).symm
  refine ⟨Nat.le_of_ble_eq_true rfl, [], trivial, ?_⟩
  refine fun v3 gv3 e4 => ?_
  replace hT := qlc e4 hT
  have b5 := ivf_at j0 4 rfl
  refine And.intro (fun h6 => ?_) (fun h6 => by exfalso; omega)
  refine And.intro rfl (And.intro (And.intro i0 j0) (fun A7 i8 j9 f10 g11 => ?_))
  replace hT := qlc g11 hT
  have f12 := frm_c f0 f10 rfl
  exact hK _ i8 j9 f12 hT
theorem pC_tryValve4 {p f : Int} {A : qA} (hA : qokA LC A) (rg_f : rng f) (p0 : iva IC A) (p1 : ivf JC A) (p2 : 4 ≤ p) (p3 : p ≤ 4) : qokA LC (fC_tryValve4 p f A) ∧ iva IC (fC_tryValve4 p f A) ∧ ivf JC (fC_tryValve4 p f A) ∧ frm [49, 45, 46, 50, 48] [(44, 10)] A (fC_tryValve4 p f A) := by
  obtain ⟨r, B, hB, _, hk⟩ := okM_ex okC_tryValve4 (as := [rf 44, ni p, ni f]) (K := fun _ B => B = (fC_tryValve4 p f A) ∧ iva IC (fC_tryValve4 p f A) ∧ ivf JC (fC_tryValve4 p f A) ∧ frm [49, 45, 46, 50, 48] [(44, 10)] A (fC_tryValve4 p f A)) hA (qoks_c (show qok (rf _) from trivial) (qoks_c (show rng p from ⟨by (first | (clear hm hnf; omega) | omega), by (first | (clear hm hnf; omega) | omega)⟩) (qoks_c (rg_f) qoks_n))) ⟨p, f, rfl, ⟨p0, p1, p2, p3⟩, fun A9 i9 j9 f9 x0 => (by rw [← x0]; exact ⟨rfl, i9, j9, f9⟩)⟩
  exact ⟨hk.1 ▸ hB, hk.2⟩
def fC_tryValve3_c12 (rec : Nat → List Int → qA → qA) (l1 l2 k : Int) (B : qA) : qA := (if l2 < k then B else (if 9 < k then B else qlet (B 47 l1) fun v16 => qlet (qu B 49 v16 k) fun A19 => qlet (l1 + 1) fun v24 => qlet (l2 - k) fun v26 => qlet (fC_tryValve4 v24 v26 A19) fun A28 => qlet (k + 1) fun v34 => rec 12 [l1, l2, v34] A28))
def fC_tryValve3_L : Nat → Nat → List Int → qA → qA
  | 0 => fun _ _ B => B
  | nF + 1 => fun k zs B => bif Nat.beq k 12 then (match zs with | [l1, l2, k] => fC_tryValve3_c12 (fC_tryValve3_L nF) l1 l2 k B | _ => B) else B
theorem fC_tryValve3_L12 (nF : Nat) (l1 l2 k : Int) (B : qA) : fC_tryValve3_L (nF + 1) 12 [l1, l2, k] B = fC_tryValve3_c12 (fC_tryValve3_L nF) l1 l2 k B := (congrFun (congrFun (congrFun (fC_tryValve3_L.eq_2 nF) 12) [l1, l2, k]) B).trans (qL1 rfl rfl)
def fC_tryValve3 (p f : Int) (A : qA) : qA := qlet (A 44 (fd 9)) fun v3 => (if p < v3 then (fC_tryValve3_L 100000) 12 [p, f, 0] A else qlet (fC_weighTrial A) fun A7 => A7)
def sC_tryValve3 : qS := fun as A K => ∃ p f : Int, as = [rf 44, ni p, ni f] ∧ (iva IC A ∧ ivf JC A ∧ 3 ≤ p ∧ p ≤ 3) ∧ (∀ A' : qA, iva IC A' → ivf JC A' → frm [49, 45, 46, 50, 48] [(44, 10)] A A' → (A' = fC_tryValve3 p f A) → K none A')
theorem okC_tryValve3 : okM LC 7 91 sC_tryValve3 := by
  refine qmeth [] false [(92, sC_weighTrial), (91, sC_tryValve4)] 43 rfl ⟨okC_weighTrial.le (by decide), ⟨okC_tryValve4.le (by decide), trivial⟩⟩ ?_
  rintro _ A K hA has ⟨p, f, rfl, ⟨i0, j0, p1, p2⟩, hK⟩
  have rg_p : rng p := has (ni p) (by simp)
  have rg_f : rng f := has (ni f) (by simp)
  have f0 := frm_0 [49, 45, 46, 50, 48] [(44, 10)] A
  have hT : _ = fC_tryValve3 p f A := (fC_tryValve3.eq_1 p f A).symm
  refine ⟨Nat.le_of_ble_eq_true rfl, [(12, [(0, 2, 44), (1, 0, 0), (2, 0, 0), (3, 0, 0)], fun zs B nn => match zs with | [l1, l2, k] => iva IC B ∧ ivf JC B ∧ frm [49, 45, 46, 50, 48] [(44, 10)] A B ∧ nn = (10 - k : Int).toNat ∧ (l1 = p) ∧ (l2 = f) ∧ (0 ≤ k) ∧ (k ≤ 10) ∧ (∃ nf : Nat, nn < nf ∧ fC_tryValve3_L nf 12 [l1, l2, k] B = fC_tryValve3 p f A) | _ => False)], ?_, ?_⟩
  · refine ⟨⟨rfl, ?_⟩, trivial⟩
    · refine fun l1 l2 k B mm hB hz hI => ?_
      obtain ⟨i1, j1, f1, hm, c0, c1, c2, c3, ⟨nf, hnf, hT⟩⟩ := hI
      obtain ⟨hz_l1, hz_l2, hz_k, _⟩ := hz
      obtain ⟨ng, rfl⟩ : ∃ k, nf = k + 1 := ⟨nf - 1, by omega⟩
      replace hT := (fC_tryValve3_c12.eq_1 (fC_tryValve3_L ng) l1 l2 k B).symm.trans ((fC_tryValve3_L12 ng l1 l2 k B).symm.trans hT)
      refine And.intro (fun h14 => ?_) (fun h14 => ?_)
      · replace hT := (if_pos h14).symm.trans hT
        exact hK _ i1 j1 f1 hT
      · replace hT := (if_neg (Int.not_lt.mpr h14)).symm.trans hT
        refine And.intro (fun h15 => ?_) (fun h15 => ?_)
        · replace hT := (if_pos h15).symm.trans hT
          exact hK _ i1 j1 f1 hT
        · replace hT := (if_neg (Int.not_lt.mpr h15)).symm.trans hT
          refine And.intro (by (first | (clear hm hnf; omega) | omega)) (fun v16 gv16 e17 => ?_)
          replace hT := qlc e17 hT
          have b18 := iva_at i1 22 rfl (i := l1) (by (first | (clear hm hnf; omega) | omega)) (by (first | (clear hm hnf; omega) | omega))
          refine And.intro (by (first | (clear hm hnf; omega) | omega)) (fun A19 e20 => ?_)
          replace hT := qlc e20 hT
          have i21 := iva_st i1 e20 (And.intro (by (first | (clear hm hnf; omega) | omega)) trivial)
          have j22 := ivf_sa j1 e20 rfl
          have f23 := frm_s f1 e20 rfl
          refine fun v24 e25 => ?_
          replace hT := qlc e25 hT
          refine fun v26 e27 => ?_
          replace hT := qlc e27 hT
          refine And.intro (by (first | (clear hm hnf; omega) | omega)) (And.intro (by (first | (clear hm hnf; omega) | omega)) (Exists.intro v24 (Exists.intro v26 (And.intro rfl (And.intro (And.intro i21 (And.intro j22 (And.intro (by (first | (clear hm hnf; omega) | omega)) (by (first | (clear hm hnf; omega) | omega))))) (fun A28 i29 j30 f31 g32 => ?_))))))
          replace hT := qlc g32 hT
          have f33 := frm_c f23 f31 rfl
          refine fun v34 e35 => ?_
          replace hT := qlc e35 hT
          exact And.intro (by (first | (clear hm hnf; omega) | omega)) (Exists.intro (10 - v34 : Int).toNat (And.intro (by first | exact qtn hm (by (try clear hm hnf); omega) | omega) (And.intro i29 (And.intro j30 (And.intro f33 (And.intro rfl (And.intro (by (first | (clear hm hnf; omega) | omega)) (And.intro (by (first | (clear hm hnf; omega) | omega)) (And.intro (by (first | (clear hm hnf; omega) | omega)) (And.intro (by (first | (clear hm hnf; omega) | omega)) (Exists.intro ng (And.intro (by first | exact qtm hm hnf (by (try clear hm hnf); omega) | omega) hT))))))))))))
  · refine fun v3 gv3 e4 => ?_
    replace hT := qlc e4 hT
    have b5 := ivf_at j0 4 rfl
    refine And.intro (fun h6 => ?_) (fun h6 => ?_)
    · replace hT := (if_neg (Int.not_lt.mpr h6)).symm.trans hT
      refine And.intro rfl (And.intro (And.intro i0 j0) (fun A7 i8 j9 f10 g11 => ?_))
      replace hT := qlc g11 hT
      have f12 := frm_c f0 f10 rfl
      exact hK _ i8 j9 f12 hT
    · replace hT := (if_pos h6).symm.trans hT
      refine And.intro (fun h13 => ?_) (fun h13 => by exfalso; omega)
      exact Exists.intro (10 - 0 : Int).toNat (And.intro i0 (And.intro j0 (And.intro f0 (And.intro rfl (And.intro (by (first | (clear hm hnf; omega) | omega)) (And.intro (by (first | (clear hm hnf; omega) | omega)) (And.intro (by (first | (clear hm hnf; omega) | omega)) (And.intro (by (first | (clear hm hnf; omega) | omega)) (Exists.intro 100000 (And.intro (by (first | (clear hm hnf; omega) | omega)) hT))))))))))
theorem pC_tryValve3 {p f : Int} {A : qA} (hA : qokA LC A) (rg_f : rng f) (p0 : iva IC A) (p1 : ivf JC A) (p2 : 3 ≤ p) (p3 : p ≤ 3) : qokA LC (fC_tryValve3 p f A) ∧ iva IC (fC_tryValve3 p f A) ∧ ivf JC (fC_tryValve3 p f A) ∧ frm [49, 45, 46, 50, 48] [(44, 10)] A (fC_tryValve3 p f A) := by
  obtain ⟨r, B, hB, _, hk⟩ := okM_ex okC_tryValve3 (as := [rf 44, ni p, ni f]) (K := fun _ B => B = (fC_tryValve3 p f A) ∧ iva IC (fC_tryValve3 p f A) ∧ ivf JC (fC_tryValve3 p f A) ∧ frm [49, 45, 46, 50, 48] [(44, 10)] A (fC_tryValve3 p f A)) hA (qoks_c (show qok (rf _) from trivial) (qoks_c (show rng p from ⟨by (first | (clear hm hnf; omega) | omega), by (first | (clear hm hnf; omega) | omega)⟩) (qoks_c (rg_f) qoks_n))) ⟨p, f, rfl, ⟨p0, p1, p2, p3⟩, fun A9 i9 j9 f9 x0 => (by rw [← x0]; exact ⟨rfl, i9, j9, f9⟩)⟩
  exact ⟨hk.1 ▸ hB, hk.2⟩
def fC_tryValve2_c12 (rec : Nat → List Int → qA → qA) (l1 l2 k : Int) (B : qA) : qA := (if l2 < k then B else (if 9 < k then B else qlet (B 47 l1) fun v16 => qlet (qu B 49 v16 k) fun A19 => qlet (l1 + 1) fun v24 => qlet (l2 - k) fun v26 => qlet (fC_tryValve3 v24 v26 A19) fun A28 => qlet (k + 1) fun v34 => rec 12 [l1, l2, v34] A28))
def fC_tryValve2_L : Nat → Nat → List Int → qA → qA
  | 0 => fun _ _ B => B
  | nF + 1 => fun k zs B => bif Nat.beq k 12 then (match zs with | [l1, l2, k] => fC_tryValve2_c12 (fC_tryValve2_L nF) l1 l2 k B | _ => B) else B
theorem fC_tryValve2_L12 (nF : Nat) (l1 l2 k : Int) (B : qA) : fC_tryValve2_L (nF + 1) 12 [l1, l2, k] B = fC_tryValve2_c12 (fC_tryValve2_L nF) l1 l2 k B := (congrFun (congrFun (congrFun (fC_tryValve2_L.eq_2 nF) 12) [l1, l2, k]) B).trans (qL1 rfl rfl)
def fC_tryValve2 (p f : Int) (A : qA) : qA := qlet (A 44 (fd 9)) fun v3 => (if p < v3 then (fC_tryValve2_L 100000) 12 [p, f, 0] A else qlet (fC_weighTrial A) fun A7 => A7)
def sC_tryValve2 : qS := fun as A K => ∃ p f : Int, as = [rf 44, ni p, ni f] ∧ (iva IC A ∧ ivf JC A ∧ 2 ≤ p ∧ p ≤ 2) ∧ (∀ A' : qA, iva IC A' → ivf JC A' → frm [49, 45, 46, 50, 48] [(44, 10)] A A' → (A' = fC_tryValve2 p f A) → K none A')
theorem okC_tryValve2 : okM LC 8 91 sC_tryValve2 := by
  refine qmeth [] false [(92, sC_weighTrial), (91, sC_tryValve3)] 43 rfl ⟨okC_weighTrial.le (by decide), ⟨okC_tryValve3.le (by decide), trivial⟩⟩ ?_
  rintro _ A K hA has ⟨p, f, rfl, ⟨i0, j0, p1, p2⟩, hK⟩
  have rg_p : rng p := has (ni p) (by simp)
  have rg_f : rng f := has (ni f) (by simp)
  have f0 := frm_0 [49, 45, 46, 50, 48] [(44, 10)] A
  have hT : _ = fC_tryValve2 p f A := (fC_tryValve2.eq_1 p f A).symm
  refine ⟨Nat.le_of_ble_eq_true rfl, [(12, [(0, 2, 44), (1, 0, 0), (2, 0, 0), (3, 0, 0)], fun zs B nn => match zs with | [l1, l2, k] => iva IC B ∧ ivf JC B ∧ frm [49, 45, 46, 50, 48] [(44, 10)] A B ∧ nn = (10 - k : Int).toNat ∧ (l1 = p) ∧ (l2 = f) ∧ (0 ≤ k) ∧ (k ≤ 10) ∧ (∃ nf : Nat, nn < nf ∧ fC_tryValve2_L nf 12 [l1, l2, k] B = fC_tryValve2 p f A) | _ => False)], ?_, ?_⟩
  · refine ⟨⟨rfl, ?_⟩, trivial⟩
    · refine fun l1 l2 k B mm hB hz hI => ?_
      obtain ⟨i1, j1, f1, hm, c0, c1, c2, c3, ⟨nf, hnf, hT⟩⟩ := hI
      obtain ⟨hz_l1, hz_l2, hz_k, _⟩ := hz
      obtain ⟨ng, rfl⟩ : ∃ k, nf = k + 1 := ⟨nf - 1, by omega⟩
      replace hT := (fC_tryValve2_c12.eq_1 (fC_tryValve2_L ng) l1 l2 k B).symm.trans ((fC_tryValve2_L12 ng l1 l2 k B).symm.trans hT)
      refine And.intro (fun h14 => ?_) (fun h14 => ?_)
      · replace hT := (if_pos h14).symm.trans hT
        exact hK _ i1 j1 f1 hT
      · replace hT := (if_neg (Int.not_lt.mpr h14)).symm.trans hT
        refine And.intro (fun h15 => ?_) (fun h15 => ?_)
        · replace hT := (if_pos h15).symm.trans hT
          exact hK _ i1 j1 f1 hT
        · replace hT := (if_neg (Int.not_lt.mpr h15)).symm.trans hT
          refine And.intro (by (first | (clear hm hnf; omega) | omega)) (fun v16 gv16 e17 => ?_)
          replace hT := qlc e17 hT
          have b18 := iva_at i1 22 rfl (i := l1) (by (first | (clear hm hnf; omega) | omega)) (by (first | (clear hm hnf; omega) | omega))
          refine And.intro (by (first | (clear hm hnf; omega) | omega)) (fun A19 e20 => ?_)
          replace hT := qlc e20 hT
          have i21 := iva_st i1 e20 (And.intro (by (first | (clear hm hnf; omega) | omega)) trivial)
          have j22 := ivf_sa j1 e20 rfl
          have f23 := frm_s f1 e20 rfl
          refine fun v24 e25 => ?_
          replace hT := qlc e25 hT
          refine fun v26 e27 => ?_
          replace hT := qlc e27 hT
          refine And.intro (by (first | (clear hm hnf; omega) | omega)) (And.intro (by (first | (clear hm hnf; omega) | omega)) (Exists.intro v24 (Exists.intro v26 (And.intro rfl (And.intro (And.intro i21 (And.intro j22 (And.intro (by (first | (clear hm hnf; omega) | omega)) (by (first | (clear hm hnf; omega) | omega))))) (fun A28 i29 j30 f31 g32 => ?_))))))
          replace hT := qlc g32 hT
          have f33 := frm_c f23 f31 rfl
          refine fun v34 e35 => ?_
          replace hT := qlc e35 hT
          exact And.intro (by (first | (clear hm hnf; omega) | omega)) (Exists.intro (10 - v34 : Int).toNat (And.intro (by first | exact qtn hm (by (try clear hm hnf); omega) | omega) (And.intro i29 (And.intro j30 (And.intro f33 (And.intro rfl (And.intro (by (first | (clear hm hnf; omega) | omega)) (And.intro (by (first | (clear hm hnf; omega) | omega)) (And.intro (by (first | (clear hm hnf; omega) | omega)) (And.intro (by (first | (clear hm hnf; omega) | omega)) (Exists.intro ng (And.intro (by first | exact qtm hm hnf (by (try clear hm hnf); omega) | omega) hT))))))))))))
  · refine fun v3 gv3 e4 => ?_
    replace hT := qlc e4 hT
    have b5 := ivf_at j0 4 rfl
    refine And.intro (fun h6 => ?_) (fun h6 => ?_)
    · replace hT := (if_neg (Int.not_lt.mpr h6)).symm.trans hT
      refine And.intro rfl (And.intro (And.intro i0 j0) (fun A7 i8 j9 f10 g11 => ?_))
      replace hT := qlc g11 hT
      have f12 := frm_c f0 f10 rfl
      exact hK _ i8 j9 f12 hT
    · replace hT := (if_pos h6).symm.trans hT
      refine And.intro (fun h13 => ?_) (fun h13 => by exfalso; omega)
      exact Exists.intro (10 - 0 : Int).toNat (And.intro i0 (And.intro j0 (And.intro f0 (And.intro rfl (And.intro (by (first | (clear hm hnf; omega) | omega)) (And.intro (by (first | (clear hm hnf; omega) | omega)) (And.intro (by (first | (clear hm hnf; omega) | omega)) (And.intro (by (first | (clear hm hnf; omega) | omega)) (Exists.intro 100000 (And.intro (by (first | (clear hm hnf; omega) | omega)) hT))))))))))
theorem pC_tryValve2 {p f : Int} {A : qA} (hA : qokA LC A) (rg_f : rng f) (p0 : iva IC A) (p1 : ivf JC A) (p2 : 2 ≤ p) (p3 : p ≤ 2) : qokA LC (fC_tryValve2 p f A) ∧ iva IC (fC_tryValve2 p f A) ∧ ivf JC (fC_tryValve2 p f A) ∧ frm [49, 45, 46, 50, 48] [(44, 10)] A (fC_tryValve2 p f A) := by
  obtain ⟨r, B, hB, _, hk⟩ := okM_ex okC_tryValve2 (as := [rf 44, ni p, ni f]) (K := fun _ B => B = (fC_tryValve2 p f A) ∧ iva IC (fC_tryValve2 p f A) ∧ ivf JC (fC_tryValve2 p f A) ∧ frm [49, 45, 46, 50, 48] [(44, 10)] A (fC_tryValve2 p f A)) hA (qoks_c (show qok (rf _) from trivial) (qoks_c (show rng p from ⟨by (first | (clear hm hnf; omega) | omega), by (first | (clear hm hnf; omega) | omega)⟩) (qoks_c (rg_f) qoks_n))) ⟨p, f, rfl, ⟨p0, p1, p2, p3⟩, fun A9 i9 j9 f9 x0 => (by rw [← x0]; exact ⟨rfl, i9, j9, f9⟩)⟩
  exact ⟨hk.1 ▸ hB, hk.2⟩
def fC_tryValve1_c12 (rec : Nat → List Int → qA → qA) (l1 l2 k : Int) (B : qA) : qA := (if l2 < k then B else (if 9 < k then B else qlet (B 47 l1) fun v16 => qlet (qu B 49 v16 k) fun A19 => qlet (l1 + 1) fun v24 => qlet (l2 - k) fun v26 => qlet (fC_tryValve2 v24 v26 A19) fun A28 => qlet (k + 1) fun v34 => rec 12 [l1, l2, v34] A28))
def fC_tryValve1_L : Nat → Nat → List Int → qA → qA
  | 0 => fun _ _ B => B
  | nF + 1 => fun k zs B => bif Nat.beq k 12 then (match zs with | [l1, l2, k] => fC_tryValve1_c12 (fC_tryValve1_L nF) l1 l2 k B | _ => B) else B
theorem fC_tryValve1_L12 (nF : Nat) (l1 l2 k : Int) (B : qA) : fC_tryValve1_L (nF + 1) 12 [l1, l2, k] B = fC_tryValve1_c12 (fC_tryValve1_L nF) l1 l2 k B := (congrFun (congrFun (congrFun (fC_tryValve1_L.eq_2 nF) 12) [l1, l2, k]) B).trans (qL1 rfl rfl)
def fC_tryValve1 (p f : Int) (A : qA) : qA := qlet (A 44 (fd 9)) fun v3 => (if p < v3 then (fC_tryValve1_L 100000) 12 [p, f, 0] A else qlet (fC_weighTrial A) fun A7 => A7)
def sC_tryValve1 : qS := fun as A K => ∃ p f : Int, as = [rf 44, ni p, ni f] ∧ (iva IC A ∧ ivf JC A ∧ 1 ≤ p ∧ p ≤ 1) ∧ (∀ A' : qA, iva IC A' → ivf JC A' → frm [49, 45, 46, 50, 48] [(44, 10)] A A' → (A' = fC_tryValve1 p f A) → K none A')
theorem okC_tryValve1 : okM LC 9 91 sC_tryValve1 := by
  refine qmeth [] false [(92, sC_weighTrial), (91, sC_tryValve2)] 43 rfl ⟨okC_weighTrial.le (by decide), ⟨okC_tryValve2.le (by decide), trivial⟩⟩ ?_
  rintro _ A K hA has ⟨p, f, rfl, ⟨i0, j0, p1, p2⟩, hK⟩
  have rg_p : rng p := has (ni p) (by simp)
  have rg_f : rng f := has (ni f) (by simp)
  have f0 := frm_0 [49, 45, 46, 50, 48] [(44, 10)] A
  have hT : _ = fC_tryValve1 p f A := (fC_tryValve1.eq_1 p f A).symm
  refine ⟨Nat.le_of_ble_eq_true rfl, [(12, [(0, 2, 44), (1, 0, 0), (2, 0, 0), (3, 0, 0)], fun zs B nn => match zs with | [l1, l2, k] => iva IC B ∧ ivf JC B ∧ frm [49, 45, 46, 50, 48] [(44, 10)] A B ∧ nn = (10 - k : Int).toNat ∧ (l1 = p) ∧ (l2 = f) ∧ (0 ≤ k) ∧ (k ≤ 10) ∧ (∃ nf : Nat, nn < nf ∧ fC_tryValve1_L nf 12 [l1, l2, k] B = fC_tryValve1 p f A) | _ => False)], ?_, ?_⟩
  · refine ⟨⟨rfl, ?_⟩, trivial⟩
    · refine fun l1 l2 k B mm hB hz hI => ?_
      obtain ⟨i1, j1, f1, hm, c0, c1, c2, c3, ⟨nf, hnf, hT⟩⟩ := hI
      obtain ⟨hz_l1, hz_l2, hz_k, _⟩ := hz
      obtain ⟨ng, rfl⟩ : ∃ k, nf = k + 1 := ⟨nf - 1, by omega⟩
      replace hT := (fC_tryValve1_c12.eq_1 (fC_tryValve1_L ng) l1 l2 k B).symm.trans ((fC_tryValve1_L12 ng l1 l2 k B).symm.trans hT)
      refine And.intro (fun h14 => ?_) (fun h14 => ?_)
      · replace hT := (if_pos h14).symm.trans hT
        exact hK _ i1 j1 f1 hT
      · replace hT := (if_neg (Int.not_lt.mpr h14)).symm.trans hT
        refine And.intro (fun h15 => ?_) (fun h15 => ?_)
        · replace hT := (if_pos h15).symm.trans hT
          exact hK _ i1 j1 f1 hT
        · replace hT := (if_neg (Int.not_lt.mpr h15)).symm.trans hT
          refine And.intro (by (first | (clear hm hnf; omega) | omega)) (fun v16 gv16 e17 => ?_)
          replace hT := qlc e17 hT
          have b18 := iva_at i1 22 rfl (i := l1) (by (first | (clear hm hnf; omega) | omega)) (by (first | (clear hm hnf; omega) | omega))
          refine And.intro (by (first | (clear hm hnf; omega) | omega)) (fun A19 e20 => ?_)
          replace hT := qlc e20 hT
          have i21 := iva_st i1 e20 (And.intro (by (first | (clear hm hnf; omega) | omega)) trivial)
          have j22 := ivf_sa j1 e20 rfl
          have f23 := frm_s f1 e20 rfl
          refine fun v24 e25 => ?_
          replace hT := qlc e25 hT
          refine fun v26 e27 => ?_
          replace hT := qlc e27 hT
          refine And.intro (by (first | (clear hm hnf; omega) | omega)) (And.intro (by (first | (clear hm hnf; omega) | omega)) (Exists.intro v24 (Exists.intro v26 (And.intro rfl (And.intro (And.intro i21 (And.intro j22 (And.intro (by (first | (clear hm hnf; omega) | omega)) (by (first | (clear hm hnf; omega) | omega))))) (fun A28 i29 j30 f31 g32 => ?_))))))
          replace hT := qlc g32 hT
          have f33 := frm_c f23 f31 rfl
          refine fun v34 e35 => ?_
          replace hT := qlc e35 hT
          exact And.intro (by (first | (clear hm hnf; omega) | omega)) (Exists.intro (10 - v34 : Int).toNat (And.intro (by first | exact qtn hm (by (try clear hm hnf); omega) | omega) (And.intro i29 (And.intro j30 (And.intro f33 (And.intro rfl (And.intro (by (first | (clear hm hnf; omega) | omega)) (And.intro (by (first | (clear hm hnf; omega) | omega)) (And.intro (by (first | (clear hm hnf; omega) | omega)) (And.intro (by (first | (clear hm hnf; omega) | omega)) (Exists.intro ng (And.intro (by first | exact qtm hm hnf (by (try clear hm hnf); omega) | omega) hT))))))))))))
  · refine fun v3 gv3 e4 => ?_
    replace hT := qlc e4 hT
    have b5 := ivf_at j0 4 rfl
    refine And.intro (fun h6 => ?_) (fun h6 => ?_)
    · replace hT := (if_neg (Int.not_lt.mpr h6)).symm.trans hT
      refine And.intro rfl (And.intro (And.intro i0 j0) (fun A7 i8 j9 f10 g11 => ?_))
      replace hT := qlc g11 hT
      have f12 := frm_c f0 f10 rfl
      exact hK _ i8 j9 f12 hT
    · replace hT := (if_pos h6).symm.trans hT
      refine And.intro (fun h13 => ?_) (fun h13 => by exfalso; omega)
      exact Exists.intro (10 - 0 : Int).toNat (And.intro i0 (And.intro j0 (And.intro f0 (And.intro rfl (And.intro (by (first | (clear hm hnf; omega) | omega)) (And.intro (by (first | (clear hm hnf; omega) | omega)) (And.intro (by (first | (clear hm hnf; omega) | omega)) (And.intro (by (first | (clear hm hnf; omega) | omega)) (Exists.intro 100000 (And.intro (by (first | (clear hm hnf; omega) | omega)) hT))))))))))
theorem pC_tryValve1 {p f : Int} {A : qA} (hA : qokA LC A) (rg_f : rng f) (p0 : iva IC A) (p1 : ivf JC A) (p2 : 1 ≤ p) (p3 : p ≤ 1) : qokA LC (fC_tryValve1 p f A) ∧ iva IC (fC_tryValve1 p f A) ∧ ivf JC (fC_tryValve1 p f A) ∧ frm [49, 45, 46, 50, 48] [(44, 10)] A (fC_tryValve1 p f A) := by
  obtain ⟨r, B, hB, _, hk⟩ := okM_ex okC_tryValve1 (as := [rf 44, ni p, ni f]) (K := fun _ B => B = (fC_tryValve1 p f A) ∧ iva IC (fC_tryValve1 p f A) ∧ ivf JC (fC_tryValve1 p f A) ∧ frm [49, 45, 46, 50, 48] [(44, 10)] A (fC_tryValve1 p f A)) hA (qoks_c (show qok (rf _) from trivial) (qoks_c (show rng p from ⟨by (first | (clear hm hnf; omega) | omega), by (first | (clear hm hnf; omega) | omega)⟩) (qoks_c (rg_f) qoks_n))) ⟨p, f, rfl, ⟨p0, p1, p2, p3⟩, fun A9 i9 j9 f9 x0 => (by rw [← x0]; exact ⟨rfl, i9, j9, f9⟩)⟩
  exact ⟨hk.1 ▸ hB, hk.2⟩
def fC_tryValve0_c12 (rec : Nat → List Int → qA → qA) (l1 l2 k : Int) (B : qA) : qA := (if l2 < k then B else (if 9 < k then B else qlet (B 47 l1) fun v16 => qlet (qu B 49 v16 k) fun A19 => qlet (l1 + 1) fun v24 => qlet (l2 - k) fun v26 => qlet (fC_tryValve1 v24 v26 A19) fun A28 => qlet (k + 1) fun v34 => rec 12 [l1, l2, v34] A28))
def fC_tryValve0_L : Nat → Nat → List Int → qA → qA
  | 0 => fun _ _ B => B
  | nF + 1 => fun k zs B => bif Nat.beq k 12 then (match zs with | [l1, l2, k] => fC_tryValve0_c12 (fC_tryValve0_L nF) l1 l2 k B | _ => B) else B
theorem fC_tryValve0_L12 (nF : Nat) (l1 l2 k : Int) (B : qA) : fC_tryValve0_L (nF + 1) 12 [l1, l2, k] B = fC_tryValve0_c12 (fC_tryValve0_L nF) l1 l2 k B := (congrFun (congrFun (congrFun (fC_tryValve0_L.eq_2 nF) 12) [l1, l2, k]) B).trans (qL1 rfl rfl)
def fC_tryValve0 (p f : Int) (A : qA) : qA := qlet (A 44 (fd 9)) fun v3 => (if p < v3 then (fC_tryValve0_L 100000) 12 [p, f, 0] A else qlet (fC_weighTrial A) fun A7 => A7)
def sC_tryValve0 : qS := fun as A K => ∃ p f : Int, as = [rf 44, ni p, ni f] ∧ (iva IC A ∧ ivf JC A ∧ 0 ≤ p ∧ p ≤ 0) ∧ (∀ A' : qA, iva IC A' → ivf JC A' → frm [49, 45, 46, 50, 48] [(44, 10)] A A' → (A' = fC_tryValve0 p f A) → K none A')
theorem okC_tryValve0 : okM LC 10 91 sC_tryValve0 := by
  refine qmeth [] false [(92, sC_weighTrial), (91, sC_tryValve1)] 43 rfl ⟨okC_weighTrial.le (by decide), ⟨okC_tryValve1.le (by decide), trivial⟩⟩ ?_
  rintro _ A K hA has ⟨p, f, rfl, ⟨i0, j0, p1, p2⟩, hK⟩
  have rg_p : rng p := has (ni p) (by simp)
  have rg_f : rng f := has (ni f) (by simp)
  have f0 := frm_0 [49, 45, 46, 50, 48] [(44, 10)] A
  have hT : _ = fC_tryValve0 p f A := (fC_tryValve0.eq_1 p f A).symm
  refine ⟨Nat.le_of_ble_eq_true rfl, [(12, [(0, 2, 44), (1, 0, 0), (2, 0, 0), (3, 0, 0)], fun zs B nn => match zs with | [l1, l2, k] => iva IC B ∧ ivf JC B ∧ frm [49, 45, 46, 50, 48] [(44, 10)] A B ∧ nn = (10 - k : Int).toNat ∧ (l1 = p) ∧ (l2 = f) ∧ (0 ≤ k) ∧ (k ≤ 10) ∧ (∃ nf : Nat, nn < nf ∧ fC_tryValve0_L nf 12 [l1, l2, k] B = fC_tryValve0 p f A) | _ => False)], ?_, ?_⟩
  · refine ⟨⟨rfl, ?_⟩, trivial⟩
    · refine fun l1 l2 k B mm hB hz hI => ?_
      obtain ⟨i1, j1, f1, hm, c0, c1, c2, c3, ⟨nf, hnf, hT⟩⟩ := hI
      obtain ⟨hz_l1, hz_l2, hz_k, _⟩ := hz
      obtain ⟨ng, rfl⟩ : ∃ k, nf = k + 1 := ⟨nf - 1, by omega⟩
      replace hT := (fC_tryValve0_c12.eq_1 (fC_tryValve0_L ng) l1 l2 k B).symm.trans ((fC_tryValve0_L12 ng l1 l2 k B).symm.trans hT)
      refine And.intro (fun h14 => ?_) (fun h14 => ?_)
      · replace hT := (if_pos h14).symm.trans hT
        exact hK _ i1 j1 f1 hT
      · replace hT := (if_neg (Int.not_lt.mpr h14)).symm.trans hT
        refine And.intro (fun h15 => ?_) (fun h15 => ?_)
        · replace hT := (if_pos h15).symm.trans hT
          exact hK _ i1 j1 f1 hT
        · replace hT := (if_neg (Int.not_lt.mpr h15)).symm.trans hT
          refine And.intro (by (first | (clear hm hnf; omega) | omega)) (fun v16 gv16 e17 => ?_)
          replace hT := qlc e17 hT
          have b18 := iva_at i1 22 rfl (i := l1) (by (first | (clear hm hnf; omega) | omega)) (by (first | (clear hm hnf; omega) | omega))
          refine And.intro (by (first | (clear hm hnf; omega) | omega)) (fun A19 e20 => ?_)
          replace hT := qlc e20 hT
          have i21 := iva_st i1 e20 (And.intro (by (first | (clear hm hnf; omega) | omega)) trivial)
          have j22 := ivf_sa j1 e20 rfl
          have f23 := frm_s f1 e20 rfl
          refine fun v24 e25 => ?_
          replace hT := qlc e25 hT
          refine fun v26 e27 => ?_
          replace hT := qlc e27 hT
          refine And.intro (by (first | (clear hm hnf; omega) | omega)) (And.intro (by (first | (clear hm hnf; omega) | omega)) (Exists.intro v24 (Exists.intro v26 (And.intro rfl (And.intro (And.intro i21 (And.intro j22 (And.intro (by (first | (clear hm hnf; omega) | omega)) (by (first | (clear hm hnf; omega) | omega))))) (fun A28 i29 j30 f31 g32 => ?_))))))
          replace hT := qlc g32 hT
          have f33 := frm_c f23 f31 rfl
          refine fun v34 e35 => ?_
          replace hT := qlc e35 hT
          exact And.intro (by (first | (clear hm hnf; omega) | omega)) (Exists.intro (10 - v34 : Int).toNat (And.intro (by first | exact qtn hm (by (try clear hm hnf); omega) | omega) (And.intro i29 (And.intro j30 (And.intro f33 (And.intro rfl (And.intro (by (first | (clear hm hnf; omega) | omega)) (And.intro (by (first | (clear hm hnf; omega) | omega)) (And.intro (by (first | (clear hm hnf; omega) | omega)) (And.intro (by (first | (clear hm hnf; omega) | omega)) (Exists.intro ng (And.intro (by first | exact qtm hm hnf (by (try clear hm hnf); omega) | omega) hT))))))))))))
  · refine fun v3 gv3 e4 => ?_
    replace hT := qlc e4 hT
    have b5 := ivf_at j0 4 rfl
    refine And.intro (fun h6 => ?_) (fun h6 => ?_)
    · replace hT := (if_neg (Int.not_lt.mpr h6)).symm.trans hT
      refine And.intro rfl (And.intro (And.intro i0 j0) (fun A7 i8 j9 f10 g11 => ?_))
      replace hT := qlc g11 hT
      have f12 := frm_c f0 f10 rfl
      exact hK _ i8 j9 f12 hT
    · replace hT := (if_pos h6).symm.trans hT
      refine And.intro (fun h13 => ?_) (fun h13 => by exfalso; omega)
      exact Exists.intro (10 - 0 : Int).toNat (And.intro i0 (And.intro j0 (And.intro f0 (And.intro rfl (And.intro (by (first | (clear hm hnf; omega) | omega)) (And.intro (by (first | (clear hm hnf; omega) | omega)) (And.intro (by (first | (clear hm hnf; omega) | omega)) (And.intro (by (first | (clear hm hnf; omega) | omega)) (Exists.intro 100000 (And.intro (by (first | (clear hm hnf; omega) | omega)) hT))))))))))
theorem pC_tryValve0 {p f : Int} {A : qA} (hA : qokA LC A) (rg_f : rng f) (p0 : iva IC A) (p1 : ivf JC A) (p2 : 0 ≤ p) (p3 : p ≤ 0) : qokA LC (fC_tryValve0 p f A) ∧ iva IC (fC_tryValve0 p f A) ∧ ivf JC (fC_tryValve0 p f A) ∧ frm [49, 45, 46, 50, 48] [(44, 10)] A (fC_tryValve0 p f A) := by
  obtain ⟨r, B, hB, _, hk⟩ := okM_ex okC_tryValve0 (as := [rf 44, ni p, ni f]) (K := fun _ B => B = (fC_tryValve0 p f A) ∧ iva IC (fC_tryValve0 p f A) ∧ ivf JC (fC_tryValve0 p f A) ∧ frm [49, 45, 46, 50, 48] [(44, 10)] A (fC_tryValve0 p f A)) hA (qoks_c (show qok (rf _) from trivial) (qoks_c (show rng p from ⟨by (first | (clear hm hnf; omega) | omega), by (first | (clear hm hnf; omega) | omega)⟩) (qoks_c (rg_f) qoks_n))) ⟨p, f, rfl, ⟨p0, p1, p2, p3⟩, fun A9 i9 j9 f9 x0 => (by rw [← x0]; exact ⟨rfl, i9, j9, f9⟩)⟩
  exact ⟨hk.1 ▸ hB, hk.2⟩
def fC_share_c5 (rec : Nat → List Int → qA → qA) (l1 l2 k : Int) (B : qA) : qA := (if k < 8 then qlet (qu B 49 k 0) fun A28 => qlet (sr l2 k) fun v33 => qlet (ia v33 1) fun v35 => (if v35 = 0 then qlet (k + 1) fun v39 => rec 5 [l1, l2, v39] A28 else qlet (A28 44 (fd 9)) fun v41 => (if v41 < 4 then qlet (A28 44 (fd 9)) fun v47 => qlet (qu A28 47 v41 k) fun A51 => qlet (A51 44 (fd 9)) fun v56 => qlet (v41 + 1) fun v60 => qlet (qu A51 44 (fd 9) v60) fun A62 => qlet (k + 1) fun v67 => rec 5 [l1, l2, v67] A62 else qlet (k + 1) fun v45 => rec 5 [l1, l2, v45] A28)) else qlet (fC_reckonGrowth l1 B) fun A11 => qlet (qu A11 44 (fd 10) (-1)) fun A17 => qlet (fC_tryValve0 0 l1 A17) fun A22 => A22)
def fC_share_L : Nat → Nat → List Int → qA → qA
  | 0 => fun _ _ B => B
  | nF + 1 => fun k zs B => bif Nat.beq k 5 then (match zs with | [l1, l2, k] => fC_share_c5 (fC_share_L nF) l1 l2 k B | _ => B) else B
theorem fC_share_L5 (nF : Nat) (l1 l2 k : Int) (B : qA) : fC_share_L (nF + 1) 5 [l1, l2, k] B = fC_share_c5 (fC_share_L nF) l1 l2 k B := (congrFun (congrFun (congrFun (fC_share_L.eq_2 nF) 5) [l1, l2, k]) B).trans (qL1 rfl rfl)
def fC_share (d x : Int) (A : qA) : qA := qlet (qu A 44 (fd 9) 0) fun A5 => (fC_share_L 100000) 5 [d, x, 0] A5
def sC_share : qS := fun as A K => ∃ d x : Int, as = [rf 44, ni d, ni x] ∧ (iva IC A ∧ ivf JC A ∧ 0 ≤ d ∧ d ≤ 36 ∧ (LW A) ∧ (KO A)) ∧ (∀ A' : qA, iva IC A' → ivf JC A' → frm [49, 47, 48, 51, 45, 46, 50, 35, 43, 78] [(44, 9), (44, 10), (36, 9), (71, 9)] A A' → (A' = fC_share d x A) → K none A')
theorem okC_share : okM LC 11 89 sC_share := by
  refine qmeth [] false [(90, sC_reckonGrowth), (91, sC_tryValve0)] 54 rfl ⟨okC_reckonGrowth.le (by decide), ⟨okC_tryValve0.le (by decide), trivial⟩⟩ ?_
  rintro _ A K hA has ⟨d, x, rfl, ⟨i0, j0, p1, p2, p3, p4⟩, hK⟩
  have rg_d : rng d := has (ni d) (by simp)
  have rg_x : rng x := has (ni x) (by simp)
  have f0 := frm_0 [49, 47, 48, 51, 45, 46, 50, 35, 43, 78] [(44, 9), (44, 10), (36, 9), (71, 9)] A
  have hT : _ = fC_share d x A := (fC_share.eq_1 d x A).symm
  refine ⟨Nat.le_of_ble_eq_true rfl, [(5, [(0, 2, 44), (1, 0, 0), (2, 0, 0), (3, 0, 0)], fun zs B nn => match zs with | [l1, l2, k] => iva IC B ∧ ivf JC B ∧ frm [49, 47, 48, 51, 45, 46, 50, 35, 43, 78] [(44, 9), (44, 10), (36, 9), (71, 9)] A B ∧ nn = (8 - k : Int).toNat ∧ (l1 = d) ∧ (l2 = x) ∧ (0 ≤ k) ∧ (k ≤ 8) ∧ (∃ nf : Nat, nn < nf ∧ fC_share_L nf 5 [l1, l2, k] B = fC_share d x A) | _ => False)], ?_, ?_⟩
  · refine ⟨⟨rfl, ?_⟩, trivial⟩
    · refine fun l1 l2 k B mm hB hz hI => ?_
      obtain ⟨i1, j1, f1, hm, c0, c1, c2, c3, ⟨nf, hnf, hT⟩⟩ := hI
      obtain ⟨hz_l1, hz_l2, hz_k, _⟩ := hz
      obtain ⟨ng, rfl⟩ : ∃ k, nf = k + 1 := ⟨nf - 1, by omega⟩
      replace hT := (fC_share_c5.eq_1 (fC_share_L ng) l1 l2 k B).symm.trans ((fC_share_L5 ng l1 l2 k B).symm.trans hT)
      refine And.intro (fun h10 => ?_) (fun h10 => ?_)
      · replace hT := (if_neg (Int.not_lt.mpr h10)).symm.trans hT
        refine Exists.intro l1 (And.intro rfl (And.intro (And.intro i1 (And.intro j1 (And.intro (by (first | (clear hm hnf; omega) | omega)) (And.intro (by (first | (clear hm hnf; omega) | omega)) (And.intro (LW_fr p3 f1 rfl) (KO_fr p4 f1 rfl)))))) (fun A11 i12 j13 f14 g15 => ?_)))
        replace hT := qlc g15 hT
        have f16 := frm_c f1 f14 rfl
        refine fun A17 e18 => ?_
        replace hT := qlc e18 hT
        have i19 := iva_sf i12 e18 rfl
        have j20 := ivf_st j13 e18 trivial
        have f21 := frm_sf f16 e18 rfl
        refine Exists.intro 0 (Exists.intro l1 (And.intro rfl (And.intro (And.intro i19 (And.intro j20 (And.intro (by (first | (clear hm hnf; omega) | omega)) (by (first | (clear hm hnf; omega) | omega))))) (fun A22 i23 j24 f25 g26 => ?_))))
        replace hT := qlc g26 hT
        have f27 := frm_c f21 f25 rfl
        exact hK _ i23 j24 f27 hT
      · replace hT := (if_pos h10).symm.trans hT
        refine And.intro (by (first | (clear hm hnf; omega) | omega)) (fun A28 e29 => ?_)
        replace hT := qlc e29 hT
        have i30 := iva_st i1 e29 (And.intro (by (first | (clear hm hnf; omega) | omega)) trivial)
        have j31 := ivf_sa j1 e29 rfl
        have f32 := frm_s f1 e29 rfl
        refine fun v33 e34 => ?_
        replace hT := qlc e34 hT
        refine fun v35 e36 => ?_
        replace hT := qlc e36 hT
        have h37 := ia_bd (a := v33) (b := 1) (by (first | (clear hm hnf; omega) | omega)) (by (first | (clear hm hnf; omega) | omega))
        refine And.intro (fun h38 => ?_) (fun h38 => ?_)
        · replace hT := (if_pos h38).symm.trans hT
          refine fun v39 e40 => ?_
          replace hT := qlc e40 hT
          exact And.intro (by (first | (clear hm hnf; omega) | omega)) (Exists.intro (8 - v39 : Int).toNat (And.intro (by first | exact qtn hm (by (try clear hm hnf); omega) | omega) (And.intro i30 (And.intro j31 (And.intro f32 (And.intro rfl (And.intro (by (first | (clear hm hnf; omega) | omega)) (And.intro (by (first | (clear hm hnf; omega) | omega)) (And.intro (by (first | (clear hm hnf; omega) | omega)) (And.intro (by (first | (clear hm hnf; omega) | omega)) (Exists.intro ng (And.intro (by first | exact qtm hm hnf (by (try clear hm hnf); omega) | omega) hT))))))))))))
        · replace hT := (if_neg h38).symm.trans hT
          refine fun v41 gv41 e42 => ?_
          replace hT := qlc e42 hT
          have b43 := ivf_at j31 4 rfl
          refine And.intro (fun h44 => ?_) (fun h44 => ?_)
          · replace hT := (if_neg (Int.not_lt.mpr h44)).symm.trans hT
            refine fun v45 e46 => ?_
            replace hT := qlc e46 hT
            exact And.intro (by (first | (clear hm hnf; omega) | omega)) (Exists.intro (8 - v45 : Int).toNat (And.intro (by first | exact qtn hm (by (try clear hm hnf); omega) | omega) (And.intro i30 (And.intro j31 (And.intro f32 (And.intro rfl (And.intro (by (first | (clear hm hnf; omega) | omega)) (And.intro (by (first | (clear hm hnf; omega) | omega)) (And.intro (by (first | (clear hm hnf; omega) | omega)) (And.intro (by (first | (clear hm hnf; omega) | omega)) (Exists.intro ng (And.intro (by first | exact qtm hm hnf (by (try clear hm hnf); omega) | omega) hT))))))))))))
          · replace hT := (if_pos h44).symm.trans hT
            refine fun v47 gv47 e48 => ?_
            replace hT := qlc e48 hT
            have b49 := ivf_at j31 4 rfl
            have q50 : v41 = v47 := (e48.trans e42.symm).symm
            subst q50
            refine And.intro (by (first | (clear hm hnf; omega) | omega)) (fun A51 e52 => ?_)
            replace hT := qlc e52 hT
            have i53 := iva_st i30 e52 (And.intro (by (first | (clear hm hnf; omega) | omega)) trivial)
            have j54 := ivf_sa j31 e52 rfl
            have f55 := frm_s f32 e52 rfl
            refine fun v56 gv56 e57 => ?_
            replace hT := qlc e57 hT
            have b58 := ivf_at j54 4 rfl
            have q59 : v41 = v56 := (e57.trans ((congrFun (st_a e52 rfl) _).trans e48.symm)).symm
            subst q59
            refine fun v60 e61 => ?_
            replace hT := qlc e61 hT
            refine And.intro (by (first | (clear hm hnf; omega) | omega)) (fun A62 e63 => ?_)
            replace hT := qlc e63 hT
            have i64 := iva_sf i53 e63 rfl
            have j65 := ivf_st j54 e63 (And.intro (by (first | (clear hm hnf; omega) | omega)) trivial)
            have f66 := frm_sf f55 e63 rfl
            refine fun v67 e68 => ?_
            replace hT := qlc e68 hT
            exact And.intro (by (first | (clear hm hnf; omega) | omega)) (Exists.intro (8 - v67 : Int).toNat (And.intro (by first | exact qtn hm (by (try clear hm hnf); omega) | omega) (And.intro i64 (And.intro j65 (And.intro f66 (And.intro rfl (And.intro (by (first | (clear hm hnf; omega) | omega)) (And.intro (by (first | (clear hm hnf; omega) | omega)) (And.intro (by (first | (clear hm hnf; omega) | omega)) (And.intro (by (first | (clear hm hnf; omega) | omega)) (Exists.intro ng (And.intro (by first | exact qtm hm hnf (by (try clear hm hnf); omega) | omega) hT))))))))))))
  · refine fun A5 e6 => ?_
    replace hT := qlc e6 hT
    have i7 := iva_sf i0 e6 rfl
    have j8 := ivf_st j0 e6 (And.intro (by (first | (clear hm hnf; omega) | omega)) trivial)
    have f9 := frm_sf f0 e6 rfl
    exact Exists.intro (8 - 0 : Int).toNat (And.intro i7 (And.intro j8 (And.intro f9 (And.intro rfl (And.intro (by (first | (clear hm hnf; omega) | omega)) (And.intro (by (first | (clear hm hnf; omega) | omega)) (And.intro (by (first | (clear hm hnf; omega) | omega)) (And.intro (by (first | (clear hm hnf; omega) | omega)) (Exists.intro 100000 (And.intro (by (first | (clear hm hnf; omega) | omega)) hT))))))))))
theorem pC_share {d x : Int} {A : qA} (hA : qokA LC A) (rg_x : rng x) (p0 : iva IC A) (p1 : ivf JC A) (p2 : 0 ≤ d) (p3 : d ≤ 36) (p4 : LW A) (p5 : KO A) : qokA LC (fC_share d x A) ∧ iva IC (fC_share d x A) ∧ ivf JC (fC_share d x A) ∧ frm [49, 47, 48, 51, 45, 46, 50, 35, 43, 78] [(44, 9), (44, 10), (36, 9), (71, 9)] A (fC_share d x A) := by
  obtain ⟨r, B, hB, _, hk⟩ := okM_ex okC_share (as := [rf 44, ni d, ni x]) (K := fun _ B => B = (fC_share d x A) ∧ iva IC (fC_share d x A) ∧ ivf JC (fC_share d x A) ∧ frm [49, 47, 48, 51, 45, 46, 50, 35, 43, 78] [(44, 9), (44, 10), (36, 9), (71, 9)] A (fC_share d x A)) hA (qoks_c (show qok (rf _) from trivial) (qoks_c (show rng d from ⟨by (first | (clear hm hnf; omega) | omega), by (first | (clear hm hnf; omega) | omega)⟩) (qoks_c (rg_x) qoks_n))) ⟨d, x, rfl, ⟨p0, p1, p2, p3, p4, p5⟩, fun A9 i9 j9 f9 x0 => (by rw [← x0]; exact ⟨rfl, i9, j9, f9⟩)⟩
  exact ⟨hk.1 ▸ hB, hk.2⟩
def fC_dropsAt (p : Int) (A : qA) : Int := (if 0 ≤ p ∧ p ≤ 3 then qlet (A 48 p) fun v3 => v3 else (-1))
def sC_dropsAt : qS := fun as A K => ∃ p : Int, as = [rf 44, ni p] ∧ (iva IC A ∧ ivf JC A) ∧ (∀ r : Int, (-1) ≤ r → r ≤ 99 → (r = fC_dropsAt p A) → K (some (ni r)) A)
theorem okC_dropsAt : okM LC 2 93 sC_dropsAt := by
  refine qmeth [] false [(138, sC_within)] 17 rfl ⟨okC_within.le (by decide), trivial⟩ ?_
  rintro _ A K hA has ⟨p, rfl, ⟨i0, j0⟩, hK⟩
  have rg_p : rng p := has (ni p) (by simp)
  have f0 := frm_0 [] [] A
  have hT : _ = fC_dropsAt p A := (fC_dropsAt.eq_1 p A).symm
  refine ⟨Nat.le_of_ble_eq_true rfl, [], trivial, ?_⟩
  refine Exists.intro p (Exists.intro 3 (And.intro rfl (And.intro (fun h1 => ?_) (fun h1 => ?_))))
  · replace hT := (if_pos h1).symm.trans hT
    refine And.intro (fun h2 => by exfalso; omega) (fun h2 => ?_)
    refine And.intro (by (first | (clear hm hnf; omega) | omega)) (fun v3 gv3 e4 => ?_)
    replace hT := qlc e4 hT
    have b5 := iva_at i0 23 rfl (i := p) (by (first | (clear hm hnf; omega) | omega)) (by (first | (clear hm hnf; omega) | omega))
    exact hK _ (by (first | (clear hm hnf; omega) | omega)) (by (first | (clear hm hnf; omega) | omega)) hT
  · replace hT := (if_neg h1).symm.trans hT
    refine And.intro (fun h6 => ?_) (fun h6 => by exfalso; omega)
    exact hK _ (by (first | (clear hm hnf; omega) | omega)) (by (first | (clear hm hnf; omega) | omega)) hT
theorem pC_dropsAt {p : Int} {A : qA} (hA : qokA LC A) (rg_p : rng p) (p0 : iva IC A) (p1 : ivf JC A) : ((-1) ≤ (fC_dropsAt p A) ∧ (fC_dropsAt p A) ≤ 99) := by
  obtain ⟨r, B, hB, _, hk⟩ := okM_ex okC_dropsAt (as := [rf 44, ni p]) (K := fun _ B => B = A ∧ ((-1) ≤ (fC_dropsAt p A) ∧ (fC_dropsAt p A) ≤ 99)) hA (qoks_c (show qok (rf _) from trivial) (qoks_c (rg_p) qoks_n)) ⟨p, rfl, ⟨p0, p1⟩, fun r9 g8 g9 x0 => (by rw [← x0]; exact ⟨rfl, ⟨g8, g9⟩⟩)⟩
  exact hk.2
def fC_arrive (c t y to b : Int) (A : qA) : qA := (if t = 0 then qlet (sr b c) fun v50 => qlet (ia v50 1) fun v52 => (if v52 = 0 then qlet (c * 3) fun v57 => qlet (v57 + t) fun v59 => qlet (A 69 v59) fun v61 => qlet (v61 + y) fun v63 => qlet (qu A 69 v59 (wI v63)) fun A65 => A65 else (if c = to then qlet (c * 3) fun v87 => qlet (v87 + 2) fun v89 => qlet (A 69 v89) fun v91 => qlet (v91 + y) fun v93 => qlet (qu A 69 v89 (wI v93)) fun A95 => A95 else qlet (c * 3) fun v73 => qlet (v73 + 1) fun v75 => qlet (A 69 v75) fun v77 => qlet (v77 + y) fun v79 => qlet (qu A 69 v75 (wI v79)) fun A81 => A81)) else (if t = 1 then (if c = to then qlet (c * 3) fun v36 => qlet (v36 + 2) fun v38 => qlet (A 69 v38) fun v40 => qlet (v40 + y) fun v42 => qlet (qu A 69 v38 (wI v42)) fun A44 => A44 else qlet (c * 3) fun v22 => qlet (v22 + t) fun v24 => qlet (A 69 v24) fun v26 => qlet (v26 + y) fun v28 => qlet (qu A 69 v24 (wI v28)) fun A30 => A30) else qlet (c * 3) fun v7 => qlet (v7 + t) fun v9 => qlet (A 69 v9) fun v11 => qlet (v11 + y) fun v13 => qlet (qu A 69 v9 (wI v13)) fun A15 => A15))
def sC_arrive : qS := fun as A K => ∃ c t y to b : Int, as = [rf 68, ni c, ni t, ni y, ni to, ni b] ∧ (iva IC A ∧ ivf JC A ∧ 0 ≤ c ∧ c ≤ 7 ∧ 0 ≤ t ∧ t ≤ 2) ∧ (∀ A' : qA, iva IC A' → ivf JC A' → frm [69] [] A A' → (A' = fC_arrive c t y to b A) → K none A')
theorem okC_arrive : okM LC 1 81 sC_arrive := by
  refine qmeth [] true [] 39 rfl trivial ?_
  rintro _ A K hA has ⟨c, t, y, to, b, rfl, ⟨i0, j0, p1, p2, p3, p4⟩, hK⟩
  have rg_c : rng c := has (ni c) (by simp)
  have rg_t : rng t := has (ni t) (by simp)
  have rg_y : rng y := has (ni y) (by simp)
  have rg_to : rng to := has (ni to) (by simp)
  have rg_b : rng b := has (ni b) (by simp)
  have f0 := frm_0 [69] [] A
  have hT : _ = fC_arrive c t y to b A := (fC_arrive.eq_1 c t y to b A).symm
  refine ⟨Nat.le_of_ble_eq_true rfl, [], trivial, ?_⟩
  refine And.intro (fun h5 => ?_) (fun h5 => ?_)
  · replace hT := (if_neg h5).symm.trans hT
    refine And.intro (fun h6 => ?_) (fun h6 => ?_)
    · replace hT := (if_neg h6).symm.trans hT
      refine fun v7 e8 => ?_
      replace hT := qlc e8 hT
      refine fun v9 e10 => ?_
      replace hT := qlc e10 hT
      refine And.intro (by (first | (clear hm hnf; omega) | omega)) (fun v11 gv11 e12 => ?_)
      replace hT := qlc e12 hT
      refine fun v13 e14 => ?_
      replace hT := qlc e14 hT
      have w17 := wI_rng v13
      refine And.intro (by (first | (clear hm hnf; omega) | omega)) (fun A15 e16 => ?_)
      replace hT := qlc e16 hT
      have i18 := iva_st i0 e16 trivial
      have j19 := ivf_sa j0 e16 rfl
      have f20 := frm_s f0 e16 rfl
      exact hK _ i18 j19 f20 hT
    · replace hT := (if_pos h6).symm.trans hT
      refine And.intro (fun h21 => ?_) (fun h21 => ?_)
      · replace hT := (if_neg h21).symm.trans hT
        refine fun v22 e23 => ?_
        replace hT := qlc e23 hT
        refine fun v24 e25 => ?_
        replace hT := qlc e25 hT
        refine And.intro (by (first | (clear hm hnf; omega) | omega)) (fun v26 gv26 e27 => ?_)
        replace hT := qlc e27 hT
        refine fun v28 e29 => ?_
        replace hT := qlc e29 hT
        have w32 := wI_rng v28
        refine And.intro (by (first | (clear hm hnf; omega) | omega)) (fun A30 e31 => ?_)
        replace hT := qlc e31 hT
        have i33 := iva_st i0 e31 trivial
        have j34 := ivf_sa j0 e31 rfl
        have f35 := frm_s f0 e31 rfl
        exact hK _ i33 j34 f35 hT
      · replace hT := (if_pos h21).symm.trans hT
        refine fun v36 e37 => ?_
        replace hT := qlc e37 hT
        refine fun v38 e39 => ?_
        replace hT := qlc e39 hT
        refine And.intro (by (first | (clear hm hnf; omega) | omega)) (fun v40 gv40 e41 => ?_)
        replace hT := qlc e41 hT
        refine fun v42 e43 => ?_
        replace hT := qlc e43 hT
        have w46 := wI_rng v42
        refine And.intro (by (first | (clear hm hnf; omega) | omega)) (fun A44 e45 => ?_)
        replace hT := qlc e45 hT
        have i47 := iva_st i0 e45 trivial
        have j48 := ivf_sa j0 e45 rfl
        have f49 := frm_s f0 e45 rfl
        exact hK _ i47 j48 f49 hT
  · replace hT := (if_pos h5).symm.trans hT
    refine fun v50 e51 => ?_
    replace hT := qlc e51 hT
    refine fun v52 e53 => ?_
    replace hT := qlc e53 hT
    have h54 := ia_bd (a := v50) (b := 1) (by (first | (clear hm hnf; omega) | omega)) (by (first | (clear hm hnf; omega) | omega))
    refine And.intro (fun h55 => ?_) (fun h55 => ?_)
    · replace hT := (if_pos h55).symm.trans hT
      refine And.intro (fun h56 => ?_) (fun h56 => by exfalso; omega)
      refine fun v57 e58 => ?_
      replace hT := qlc e58 hT
      refine fun v59 e60 => ?_
      replace hT := qlc e60 hT
      refine And.intro (by (first | (clear hm hnf; omega) | omega)) (fun v61 gv61 e62 => ?_)
      replace hT := qlc e62 hT
      refine fun v63 e64 => ?_
      replace hT := qlc e64 hT
      have w67 := wI_rng v63
      refine And.intro (by (first | (clear hm hnf; omega) | omega)) (fun A65 e66 => ?_)
      replace hT := qlc e66 hT
      have i68 := iva_st i0 e66 trivial
      have j69 := ivf_sa j0 e66 rfl
      have f70 := frm_s f0 e66 rfl
      exact hK _ i68 j69 f70 hT
    · replace hT := (if_neg h55).symm.trans hT
      refine And.intro (fun h71 => by exfalso; omega) (fun h71 => ?_)
      refine And.intro (fun h72 => ?_) (fun h72 => ?_)
      · replace hT := (if_neg h72).symm.trans hT
        refine fun v73 e74 => ?_
        replace hT := qlc e74 hT
        refine fun v75 e76 => ?_
        replace hT := qlc e76 hT
        refine And.intro (by (first | (clear hm hnf; omega) | omega)) (fun v77 gv77 e78 => ?_)
        replace hT := qlc e78 hT
        refine fun v79 e80 => ?_
        replace hT := qlc e80 hT
        have w83 := wI_rng v79
        refine And.intro (by (first | (clear hm hnf; omega) | omega)) (fun A81 e82 => ?_)
        replace hT := qlc e82 hT
        have i84 := iva_st i0 e82 trivial
        have j85 := ivf_sa j0 e82 rfl
        have f86 := frm_s f0 e82 rfl
        exact hK _ i84 j85 f86 hT
      · replace hT := (if_pos h72).symm.trans hT
        refine fun v87 e88 => ?_
        replace hT := qlc e88 hT
        refine fun v89 e90 => ?_
        replace hT := qlc e90 hT
        refine And.intro (by (first | (clear hm hnf; omega) | omega)) (fun v91 gv91 e92 => ?_)
        replace hT := qlc e92 hT
        refine fun v93 e94 => ?_
        replace hT := qlc e94 hT
        have w97 := wI_rng v93
        refine And.intro (by (first | (clear hm hnf; omega) | omega)) (fun A95 e96 => ?_)
        replace hT := qlc e96 hT
        have i98 := iva_st i0 e96 trivial
        have j99 := ivf_sa j0 e96 rfl
        have f100 := frm_s f0 e96 rfl
        exact hK _ i98 j99 f100 hT
theorem pC_arrive {c t y to b : Int} {A : qA} (hA : qokA LC A) (rg_y : rng y) (rg_to : rng to) (rg_b : rng b) (p0 : iva IC A) (p1 : ivf JC A) (p2 : 0 ≤ c) (p3 : c ≤ 7) (p4 : 0 ≤ t) (p5 : t ≤ 2) : qokA LC (fC_arrive c t y to b A) ∧ iva IC (fC_arrive c t y to b A) ∧ ivf JC (fC_arrive c t y to b A) ∧ frm [69] [] A (fC_arrive c t y to b A) := by
  obtain ⟨r, B, hB, _, hk⟩ := okM_ex okC_arrive (as := [rf 68, ni c, ni t, ni y, ni to, ni b]) (K := fun _ B => B = (fC_arrive c t y to b A) ∧ iva IC (fC_arrive c t y to b A) ∧ ivf JC (fC_arrive c t y to b A) ∧ frm [69] [] A (fC_arrive c t y to b A)) hA (qoks_c (show qok (rf _) from trivial) (qoks_c (show rng c from ⟨by (first | (clear hm hnf; omega) | omega), by (first | (clear hm hnf; omega) | omega)⟩) (qoks_c (show rng t from ⟨by (first | (clear hm hnf; omega) | omega), by (first | (clear hm hnf; omega) | omega)⟩) (qoks_c (rg_y) (qoks_c (rg_to) (qoks_c (rg_b) qoks_n)))))) ⟨c, t, y, to, b, rfl, ⟨p0, p1, p2, p3, p4, p5⟩, fun A9 i9 j9 f9 x0 => (by rw [← x0]; exact ⟨rfl, i9, j9, f9⟩)⟩
  exact ⟨hk.1 ▸ hB, hk.2⟩
def fC_cancel_c2 (rec : Nat → List Int → qA → qA) (l1 i : Int) (B : qA) : qA := (if i < l1 then qlet (B 68 (fd 2)) fun v4 => qlet (qm v4 3) fun v6 => (if v6 = 0 then qlet (B 68 (fd 2)) fun v10 => qlet (qd v4 3) fun v13 => qlet (qu B 68 (fd 2) (wI v13)) fun A16 => qlet (A16 68 (fd 3)) fun v23 => qlet (qd v23 3) fun v25 => qlet (qu A16 68 (fd 3) (wI v25)) fun A28 => qlet (i + 1) fun v35 => rec 2 [l1, ((wI v35))] A28 else B) else B)
def fC_cancel_L : Nat → Nat → List Int → qA → qA
  | 0 => fun _ _ B => B
  | nF + 1 => fun k zs B => bif Nat.beq k 2 then (match zs with | [l1, i] => fC_cancel_c2 (fC_cancel_L nF) l1 i B | _ => B) else B
theorem fC_cancel_L2 (nF : Nat) (l1 i : Int) (B : qA) : fC_cancel_L (nF + 1) 2 [l1, i] B = fC_cancel_c2 (fC_cancel_L nF) l1 i B := (congrFun (congrFun (congrFun (fC_cancel_L.eq_2 nF) 2) [l1, i]) B).trans (qL1 rfl rfl)
def fC_cancel (x : Int) (A : qA) : qA := (fC_cancel_L 100000) 2 [x, 0] A
def sC_cancel : qS := fun as A K => ∃ x : Int, as = [rf 68, ni x] ∧ (iva IC A ∧ ivf JC A ∧ 0 ≤ x ∧ x ≤ 12) ∧ (∀ A' : qA, iva IC A' → ivf JC A' → frm [] [(68, 2), (68, 3)] A A' → (A' = fC_cancel x A) → K none A')
theorem okC_cancel : okM LC 1 82 sC_cancel := by
  refine qmeth [] true [] 31 rfl trivial ?_
  rintro _ A K hA has ⟨x, rfl, ⟨i0, j0, p1, p2⟩, hK⟩
  have rg_x : rng x := has (ni x) (by simp)
  have f0 := frm_0 [] [(68, 2), (68, 3)] A
  have hT : _ = fC_cancel x A := (fC_cancel.eq_1 x A).symm
  refine ⟨Nat.le_of_ble_eq_true rfl, [(2, [(0, 2, 68), (1, 0, 0), (2, 0, 0)], fun zs B nn => match zs with | [l1, i] => iva IC B ∧ ivf JC B ∧ frm [] [(68, 2), (68, 3)] A B ∧ nn = (12 - i : Int).toNat ∧ (l1 = x) ∧ (0 ≤ i) ∧ (i ≤ 12) ∧ (∃ nf : Nat, nn < nf ∧ fC_cancel_L nf 2 [l1, i] B = fC_cancel x A) | _ => False)], ?_, ?_⟩
  · refine ⟨⟨rfl, ?_⟩, trivial⟩
    · refine fun l1 i B mm hB hz hI => ?_
      obtain ⟨i1, j1, f1, hm, c0, c1, c2, ⟨nf, hnf, hT⟩⟩ := hI
      obtain ⟨hz_l1, hz_i, _⟩ := hz
      obtain ⟨ng, rfl⟩ : ∃ k, nf = k + 1 := ⟨nf - 1, by omega⟩
      replace hT := (fC_cancel_c2.eq_1 (fC_cancel_L ng) l1 i B).symm.trans ((fC_cancel_L2 ng l1 i B).symm.trans hT)
      refine And.intro (fun h3 => ?_) (fun h3 => ?_)
      · replace hT := (if_neg (Int.not_lt.mpr h3)).symm.trans hT
        exact hK _ i1 j1 f1 hT
      · replace hT := (if_pos h3).symm.trans hT
        refine fun v4 gv4 e5 => ?_
        replace hT := qlc e5 hT
        refine And.intro (by (first | (clear hm hnf; omega) | omega)) (fun v6 e7 => ?_)
        replace hT := qlc e7 hT
        have h8 := qm_bd (a := v4) (b := 3) (by (first | (clear hm hnf; omega) | omega))
        refine And.intro (fun h9 => ?_) (fun h9 => ?_)
        · replace hT := (if_neg h9).symm.trans hT
          exact hK _ i1 j1 f1 hT
        · replace hT := (if_pos h9).symm.trans hT
          refine fun v10 gv10 e11 => ?_
          replace hT := qlc e11 hT
          have q12 : v4 = v10 := (e11.trans e5.symm).symm
          subst q12
          refine And.intro (by (first | (clear hm hnf; omega) | omega)) (fun v13 e14 => ?_)
          replace hT := qlc e14 hT
          have h15 := qd_bd (a := v4) (b := 3) (lo := (-2147483648)) (hi := 2147483647) (by (first | (clear hm hnf; omega) | omega)) (by (first | (clear hm hnf; omega) | omega)) (by (first | (clear hm hnf; omega) | omega)) (by (first | (clear hm hnf; omega) | omega)) (by (first | (clear hm hnf; omega) | omega))
          have w18 := wI_rng v13
          have w19 : wI v13 = v13 := wI_id (by (first | (clear hm hnf; omega) | omega))
          refine fun A16 e17 => ?_
          replace hT := qlc e17 hT
          have i20 := iva_sf i1 e17 rfl
          have j21 := ivf_st j1 e17 trivial
          have f22 := frm_sf f1 e17 rfl
          refine fun v23 gv23 e24 => ?_
          replace hT := qlc e24 hT
          refine And.intro (by (first | (clear hm hnf; omega) | omega)) (fun v25 e26 => ?_)
          replace hT := qlc e26 hT
          have h27 := qd_bd (a := v23) (b := 3) (lo := (-2147483648)) (hi := 2147483647) (by (first | (clear hm hnf; omega) | omega)) (by (first | (clear hm hnf; omega) | omega)) (by (first | (clear hm hnf; omega) | omega)) (by (first | (clear hm hnf; omega) | omega)) (by (first | (clear hm hnf; omega) | omega))
          have w30 := wI_rng v25
          have w31 : wI v25 = v25 := wI_id (by (first | (clear hm hnf; omega) | omega))
          refine fun A28 e29 => ?_
          replace hT := qlc e29 hT
          have i32 := iva_sf i20 e29 rfl
          have j33 := ivf_st j21 e29 trivial
          have f34 := frm_sf f22 e29 rfl
          refine fun v35 e36 => ?_
          replace hT := qlc e36 hT
          have w37 := wI_rng v35
          have w38 : wI v35 = v35 := wI_id (by (first | (clear hm hnf; omega) | omega))
          exact Exists.intro (12 - ((wI v35)) : Int).toNat (And.intro (by first | exact qtn hm (by (try clear hm hnf); omega) | omega) (And.intro i32 (And.intro j33 (And.intro f34 (And.intro rfl (And.intro (by (first | (clear hm hnf; omega) | omega)) (And.intro (by (first | (clear hm hnf; omega) | omega)) (And.intro (by (first | (clear hm hnf; omega) | omega)) (Exists.intro ng (And.intro (by first | exact qtm hm hnf (by (try clear hm hnf); omega) | omega) hT))))))))))
  · exact Exists.intro (12 - 0 : Int).toNat (And.intro i0 (And.intro j0 (And.intro f0 (And.intro rfl (And.intro (by (first | (clear hm hnf; omega) | omega)) (And.intro (by (first | (clear hm hnf; omega) | omega)) (And.intro (by (first | (clear hm hnf; omega) | omega)) (Exists.intro 100000 (And.intro (by (first | (clear hm hnf; omega) | omega)) hT)))))))))
theorem pC_cancel {x : Int} {A : qA} (hA : qokA LC A) (p0 : iva IC A) (p1 : ivf JC A) (p2 : 0 ≤ x) (p3 : x ≤ 12) : qokA LC (fC_cancel x A) ∧ iva IC (fC_cancel x A) ∧ ivf JC (fC_cancel x A) ∧ frm [] [(68, 2), (68, 3)] A (fC_cancel x A) := by
  obtain ⟨r, B, hB, _, hk⟩ := okM_ex okC_cancel (as := [rf 68, ni x]) (K := fun _ B => B = (fC_cancel x A) ∧ iva IC (fC_cancel x A) ∧ ivf JC (fC_cancel x A) ∧ frm [] [(68, 2), (68, 3)] A (fC_cancel x A)) hA (qoks_c (show qok (rf _) from trivial) (qoks_c (show rng x from ⟨by (first | (clear hm hnf; omega) | omega), by (first | (clear hm hnf; omega) | omega)⟩) qoks_n)) ⟨x, rfl, ⟨p0, p1, p2, p3⟩, fun A9 i9 j9 f9 x0 => (by rw [← x0]; exact ⟨rfl, i9, j9, f9⟩)⟩
  exact ⟨hk.1 ▸ hB, hk.2⟩
def fC_fly_c16 (rec : Nat → List Int → qA → qA) (l2 l3 l4 i : Int) (B : qA) : qA := (if i < l4 then qlet (qcpy B 69 0 70 0 24) fun A28 => qlet (fC_fill69 0 A28) fun A33 => rec 33 [l2, l3, l4, i, 0] A33 else qlet (qu B 68 (fd 2) 0) fun A23 => rec 99 [l4, 0] A23)
def fC_fly_c99 (rec : Nat → List Int → qA → qA) (l4 k : Int) (B : qA) : qA := (if k < 8 then qlet (B 68 (fd 2)) fun v46 => qlet (k * 3) fun v48 => qlet (v48 + 2) fun v50 => qlet (B 69 v50) fun v52 => qlet (v46 + v52) fun v54 => qlet (qu B 68 (fd 2) (wI v54)) fun A56 => qlet (k + 1) fun v62 => rec 99 [l4, ((wI v62))] A56 else qlet (fC_cancel l4 B) fun A40 => A40)
def fC_fly_c33 (rec : Nat → List Int → qA → qA) (l2 l3 l4 i k : Int) (B : qA) : qA := (if k < 24 then qlet (qd k 3) fun v81 => qlet (v81 - 1) fun v84 => qlet (max 0 (wI v84)) fun v86 => qlet (qm k 3) fun v90 => qlet (B 70 k) fun v93 => qlet (fC_arrive v86 v90 v93 l2 l3 B) fun A95 => qlet (qm k 3) fun v101 => qlet (A95 70 k) fun v104 => qlet (fC_arrive (wI v81) v101 v93 l2 l3 A95) fun A109 => qlet (v81 + 1) fun v115 => qlet (min 7 (wI v115)) fun v117 => qlet (qm k 3) fun v121 => qlet (A109 70 k) fun v124 => qlet (fC_arrive v117 v121 v93 l2 l3 A109) fun A127 => qlet (k + 1) fun v133 => rec 33 [l2, l3, l4, i, ((wI v133))] A127 else qlet (B 68 (fd 3)) fun v67 => qlet (v67 * 3) fun v69 => qlet (qu B 68 (fd 3) (wI v69)) fun A71 => qlet (i + 1) fun v77 => rec 16 [l2, l3, l4, ((wI v77))] A71)
def fC_fly_L : Nat → Nat → List Int → qA → qA
  | 0 => fun _ _ B => B
  | nF + 1 => fun k zs B => bif Nat.beq k 16 then (match zs with | [l2, l3, l4, i] => fC_fly_c16 (fC_fly_L nF) l2 l3 l4 i B | _ => B) else bif Nat.beq k 99 then (match zs with | [l4, k] => fC_fly_c99 (fC_fly_L nF) l4 k B | _ => B) else bif Nat.beq k 33 then (match zs with | [l2, l3, l4, i, k] => fC_fly_c33 (fC_fly_L nF) l2 l3 l4 i k B | _ => B) else B
theorem fC_fly_L16 (nF : Nat) (l2 l3 l4 i : Int) (B : qA) : fC_fly_L (nF + 1) 16 [l2, l3, l4, i] B = fC_fly_c16 (fC_fly_L nF) l2 l3 l4 i B := (congrFun (congrFun (congrFun (fC_fly_L.eq_2 nF) 16) [l2, l3, l4, i]) B).trans (qL1 rfl rfl)
theorem fC_fly_L99 (nF : Nat) (l4 k : Int) (B : qA) : fC_fly_L (nF + 1) 99 [l4, k] B = fC_fly_c99 (fC_fly_L nF) l4 k B := (congrFun (congrFun (congrFun (fC_fly_L.eq_2 nF) 99) [l4, k]) B).trans (qL0 rfl (qL1 rfl rfl))
theorem fC_fly_L33 (nF : Nat) (l2 l3 l4 i k : Int) (B : qA) : fC_fly_L (nF + 1) 33 [l2, l3, l4, i, k] B = fC_fly_c33 (fC_fly_L nF) l2 l3 l4 i k B := (congrFun (congrFun (congrFun (fC_fly_L.eq_2 nF) 33) [l2, l3, l4, i, k]) B).trans (qL0 rfl (qL0 rfl (qL1 rfl rfl)))
def fC_fly (f to b x : Int) (A : qA) : qA := qlet (fC_fill69 0 A) fun A5 => qlet (fC_arrive f 0 1 to b A5) fun A11 => qlet (qu A11 68 (fd 3) 1) fun A17 => (fC_fly_L 100000) 16 [to, b, x, 0] A17
def sC_fly : qS := fun as A K => ∃ f to b x : Int, as = [rf 68, ni f, ni to, ni b, ni x] ∧ (iva IC A ∧ ivf JC A ∧ 0 ≤ f ∧ f ≤ 7 ∧ 0 ≤ x ∧ x ≤ 12) ∧ (∀ A' : qA, iva IC A' → ivf JC A' → frm [69, 70] [(68, 2), (68, 3)] A A' → (A' = fC_fly f to b x A) → K none A')
theorem okC_fly : okM LC 2 80 sC_fly := by
  refine qmeth [] true [(250, sC_fill69), (81, sC_arrive), (82, sC_cancel)] 127 rfl ⟨okC_fill69.le (by decide), ⟨okC_arrive.le (by decide), ⟨okC_cancel.le (by decide), trivial⟩⟩⟩ ?_
  rintro _ A K hA has ⟨f, to, b, x, rfl, ⟨i0, j0, p1, p2, p3, p4⟩, hK⟩
  have rg_f : rng f := has (ni f) (by simp)
  have rg_to : rng to := has (ni to) (by simp)
  have rg_b : rng b := has (ni b) (by simp)
  have rg_x : rng x := has (ni x) (by simp)
  have f0 := frm_0 [69, 70] [(68, 2), (68, 3)] A
  have hT : _ = fC_fly f to b x A := (fC_fly.eq_1 f to b x A).symm
  refine ⟨Nat.le_of_ble_eq_true rfl, [(16, [(0, 2, 68), (2, 0, 0), (3, 0, 0), (4, 0, 0), (5, 0, 0)], fun zs B nn => match zs with | [l2, l3, l4, i] => iva IC B ∧ ivf JC B ∧ frm [69, 70] [(68, 2), (68, 3)] A B ∧ nn = ((12 - i) * 100 + 1099 : Int).toNat ∧ (l2 = to) ∧ (l3 = b) ∧ (l4 = x) ∧ (0 ≤ i) ∧ (i ≤ 12) ∧ (∃ nf : Nat, nn < nf ∧ fC_fly_L nf 16 [l2, l3, l4, i] B = fC_fly f to b x A) | _ => False), (99, [(0, 2, 68), (4, 0, 0), (5, 0, 0)], fun zs B nn => match zs with | [l4, k] => iva IC B ∧ ivf JC B ∧ frm [69, 70] [(68, 2), (68, 3)] A B ∧ nn = (8 - k : Int).toNat ∧ (l4 = x) ∧ (0 ≤ k) ∧ (k ≤ 8) ∧ (∃ nf : Nat, nn < nf ∧ fC_fly_L nf 99 [l4, k] B = fC_fly f to b x A) | _ => False), (33, [(0, 2, 68), (2, 0, 0), (3, 0, 0), (4, 0, 0), (5, 0, 0), (6, 0, 0)], fun zs B nn => match zs with | [l2, l3, l4, i, k] => iva IC B ∧ ivf JC B ∧ frm [69, 70] [(68, 2), (68, 3)] A B ∧ nn = ((12 - i) * 100 + 1024 - k : Int).toNat ∧ (l2 = to) ∧ (l3 = b) ∧ (l4 = x) ∧ (0 ≤ i) ∧ (i ≤ 11) ∧ (0 ≤ k) ∧ (k ≤ 24) ∧ (∃ nf : Nat, nn < nf ∧ fC_fly_L nf 33 [l2, l3, l4, i, k] B = fC_fly f to b x A) | _ => False)], ?_, ?_⟩
  · refine ⟨⟨rfl, ?_⟩, ⟨rfl, ?_⟩, ⟨rfl, ?_⟩, trivial⟩
    · refine fun l2 l3 l4 i B mm hB hz hI => ?_
      obtain ⟨i1, j1, f1, hm, c0, c1, c2, c3, c4, ⟨nf, hnf, hT⟩⟩ := hI
      obtain ⟨hz_l2, hz_l3, hz_l4, hz_i, _⟩ := hz
      obtain ⟨ng, rfl⟩ : ∃ k, nf = k + 1 := ⟨nf - 1, by omega⟩
      replace hT := (fC_fly_c16.eq_1 (fC_fly_L ng) l2 l3 l4 i B).symm.trans ((fC_fly_L16 ng l2 l3 l4 i B).symm.trans hT)
      refine And.intro (fun h22 => ?_) (fun h22 => ?_)
      · replace hT := (if_neg (Int.not_lt.mpr h22)).symm.trans hT
        refine fun A23 e24 => ?_
        replace hT := qlc e24 hT
        have i25 := iva_sf i1 e24 rfl
        have j26 := ivf_st j1 e24 trivial
        have f27 := frm_sf f1 e24 rfl
        exact Exists.intro (8 - 0 : Int).toNat (And.intro (by first | exact qtn hm (by (try clear hm hnf); omega) | omega) (And.intro i25 (And.intro j26 (And.intro f27 (And.intro rfl (And.intro (by (first | (clear hm hnf; omega) | omega)) (And.intro (by (first | (clear hm hnf; omega) | omega)) (And.intro (by (first | (clear hm hnf; omega) | omega)) (Exists.intro ng (And.intro (by first | exact qtm hm hnf (by (try clear hm hnf); omega) | omega) hT))))))))))
      · replace hT := (if_pos h22).symm.trans hT
        refine And.intro (by (first | (clear hm hnf; omega) | omega)) (fun A28 e29 => ?_)
        replace hT := qlc e29 hT
        have i30 := iva_cp i1 e29 (fun i h0 h1 => trivial)
        have j31 := ivf_cp j1 e29 rfl
        have f32 := frm_cp f1 e29 rfl
        refine Exists.intro 0 (And.intro rfl (And.intro (And.intro i30 j31) (fun A33 i34 j35 f36 g37 => ?_)))
        replace hT := qlc g37 hT
        have f38 := frm_c f32 f36 rfl
        exact Exists.intro ((12 - i) * 100 + 1024 - 0 : Int).toNat (And.intro (by first | exact qtn hm (by (try clear hm hnf); omega) | omega) (And.intro i34 (And.intro j35 (And.intro f38 (And.intro rfl (And.intro (by (first | (clear hm hnf; omega) | omega)) (And.intro (by (first | (clear hm hnf; omega) | omega)) (And.intro (by (first | (clear hm hnf; omega) | omega)) (And.intro (by (first | (clear hm hnf; omega) | omega)) (And.intro (by (first | (clear hm hnf; omega) | omega)) (And.intro (by (first | (clear hm hnf; omega) | omega)) (And.intro (by (first | (clear hm hnf; omega) | omega)) (Exists.intro ng (And.intro (by first | exact qtm hm hnf (by (try clear hm hnf); omega) | omega) hT))))))))))))))
    · refine fun l4 k B mm hB hz hI => ?_
      obtain ⟨i1, j1, f1, hm, c0, c1, c2, ⟨nf, hnf, hT⟩⟩ := hI
      obtain ⟨hz_l4, hz_k, _⟩ := hz
      obtain ⟨ng, rfl⟩ : ∃ k, nf = k + 1 := ⟨nf - 1, by omega⟩
      replace hT := (fC_fly_c99.eq_1 (fC_fly_L ng) l4 k B).symm.trans ((fC_fly_L99 ng l4 k B).symm.trans hT)
      refine And.intro (fun h39 => ?_) (fun h39 => ?_)
      · replace hT := (if_neg (Int.not_lt.mpr h39)).symm.trans hT
        refine Exists.intro l4 (And.intro rfl (And.intro (And.intro i1 (And.intro j1 (And.intro (by (first | (clear hm hnf; omega) | omega)) (by (first | (clear hm hnf; omega) | omega))))) (fun A40 i41 j42 f43 g44 => ?_)))
        replace hT := qlc g44 hT
        have f45 := frm_c f1 f43 rfl
        exact hK _ i41 j42 f45 hT
      · replace hT := (if_pos h39).symm.trans hT
        refine fun v46 gv46 e47 => ?_
        replace hT := qlc e47 hT
        refine fun v48 e49 => ?_
        replace hT := qlc e49 hT
        refine fun v50 e51 => ?_
        replace hT := qlc e51 hT
        refine And.intro (by (first | (clear hm hnf; omega) | omega)) (fun v52 gv52 e53 => ?_)
        replace hT := qlc e53 hT
        refine fun v54 e55 => ?_
        replace hT := qlc e55 hT
        have w58 := wI_rng v54
        refine fun A56 e57 => ?_
        replace hT := qlc e57 hT
        have i59 := iva_sf i1 e57 rfl
        have j60 := ivf_st j1 e57 trivial
        have f61 := frm_sf f1 e57 rfl
        refine fun v62 e63 => ?_
        replace hT := qlc e63 hT
        have w64 := wI_rng v62
        have w65 : wI v62 = v62 := wI_id (by (first | (clear hm hnf; omega) | omega))
        exact Exists.intro (8 - ((wI v62)) : Int).toNat (And.intro (by first | exact qtn hm (by (try clear hm hnf); omega) | omega) (And.intro i59 (And.intro j60 (And.intro f61 (And.intro rfl (And.intro (by (first | (clear hm hnf; omega) | omega)) (And.intro (by (first | (clear hm hnf; omega) | omega)) (And.intro (by (first | (clear hm hnf; omega) | omega)) (Exists.intro ng (And.intro (by first | exact qtm hm hnf (by (try clear hm hnf); omega) | omega) hT))))))))))
    · refine fun l2 l3 l4 i k B mm hB hz hI => ?_
      obtain ⟨i1, j1, f1, hm, c0, c1, c2, c3, c4, c5, c6, ⟨nf, hnf, hT⟩⟩ := hI
      obtain ⟨hz_l2, hz_l3, hz_l4, hz_i, hz_k, _⟩ := hz
      obtain ⟨ng, rfl⟩ : ∃ k, nf = k + 1 := ⟨nf - 1, by omega⟩
      replace hT := (fC_fly_c33.eq_1 (fC_fly_L ng) l2 l3 l4 i k B).symm.trans ((fC_fly_L33 ng l2 l3 l4 i k B).symm.trans hT)
      refine And.intro (fun h66 => ?_) (fun h66 => ?_)
      · replace hT := (if_neg (Int.not_lt.mpr h66)).symm.trans hT
        refine fun v67 gv67 e68 => ?_
        replace hT := qlc e68 hT
        refine fun v69 e70 => ?_
        replace hT := qlc e70 hT
        have w73 := wI_rng v69
        refine fun A71 e72 => ?_
        replace hT := qlc e72 hT
        have i74 := iva_sf i1 e72 rfl
        have j75 := ivf_st j1 e72 trivial
        have f76 := frm_sf f1 e72 rfl
        refine fun v77 e78 => ?_
        replace hT := qlc e78 hT
        have w79 := wI_rng v77
        have w80 : wI v77 = v77 := wI_id (by (first | (clear hm hnf; omega) | omega))
        exact Exists.intro ((12 - ((wI v77))) * 100 + 1099 : Int).toNat (And.intro (by first | exact qtn hm (by (try clear hm hnf); omega) | omega) (And.intro i74 (And.intro j75 (And.intro f76 (And.intro rfl (And.intro (by (first | (clear hm hnf; omega) | omega)) (And.intro (by (first | (clear hm hnf; omega) | omega)) (And.intro (by (first | (clear hm hnf; omega) | omega)) (And.intro (by (first | (clear hm hnf; omega) | omega)) (And.intro (by (first | (clear hm hnf; omega) | omega)) (Exists.intro ng (And.intro (by first | exact qtm hm hnf (by (try clear hm hnf); omega) | omega) hT))))))))))))
      · replace hT := (if_pos h66).symm.trans hT
        refine And.intro (by (first | (clear hm hnf; omega) | omega)) (fun v81 e82 => ?_)
        replace hT := qlc e82 hT
        have h83 := qd_nn (a := k) (b := 3) (by (first | (clear hm hnf; omega) | omega))
        refine fun v84 e85 => ?_
        replace hT := qlc e85 hT
        have w88 := wI_rng v84
        have w89 : wI v84 = v84 := wI_id (by (first | (clear hm hnf; omega) | omega))
        refine (fun v86 e87 => ?_)
        replace hT := qlc e87 hT
        refine And.intro (by (first | (clear hm hnf; omega) | omega)) (fun v90 e91 => ?_)
        replace hT := qlc e91 hT
        have h92 := qm_nn (a := k) (b := 3) (by (first | (clear hm hnf; omega) | omega))
        refine And.intro (by (first | (clear hm hnf; omega) | omega)) (fun v93 gv93 e94 => ?_)
        replace hT := qlc e94 hT
        refine Exists.intro v86 (Exists.intro v90 (Exists.intro v93 (Exists.intro l2 (Exists.intro l3 (And.intro rfl (And.intro (And.intro i1 (And.intro j1 (And.intro (by (first | (clear hm hnf; omega) | omega)) (And.intro (by (first | (clear hm hnf; omega) | omega)) (And.intro (by (first | (clear hm hnf; omega) | omega)) (by (first | (clear hm hnf; omega) | omega))))))) (fun A95 i96 j97 f98 g99 => ?_)))))))
        replace hT := qlc g99 hT
        have f100 := frm_c f1 f98 rfl
        refine And.intro (by (first | (clear hm hnf; omega) | omega)) (fun v101 e102 => ?_)
        replace hT := qlc e102 hT
        have h103 := qm_nn (a := k) (b := 3) (by (first | (clear hm hnf; omega) | omega))
        refine And.intro (by (first | (clear hm hnf; omega) | omega)) (fun v104 gv104 e105 => ?_)
        replace hT := qlc e105 hT
        have q106 : v93 = v104 := (e105.trans ((congrFun (frm_a f98 rfl) _).trans e94.symm)).symm
        subst q106
        have w107 := wI_rng v81
        have w108 : wI v81 = v81 := wI_id (by (first | (clear hm hnf; omega) | omega))
        refine Exists.intro (wI v81) (Exists.intro v101 (Exists.intro v93 (Exists.intro l2 (Exists.intro l3 (And.intro rfl (And.intro (And.intro i96 (And.intro j97 (And.intro (by (first | (clear hm hnf; omega) | omega)) (And.intro (by (first | (clear hm hnf; omega) | omega)) (And.intro (by (first | (clear hm hnf; omega) | omega)) (by (first | (clear hm hnf; omega) | omega))))))) (fun A109 i110 j111 f112 g113 => ?_)))))))
        replace hT := qlc g113 hT
        have f114 := frm_c f100 f112 rfl
        refine fun v115 e116 => ?_
        replace hT := qlc e116 hT
        have w119 := wI_rng v115
        have w120 : wI v115 = v115 := wI_id (by (first | (clear hm hnf; omega) | omega))
        refine (fun v117 e118 => ?_)
        replace hT := qlc e118 hT
        refine And.intro (by (first | (clear hm hnf; omega) | omega)) (fun v121 e122 => ?_)
        replace hT := qlc e122 hT
        have h123 := qm_nn (a := k) (b := 3) (by (first | (clear hm hnf; omega) | omega))
        refine And.intro (by (first | (clear hm hnf; omega) | omega)) (fun v124 gv124 e125 => ?_)
        replace hT := qlc e125 hT
        have q126 : v93 = v124 := (e125.trans ((congrFun (frm_a f112 rfl) _).trans e105.symm)).symm
        subst q126
        refine Exists.intro v117 (Exists.intro v121 (Exists.intro v93 (Exists.intro l2 (Exists.intro l3 (And.intro rfl (And.intro (And.intro i110 (And.intro j111 (And.intro (by (first | (clear hm hnf; omega) | omega)) (And.intro (by (first | (clear hm hnf; omega) | omega)) (And.intro (by (first | (clear hm hnf; omega) | omega)) (by (first | (clear hm hnf; omega) | omega))))))) (fun A127 i128 j129 f130 g131 => ?_)))))))
        replace hT := qlc g131 hT
        have f132 := frm_c f114 f130 rfl
        refine fun v133 e134 => ?_
        replace hT := qlc e134 hT
        have w135 := wI_rng v133
        have w136 : wI v133 = v133 := wI_id (by (first | (clear hm hnf; omega) | omega))
        exact Exists.intro ((12 - i) * 100 + 1024 - ((wI v133)) : Int).toNat (And.intro (by first | exact qtn hm (by (try clear hm hnf); omega) | omega) (And.intro i128 (And.intro j129 (And.intro f132 (And.intro rfl (And.intro (by (first | (clear hm hnf; omega) | omega)) (And.intro (by (first | (clear hm hnf; omega) | omega)) (And.intro (by (first | (clear hm hnf; omega) | omega)) (And.intro (by (first | (clear hm hnf; omega) | omega)) (And.intro (by (first | (clear hm hnf; omega) | omega)) (And.intro (by (first | (clear hm hnf; omega) | omega)) (And.intro (by (first | (clear hm hnf; omega) | omega)) (Exists.intro ng (And.intro (by first | exact qtm hm hnf (by (try clear hm hnf); omega) | omega) hT))))))))))))))
  · refine Exists.intro 0 (And.intro rfl (And.intro (And.intro i0 j0) (fun A5 i6 j7 f8 g9 => ?_)))
    replace hT := qlc g9 hT
    have f10 := frm_c f0 f8 rfl
    refine Exists.intro f (Exists.intro 0 (Exists.intro 1 (Exists.intro to (Exists.intro b (And.intro rfl (And.intro (And.intro i6 (And.intro j7 (And.intro (by (first | (clear hm hnf; omega) | omega)) (And.intro (by (first | (clear hm hnf; omega) | omega)) (And.intro (by (first | (clear hm hnf; omega) | omega)) (by (first | (clear hm hnf; omega) | omega))))))) (fun A11 i12 j13 f14 g15 => ?_)))))))
    replace hT := qlc g15 hT
    have f16 := frm_c f10 f14 rfl
    refine fun A17 e18 => ?_
    replace hT := qlc e18 hT
    have i19 := iva_sf i12 e18 rfl
    have j20 := ivf_st j13 e18 trivial
    have f21 := frm_sf f16 e18 rfl
    exact Exists.intro ((12 - 0) * 100 + 1099 : Int).toNat (And.intro i19 (And.intro j20 (And.intro f21 (And.intro rfl (And.intro (by (first | (clear hm hnf; omega) | omega)) (And.intro (by (first | (clear hm hnf; omega) | omega)) (And.intro (by (first | (clear hm hnf; omega) | omega)) (And.intro (by (first | (clear hm hnf; omega) | omega)) (And.intro (by (first | (clear hm hnf; omega) | omega)) (Exists.intro 100000 (And.intro (by (first | (clear hm hnf; omega) | omega)) hT)))))))))))
theorem pC_fly {f to b x : Int} {A : qA} (hA : qokA LC A) (rg_to : rng to) (rg_b : rng b) (p0 : iva IC A) (p1 : ivf JC A) (p2 : 0 ≤ f) (p3 : f ≤ 7) (p4 : 0 ≤ x) (p5 : x ≤ 12) : qokA LC (fC_fly f to b x A) ∧ iva IC (fC_fly f to b x A) ∧ ivf JC (fC_fly f to b x A) ∧ frm [69, 70] [(68, 2), (68, 3)] A (fC_fly f to b x A) := by
  obtain ⟨r, B, hB, _, hk⟩ := okM_ex okC_fly (as := [rf 68, ni f, ni to, ni b, ni x]) (K := fun _ B => B = (fC_fly f to b x A) ∧ iva IC (fC_fly f to b x A) ∧ ivf JC (fC_fly f to b x A) ∧ frm [69, 70] [(68, 2), (68, 3)] A (fC_fly f to b x A)) hA (qoks_c (show qok (rf _) from trivial) (qoks_c (show rng f from ⟨by (first | (clear hm hnf; omega) | omega), by (first | (clear hm hnf; omega) | omega)⟩) (qoks_c (rg_to) (qoks_c (rg_b) (qoks_c (show rng x from ⟨by (first | (clear hm hnf; omega) | omega), by (first | (clear hm hnf; omega) | omega)⟩) qoks_n))))) ⟨f, to, b, x, rfl, ⟨p0, p1, p2, p3, p4, p5⟩, fun A9 i9 j9 f9 x0 => (by rw [← x0]; exact ⟨rfl, i9, j9, f9⟩)⟩
  exact ⟨hk.1 ▸ hB, hk.2⟩
