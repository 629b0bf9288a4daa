def fC_isTold (x c : Int) (A : qA) : Int := qlet (jsu x c) fun v1 => qlet ((1 : Int)) fun v3 => qlet (ja v1 v3) fun v5 => qlet ((0 : Int)) fun v7 => qlet (jc v5 v7) fun v9 => (if v9 = 0 then 0 else 1)
def sC_isTold : qS := fun as A K => ∃ x c : Int, as = [nl x, ni c] ∧ (∀ r : Int, 0 ≤ r → r ≤ 1 → (r = fC_isTold x c A) → K (some (ni r)) A)
theorem okC_isTold : okM LC 1 142 sC_isTold := by
  refine qmeth [] false [] 18 rfl trivial ?_
  rintro _ A K hA has ⟨x, c, rfl, hK⟩
  have rg_x : rngL x := has (nl x) (by simp)
  have rg_c : rng c := has (ni c) (by simp)
  have hT : _ = fC_isTold x c A := (fC_isTold.eq_1 x c A).symm
  refine ⟨Nat.le_of_ble_eq_true rfl, [], trivial, ?_⟩
  refine fun v1 e2 => ?_
  replace hT := qlc e2 hT
  refine fun (v3 : Int) (e4 : v3 = 1) => ?_
  replace hT := qlc e4 hT
  refine fun v5 e6 => ?_
  replace hT := qlc e6 hT
  refine fun (v7 : Int) (e8 : v7 = 0) => ?_
  replace hT := qlc e8 hT
  refine fun v9 e10 => ?_
  replace hT := qlc e10 hT
  refine And.intro (fun h11 => ?_) (fun h11 => ?_)
  · replace hT := (if_pos h11).symm.trans hT
    exact And.intro (by (first | (clear hm hnf; omega) | omega)) (hK _ (by (first | (clear hm hnf; omega) | omega)) (by (first | (clear hm hnf; omega) | omega)) hT)
  · replace hT := (if_neg h11).symm.trans hT
    exact And.intro (by (first | (clear hm hnf; omega) | omega)) (hK _ (by (first | (clear hm hnf; omega) | omega)) (by (first | (clear hm hnf; omega) | omega)) hT)
theorem pC_isTold {x c : Int} {A : qA} (hA : qokA LC A) (rg_x : rngL x) (rg_c : rng c) : (0 ≤ (fC_isTold x c A) ∧ (fC_isTold x c A) ≤ 1) := by
  obtain ⟨r, B, hB, _, hk⟩ := okM_ex okC_isTold (as := [nl x, ni c]) (K := fun _ B => B = A ∧ (0 ≤ (fC_isTold x c A) ∧ (fC_isTold x c A) ≤ 1)) hA (qoks_c (rg_x) (qoks_c (rg_c) qoks_n)) ⟨x, c, rfl, fun r9 g8 g9 x0 => (by rw [← x0]; exact ⟨rfl, ⟨g8, g9⟩⟩)⟩
  exact hk.2
def fC_toldCells (x t : Int) (A : qA) : Int := qlet (fC_bitsL x A) fun r1 => qlet (jsu x 48) fun v4 => qlet ((0 : Int)) fun v6 => qlet (jc v4 v6) fun v8 => (if v8 = 0 then (if t < r1 then 0 else r1) else 0)
def sC_toldCells : qS := fun as A K => ∃ x t : Int, as = [nl x, ni t] ∧ (∀ r : Int, rng r → (r = fC_toldCells x t A) → K (some (ni r)) A)
theorem okC_toldCells : okM LC 2 143 sC_toldCells := by
  refine qmeth [] true [(249, sC_bitsL)] 22 rfl ⟨okC_bitsL.le (by decide), trivial⟩ ?_
  rintro _ A K hA has ⟨x, t, rfl, hK⟩
  have rg_x : rngL x := has (nl x) (by simp)
  have rg_t : rng t := has (ni t) (by simp)
  have hT : _ = fC_toldCells x t A := (fC_toldCells.eq_1 x t A).symm
  refine ⟨Nat.le_of_ble_eq_true rfl, [], trivial, ?_⟩
  refine Exists.intro x (And.intro rfl (fun r1 g3 g2 => ?_))
  replace hT := qlc g2 hT
  clear g2
  refine fun v4 e5 => ?_
  replace hT := qlc e5 hT
  refine fun (v6 : Int) (e7 : v6 = 0) => ?_
  replace hT := qlc e7 hT
  refine fun v8 e9 => ?_
  replace hT := qlc e9 hT
  refine And.intro (fun h10 => ?_) (fun h10 => ?_)
  · replace hT := (if_neg h10).symm.trans hT
    exact hK _ (by first | assumption | exact wI_rng _ | exact ⟨by (first | (clear hm hnf; omega) | omega), by (first | (clear hm hnf; omega) | omega)⟩ | exact i_rng _ | (subst_vars; exact i_rng _) | exact (hA _ _).2 rfl) hT
  · replace hT := (if_pos h10).symm.trans hT
    refine And.intro (fun h11 => ?_) (fun h11 => ?_)
    · replace hT := (if_neg (Int.not_lt.mpr h11)).symm.trans hT
      exact hK _ (by first | assumption | exact wI_rng _ | exact ⟨by (first | (clear hm hnf; omega) | omega), by (first | (clear hm hnf; omega) | omega)⟩ | exact i_rng _ | (subst_vars; exact i_rng _) | exact (hA _ _).2 rfl) hT
    · replace hT := (if_pos h11).symm.trans hT
      exact hK _ (by first | assumption | exact wI_rng _ | exact ⟨by (first | (clear hm hnf; omega) | omega), by (first | (clear hm hnf; omega) | omega)⟩ | exact i_rng _ | (subst_vars; exact i_rng _) | exact (hA _ _).2 rfl) hT
theorem pC_toldCells {x t : Int} {A : qA} (hA : qokA LC A) (rg_x : rngL x) (rg_t : rng t) : rng (fC_toldCells x t A) := by
  obtain ⟨r, B, hB, _, hk⟩ := okM_ex okC_toldCells (as := [nl x, ni t]) (K := fun _ B => B = A ∧ rng (fC_toldCells x t A)) hA (qoks_c (rg_x) (qoks_c (rg_t) qoks_n)) ⟨x, t, rfl, fun r9 g9 x0 => (by rw [← x0]; exact ⟨rfl, g9⟩)⟩
  exact hk.2
def fC_hoursBetween (a b : Int) (A : qA) : Int := qlet (qd a 6) fun v5 => qlet (qd b 6) fun v8 => qlet (v5 - v8) fun v11 => qlet (if 0 ≤ v11 then v11 else -v11) fun v13 => qlet (2 * v13) fun v16 => qlet (qm a 6) fun v18 => qlet (qm b 6) fun v21 => qlet (v18 - v21) fun v24 => qlet (if 0 ≤ v24 then v24 else -v24) fun v26 => qlet (v16 + v26) fun v29 => v29
def sC_hoursBetween : qS := fun as A K => ∃ a b : Int, as = [ni a, ni b] ∧ (0 ≤ a ∧ a ≤ 47 ∧ 0 ≤ b ∧ b ≤ 47) ∧ (∀ r : Int, 0 ≤ r → r ≤ 19 → (r = fC_hoursBetween a b A) → K (some (ni r)) A)
theorem okC_hoursBetween : okM LC 1 65 sC_hoursBetween := by
  refine qmeth [] false [] 26 rfl trivial ?_
  rintro _ A K hA has ⟨a, b, rfl, ⟨p1, p2, p3, p4⟩, hK⟩
  have rg_a : rng a := has (ni a) (by simp)
  have rg_b : rng b := has (ni b) (by simp)
  have hT : _ = fC_hoursBetween a b A := (fC_hoursBetween.eq_1 a b A).symm
  refine ⟨Nat.le_of_ble_eq_true rfl, [], trivial, ?_⟩
  refine And.intro (by (first | (clear hm hnf; omega) | omega)) (fun v5 e6 => ?_)
  replace hT := qlc e6 hT
  have h7 := qd_nn (a := a) (b := 6) (by (first | (clear hm hnf; omega) | omega))
  refine And.intro (by (first | (clear hm hnf; omega) | omega)) (fun v8 e9 => ?_)
  replace hT := qlc e9 hT
  have h10 := qd_nn (a := b) (b := 6) (by (first | (clear hm hnf; omega) | omega))
  refine fun v11 e12 => ?_
  replace hT := qlc e12 hT
  refine And.intro (by (first | (clear hm hnf; omega) | omega)) ((And.intro (by (first | (clear hm hnf; omega) | omega)) (fun v13 e14 => ?_)))
  replace hT := qlc e14 hT
  have h15 := abs_bd v11
  rw [← e14] at h15
  refine fun v16 e17 => ?_
  replace hT := qlc e17 hT
  refine And.intro (by (first | (clear hm hnf; omega) | omega)) (fun v18 e19 => ?_)
  replace hT := qlc e19 hT
  have h20 := qm_nn (a := a) (b := 6) (by (first | (clear hm hnf; omega) | omega))
  refine And.intro (by (first | (clear hm hnf; omega) | omega)) (fun v21 e22 => ?_)
  replace hT := qlc e22 hT
  have h23 := qm_nn (a := b) (b := 6) (by (first | (clear hm hnf; omega) | omega))
  refine fun v24 e25 => ?_
  replace hT := qlc e25 hT
  refine And.intro (by (first | (clear hm hnf; omega) | omega)) ((And.intro (by (first | (clear hm hnf; omega) | omega)) (fun v26 e27 => ?_)))
  replace hT := qlc e27 hT
  have h28 := abs_bd v24
  rw [← e27] at h28
  refine fun v29 e30 => ?_
  replace hT := qlc e30 hT
  exact And.intro (by (first | (clear hm hnf; omega) | omega)) (hK _ (by (first | (clear hm hnf; omega) | omega)) (by (first | (clear hm hnf; omega) | omega)) hT)
theorem pC_hoursBetween {a b : Int} {A : qA} (hA : qokA LC A) (p0 : 0 ≤ a) (p1 : a ≤ 47) (p2 : 0 ≤ b) (p3 : b ≤ 47) : (0 ≤ (fC_hoursBetween a b A) ∧ (fC_hoursBetween a b A) ≤ 19) := by
  obtain ⟨r, B, hB, _, hk⟩ := okM_ex okC_hoursBetween (as := [ni a, ni b]) (K := fun _ B => B = A ∧ (0 ≤ (fC_hoursBetween a b A) ∧ (fC_hoursBetween a b A) ≤ 19)) hA (qoks_c (show rng a from ⟨by (first | (clear hm hnf; omega) | omega), by (first | (clear hm hnf; omega) | omega)⟩) (qoks_c (show rng b from ⟨by (first | (clear hm hnf; omega) | omega), by (first | (clear hm hnf; omega) | omega)⟩) qoks_n)) ⟨a, b, rfl, ⟨p0, p1, p2, p3⟩, fun r9 g8 g9 x0 => (by rw [← x0]; exact ⟨rfl, ⟨g8, g9⟩⟩)⟩
  exact hk.2
def fC_tell_c5 (rec : Nat → List Int → qA → qA) (l1 k : Int) (B : qA) : qA := (if k < 48 then qlet (fC_isTold l1 k B) fun r7 => (if r7 = 0 then qlet (k + 1) fun v12 => rec 5 [l1, v12] B else qlet (B 55 (fd 7)) fun v14 => (if v14 < 8 then qlet (B 55 (fd 7)) fun v20 => qlet (qu B 56 v14 k) fun A24 => qlet (A24 55 (fd 7)) fun v29 => qlet (v14 + 1) fun v33 => qlet (qu A24 55 (fd 7) v33) fun A35 => qlet (k + 1) fun v40 => rec 5 [l1, v40] A35 else qlet (k + 1) fun v18 => rec 5 [l1, v18] B)) else B)
def fC_tell_L : Nat → Nat → List Int → qA → qA
  | 0 => fun _ _ B => B
  | nF + 1 => fun k zs B => bif Nat.beq k 5 then (match zs with | [l1, k] => fC_tell_c5 (fC_tell_L nF) l1 k B | _ => B) else B
theorem fC_tell_L5 (nF : Nat) (l1 k : Int) (B : qA) : fC_tell_L (nF + 1) 5 [l1, k] B = fC_tell_c5 (fC_tell_L nF) l1 k B := (congrFun (congrFun (congrFun (fC_tell_L.eq_2 nF) 5) [l1, k]) B).trans (qL1 rfl rfl)
def fC_tell (x : Int) (A : qA) : qA := qlet (qu A 55 (fd 7) 0) fun A1 => (fC_tell_L 100000) 5 [x, 0] A1
def sC_tell : qS := fun as A K => ∃ x : Int, as = [rf 55, nl x] ∧ (iva IC A ∧ ivf JC A) ∧ (∀ A' : qA, iva IC A' → ivf JC A' → frm [56] [(55, 7)] A A' → (A' = fC_tell x A) → K none A')
theorem okC_tell : okM LC 2 63 sC_tell := by
  refine qmeth [] false [(142, sC_isTold)] 37 rfl ⟨okC_isTold.le (by decide), trivial⟩ ?_
  rintro _ A K hA has ⟨x, rfl, ⟨i0, j0⟩, hK⟩
  have rg_x : rngL x := has (nl x) (by simp)
  have f0 := frm_0 [56] [(55, 7)] A
  have hT : _ = fC_tell x A := (fC_tell.eq_1 x A).symm
  refine ⟨Nat.le_of_ble_eq_true rfl, [(5, [(0, 2, 55), (1, 1, 0), (3, 0, 0)], fun zs B nn => match zs with | [l1, k] => iva IC B ∧ ivf JC B ∧ frm [56] [(55, 7)] A B ∧ nn = (48 - k : Int).toNat ∧ (l1 = x) ∧ (0 ≤ k) ∧ (k ≤ 48) ∧ (∃ nf : Nat, nn < nf ∧ fC_tell_L nf 5 [l1, k] B = fC_tell x A) | _ => False)], ?_, ?_⟩
  · refine ⟨⟨rfl, ?_⟩, trivial⟩
    · refine fun l1 k B mm hB hz hI => ?_
      obtain ⟨i1, j1, f1, hm, c0, c1, c2, ⟨nf, hnf, hT⟩⟩ := hI
      obtain ⟨hz_l1, hz_k, _⟩ := hz
      obtain ⟨ng, rfl⟩ : ∃ k, nf = k + 1 := ⟨nf - 1, by omega⟩
      replace hT := (fC_tell_c5.eq_1 (fC_tell_L ng) l1 k B).symm.trans ((fC_tell_L5 ng l1 k B).symm.trans hT)
      refine And.intro (fun h6 => ?_) (fun h6 => ?_)
      · replace hT := (if_neg (Int.not_lt.mpr h6)).symm.trans hT
        exact hK _ i1 j1 f1 hT
      · replace hT := (if_pos h6).symm.trans hT
        refine Exists.intro l1 (Exists.intro k (And.intro rfl (fun r7 g9 g10 g8 => ?_)))
        replace hT := qlc g8 hT
        clear g8
        refine And.intro (fun h11 => ?_) (fun h11 => ?_)
        · replace hT := (if_pos h11).symm.trans hT
          refine fun v12 e13 => ?_
          replace hT := qlc e13 hT
          exact And.intro (by (first | (clear hm hnf; omega) | omega)) (Exists.intro (48 - v12 : Int).toNat (And.intro (by first | exact qtn hm (by (try clear hm hnf); omega) | omega) (And.intro i1 (And.intro j1 (And.intro f1 (And.intro rfl (And.intro (by (first | (clear hm hnf; omega) | omega)) (And.intro (by (first | (clear hm hnf; omega) | omega)) (And.intro (by (first | (clear hm hnf; omega) | omega)) (Exists.intro ng (And.intro (by first | exact qtm hm hnf (by (try clear hm hnf); omega) | omega) hT)))))))))))
        · replace hT := (if_neg h11).symm.trans hT
          refine fun v14 gv14 e15 => ?_
          replace hT := qlc e15 hT
          have b16 := ivf_at j1 5 rfl
          refine And.intro (fun h17 => ?_) (fun h17 => ?_)
          · replace hT := (if_neg (Int.not_lt.mpr h17)).symm.trans hT
            refine fun v18 e19 => ?_
            replace hT := qlc e19 hT
            exact And.intro (by (first | (clear hm hnf; omega) | omega)) (Exists.intro (48 - v18 : Int).toNat (And.intro (by first | exact qtn hm (by (try clear hm hnf); omega) | omega) (And.intro i1 (And.intro j1 (And.intro f1 (And.intro rfl (And.intro (by (first | (clear hm hnf; omega) | omega)) (And.intro (by (first | (clear hm hnf; omega) | omega)) (And.intro (by (first | (clear hm hnf; omega) | omega)) (Exists.intro ng (And.intro (by first | exact qtm hm hnf (by (try clear hm hnf); omega) | omega) hT)))))))))))
          · replace hT := (if_pos h17).symm.trans hT
            refine fun v20 gv20 e21 => ?_
            replace hT := qlc e21 hT
            have b22 := ivf_at j1 5 rfl
            have q23 : v14 = v20 := (e21.trans e15.symm).symm
            subst q23
            refine And.intro (by (first | (clear hm hnf; omega) | omega)) (fun A24 e25 => ?_)
            replace hT := qlc e25 hT
            have i26 := iva_st i1 e25 (And.intro (by (first | (clear hm hnf; omega) | omega)) trivial)
            have j27 := ivf_sa j1 e25 rfl
            have f28 := frm_s f1 e25 rfl
            refine fun v29 gv29 e30 => ?_
            replace hT := qlc e30 hT
            have b31 := ivf_at j27 5 rfl
            have q32 : v14 = v29 := (e30.trans ((congrFun (st_a e25 rfl) _).trans e21.symm)).symm
            subst q32
            refine fun v33 e34 => ?_
            replace hT := qlc e34 hT
            refine And.intro (by (first | (clear hm hnf; omega) | omega)) (fun A35 e36 => ?_)
            replace hT := qlc e36 hT
            have i37 := iva_sf i26 e36 rfl
            have j38 := ivf_st j27 e36 (And.intro (by (first | (clear hm hnf; omega) | omega)) trivial)
            have f39 := frm_sf f28 e36 rfl
            refine fun v40 e41 => ?_
            replace hT := qlc e41 hT
            exact And.intro (by (first | (clear hm hnf; omega) | omega)) (Exists.intro (48 - v40 : Int).toNat (And.intro (by first | exact qtn hm (by (try clear hm hnf); omega) | omega) (And.intro i37 (And.intro j38 (And.intro f39 (And.intro rfl (And.intro (by (first | (clear hm hnf; omega) | omega)) (And.intro (by (first | (clear hm hnf; omega) | omega)) (And.intro (by (first | (clear hm hnf; omega) | omega)) (Exists.intro ng (And.intro (by first | exact qtm hm hnf (by (try clear hm hnf); omega) | omega) hT)))))))))))
  · refine fun A1 e2 => ?_
    replace hT := qlc e2 hT
    have i3 := iva_sf i0 e2 rfl
    have j4 := ivf_st j0 e2 (And.intro (by (first | (clear hm hnf; omega) | omega)) trivial)
    have f5 := frm_sf f0 e2 rfl
    exact Exists.intro (48 - 0 : Int).toNat (And.intro i3 (And.intro j4 (And.intro f5 (And.intro rfl (And.intro (by (first | (clear hm hnf; omega) | omega)) (And.intro (by (first | (clear hm hnf; omega) | omega)) (And.intro (by (first | (clear hm hnf; omega) | omega)) (Exists.intro 100000 (And.intro (by (first | (clear hm hnf; omega) | omega)) hT)))))))))
theorem pC_tell {x : Int} {A : qA} (hA : qokA LC A) (rg_x : rngL x) (p0 : iva IC A) (p1 : ivf JC A) : qokA LC (fC_tell x A) ∧ iva IC (fC_tell x A) ∧ ivf JC (fC_tell x A) ∧ frm [56] [(55, 7)] A (fC_tell x A) := by
  obtain ⟨r, B, hB, _, hk⟩ := okM_ex okC_tell (as := [rf 55, nl x]) (K := fun _ B => B = (fC_tell x A) ∧ iva IC (fC_tell x A) ∧ ivf JC (fC_tell x A) ∧ frm [56] [(55, 7)] A (fC_tell x A)) hA (qoks_c (show qok (rf _) from trivial) (qoks_c (rg_x) qoks_n)) ⟨x, rfl, ⟨p0, p1⟩, fun A9 i9 j9 f9 x0 => (by rw [← x0]; exact ⟨rfl, i9, j9, f9⟩)⟩
  exact ⟨hk.1 ▸ hB, hk.2⟩
def fC_asWork_c2 (rec : Nat → List Int → qA → qA) (l1 x : Int) (B : qA) : qA := qlet (B 55 (fd 7)) fun v3 => (if x < v3 then rec 8 [l1, x, 0] B else B)
def fC_asWork_c8 (rec : Nat → List Int → qA → qA) (l1 x y : Int) (B : qA) : qA := qlet (B 55 (fd 7)) fun v7 => (if y < v7 then qlet (y * 8) fun v46 => qlet (v46 + x) fun v48 => qlet (B 56 y) fun v50 => qlet (B 56 x) fun v53 => qlet (fC_hoursBetween v50 v53 B) fun r56 => qlet (r56 + 1) fun v60 => qlet (qu B 57 v48 v60) fun A62 => qlet (y + 1) fun v67 => rec 8 [l1, x, v67] A62 else qlet (64 + x) fun v11 => qlet (l1 * 6) fun v13 => qlet (B 56 x) fun v15 => qlet (fC_hoursBetween v13 v15 B) fun r18 => qlet (r18 + 1) fun v22 => qlet (qu B 57 v11 v22) fun A24 => qlet (qu A24 58 x 0) fun A29 => qlet (qu A29 59 x 0) fun A34 => qlet (qu A34 60 x 0) fun A39 => qlet (x + 1) fun v44 => rec 2 [l1, v44] A39)
def fC_asWork_L : Nat → Nat → List Int → qA → qA
  | 0 => fun _ _ B => B
  | nF + 1 => fun k zs B => bif Nat.beq k 2 then (match zs with | [l1, x] => fC_asWork_c2 (fC_asWork_L nF) l1 x B | _ => B) else bif Nat.beq k 8 then (match zs with | [l1, x, y] => fC_asWork_c8 (fC_asWork_L nF) l1 x y B | _ => B) else B
theorem fC_asWork_L2 (nF : Nat) (l1 x : Int) (B : qA) : fC_asWork_L (nF + 1) 2 [l1, x] B = fC_asWork_c2 (fC_asWork_L nF) l1 x B := (congrFun (congrFun (congrFun (fC_asWork_L.eq_2 nF) 2) [l1, x]) B).trans (qL1 rfl rfl)
theorem fC_asWork_L8 (nF : Nat) (l1 x y : Int) (B : qA) : fC_asWork_L (nF + 1) 8 [l1, x, y] B = fC_asWork_c8 (fC_asWork_L nF) l1 x y B := (congrFun (congrFun (congrFun (fC_asWork_L.eq_2 nF) 8) [l1, x, y]) B).trans (qL0 rfl (qL1 rfl rfl))
def fC_asWork (c : Int) (A : qA) : qA := (fC_asWork_L 100000) 2 [c, 0] A
def sC_asWork : qS := fun as A K => ∃ c : Int, as = [rf 55, ni c] ∧ (iva IC A ∧ ivf JC A ∧ 0 ≤ c ∧ c ≤ 7) ∧ (∀ A' : qA, iva IC A' → ivf JC A' → frm [57, 58, 59, 60] [] A A' → (A' = fC_asWork c A) → K none A')
theorem okC_asWork : okM LC 2 64 sC_asWork := by
  refine qmeth [] false [(65, sC_hoursBetween)] 73 rfl ⟨okC_hoursBetween.le (by decide), trivial⟩ ?_
  rintro _ A K hA has ⟨c, rfl, ⟨i0, j0, p1, p2⟩, hK⟩
  have rg_c : rng c := has (ni c) (by simp)
  have f0 := frm_0 [57, 58, 59, 60] [] A
  have hT : _ = fC_asWork c A := (fC_asWork.eq_1 c A).symm
  refine ⟨Nat.le_of_ble_eq_true rfl, [(2, [(0, 2, 55), (1, 0, 0), (2, 0, 0)], fun zs B nn => match zs with | [l1, x] => iva IC B ∧ ivf JC B ∧ frm [57, 58, 59, 60] [] A B ∧ nn = ((8 - x) * 100 + 50 : Int).toNat ∧ (l1 = c) ∧ (0 ≤ x) ∧ (x ≤ 8) ∧ (∃ nf : Nat, nn < nf ∧ fC_asWork_L nf 2 [l1, x] B = fC_asWork c A) | _ => False), (8, [(0, 2, 55), (1, 0, 0), (2, 0, 0), (3, 0, 0)], fun zs B nn => match zs with | [l1, x, y] => iva IC B ∧ ivf JC B ∧ frm [57, 58, 59, 60] [] A B ∧ nn = ((8 - x) * 100 + 8 - y : Int).toNat ∧ (l1 = c) ∧ (0 ≤ x) ∧ (x ≤ 7) ∧ (0 ≤ y) ∧ (y ≤ 8) ∧ (∃ nf : Nat, nn < nf ∧ fC_asWork_L nf 8 [l1, x, y] B = fC_asWork c A) | _ => False)], ?_, ?_⟩
  · refine ⟨⟨rfl, ?_⟩, ⟨rfl, ?_⟩, trivial⟩
    · refine fun l1 x B mm hB hz hI => ?_
      obtain ⟨i1, j1, f1, hm, c0, c1, c2, ⟨nf, hnf, hT⟩⟩ := hI
      obtain ⟨hz_l1, hz_x, _⟩ := hz
      obtain ⟨ng, rfl⟩ : ∃ k, nf = k + 1 := ⟨nf - 1, by omega⟩
      replace hT := (fC_asWork_c2.eq_1 (fC_asWork_L ng) l1 x B).symm.trans ((fC_asWork_L2 ng l1 x B).symm.trans hT)
      refine fun v3 gv3 e4 => ?_
      replace hT := qlc e4 hT
      have b5 := ivf_at j1 5 rfl
      refine And.intro (fun h6 => ?_) (fun h6 => ?_)
      · replace hT := (if_neg (Int.not_lt.mpr h6)).symm.trans hT
        exact hK _ i1 j1 f1 hT
      · replace hT := (if_pos h6).symm.trans hT
        exact Exists.intro ((8 - x) * 100 + 8 - 0 : Int).toNat (And.intro (by first | exact qtn hm (by (try clear hm hnf); omega) | omega) (And.intro i1 (And.intro j1 (And.intro f1 (And.intro rfl (And.intro (by (first | (clear hm hnf; omega) | omega)) (And.intro (by (first | (clear hm hnf; omega) | omega)) (And.intro (by (first | (clear hm hnf; omega) | omega)) (And.intro (by (first | (clear hm hnf; omega) | omega)) (And.intro (by (first | (clear hm hnf; omega) | omega)) (Exists.intro ng (And.intro (by first | exact qtm hm hnf (by (try clear hm hnf); omega) | omega) hT))))))))))))
    · refine fun l1 x y B mm hB hz hI => ?_
      obtain ⟨i1, j1, f1, hm, c0, c1, c2, c3, c4, ⟨nf, hnf, hT⟩⟩ := hI
      obtain ⟨hz_l1, hz_x, hz_y, _⟩ := hz
      obtain ⟨ng, rfl⟩ : ∃ k, nf = k + 1 := ⟨nf - 1, by omega⟩
      replace hT := (fC_asWork_c8.eq_1 (fC_asWork_L ng) l1 x y B).symm.trans ((fC_asWork_L8 ng l1 x y B).symm.trans hT)
      refine fun v7 gv7 e8 => ?_
      replace hT := qlc e8 hT
      have b9 := ivf_at j1 5 rfl
      refine And.intro (fun h10 => ?_) (fun h10 => ?_)
      · replace hT := (if_neg (Int.not_lt.mpr h10)).symm.trans hT
        refine fun v11 e12 => ?_
        replace hT := qlc e12 hT
        refine fun v13 e14 => ?_
        replace hT := qlc e14 hT
        refine And.intro (by (first | (clear hm hnf; omega) | omega)) (fun v15 gv15 e16 => ?_)
        replace hT := qlc e16 hT
        have b17 := iva_at i1 27 rfl (i := x) (by (first | (clear hm hnf; omega) | omega)) (by (first | (clear hm hnf; omega) | omega))
        refine And.intro (by (first | (clear hm hnf; omega) | omega)) (Exists.intro v13 (Exists.intro v15 (And.intro rfl (And.intro (And.intro (by (first | (clear hm hnf; omega) | omega)) (And.intro (by (first | (clear hm hnf; omega) | omega)) (And.intro (by (first | (clear hm hnf; omega) | omega)) (by (first | (clear hm hnf; omega) | omega))))) (fun r18 g20 g21 g19 => ?_)))))
        replace hT := qlc g19 hT
        clear g19
        refine fun v22 e23 => ?_
        replace hT := qlc e23 hT
        refine And.intro (by (first | (clear hm hnf; omega) | omega)) (And.intro (by (first | (clear hm hnf; omega) | omega)) (fun A24 e25 => ?_))
        replace hT := qlc e25 hT
        have i26 := iva_st i1 e25 trivial
        have j27 := ivf_sa j1 e25 rfl
        have f28 := frm_s f1 e25 rfl
        refine And.intro (by (first | (clear hm hnf; omega) | omega)) (fun A29 e30 => ?_)
        replace hT := qlc e30 hT
        have i31 := iva_st i26 e30 (And.intro (by (first | (clear hm hnf; omega) | omega)) trivial)
        have j32 := ivf_sa j27 e30 rfl
        have f33 := frm_s f28 e30 rfl
        refine And.intro (by (first | (clear hm hnf; omega) | omega)) (fun A34 e35 => ?_)
        replace hT := qlc e35 hT
        have i36 := iva_st i31 e35 (And.intro (by (first | (clear hm hnf; omega) | omega)) trivial)
        have j37 := ivf_sa j32 e35 rfl
        have f38 := frm_s f33 e35 rfl
        refine And.intro (by (first | (clear hm hnf; omega) | omega)) (fun A39 e40 => ?_)
        replace hT := qlc e40 hT
        have i41 := iva_st i36 e40 trivial
        have j42 := ivf_sa j37 e40 rfl
        have f43 := frm_s f38 e40 rfl
        refine fun v44 e45 => ?_
        replace hT := qlc e45 hT
        exact And.intro (by (first | (clear hm hnf; omega) | omega)) (Exists.intro ((8 - v44) * 100 + 50 : Int).toNat (And.intro (by first | exact qtn hm (by (try clear hm hnf); omega) | omega) (And.intro i41 (And.intro j42 (And.intro f43 (And.intro rfl (And.intro (by (first | (clear hm hnf; omega) | omega)) (And.intro (by (first | (clear hm hnf; omega) | omega)) (And.intro (by (first | (clear hm hnf; omega) | omega)) (Exists.intro ng (And.intro (by first | exact qtm hm hnf (by (try clear hm hnf); omega) | omega) hT)))))))))))
      · replace hT := (if_pos h10).symm.trans hT
        refine fun v46 e47 => ?_
        replace hT := qlc e47 hT
        refine fun v48 e49 => ?_
        replace hT := qlc e49 hT
        refine And.intro (by (first | (clear hm hnf; omega) | omega)) (fun v50 gv50 e51 => ?_)
        replace hT := qlc e51 hT
        have b52 := iva_at i1 27 rfl (i := y) (by (first | (clear hm hnf; omega) | omega)) (by (first | (clear hm hnf; omega) | omega))
        refine And.intro (by (first | (clear hm hnf; omega) | omega)) (fun v53 gv53 e54 => ?_)
        replace hT := qlc e54 hT
        have b55 := iva_at i1 27 rfl (i := x) (by (first | (clear hm hnf; omega) | omega)) (by (first | (clear hm hnf; omega) | omega))
        refine Exists.intro v50 (Exists.intro v53 (And.intro rfl (And.intro (And.intro (by (first | (clear hm hnf; omega) | omega)) (And.intro (by (first | (clear hm hnf; omega) | omega)) (And.intro (by (first | (clear hm hnf; omega) | omega)) (by (first | (clear hm hnf; omega) | omega))))) (fun r56 g58 g59 g57 => ?_))))
        replace hT := qlc g57 hT
        clear g57
        refine fun v60 e61 => ?_
        replace hT := qlc e61 hT
        refine And.intro (by (first | (clear hm hnf; omega) | omega)) (And.intro (by (first | (clear hm hnf; omega) | omega)) (fun A62 e63 => ?_))
        replace hT := qlc e63 hT
        have i64 := iva_st i1 e63 trivial
        have j65 := ivf_sa j1 e63 rfl
        have f66 := frm_s f1 e63 rfl
        refine fun v67 e68 => ?_
        replace hT := qlc e68 hT
        exact And.intro (by (first | (clear hm hnf; omega) | omega)) (Exists.intro ((8 - x) * 100 + 8 - v67 : Int).toNat (And.intro (by first | exact qtn hm (by (try clear hm hnf); omega) | omega) (And.intro i64 (And.intro j65 (And.intro f66 (And.intro rfl (And.intro (by (first | (clear hm hnf; omega) | omega)) (And.intro (by (first | (clear hm hnf; omega) | omega)) (And.intro (by (first | (clear hm hnf; omega) | omega)) (And.intro (by (first | (clear hm hnf; omega) | omega)) (And.intro (by (first | (clear hm hnf; omega) | omega)) (Exists.intro ng (And.intro (by first | exact qtm hm hnf (by (try clear hm hnf); omega) | omega) hT)))))))))))))
  · exact Exists.intro ((8 - 0) * 100 + 50 : Int).toNat (And.intro i0 (And.intro j0 (And.intro f0 (And.intro rfl (And.intro (by (first | (clear hm hnf; omega) | omega)) (And.intro (by (first | (clear hm hnf; omega) | omega)) (And.intro (by (first | (clear hm hnf; omega) | omega)) (Exists.intro 100000 (And.intro (by (first | (clear hm hnf; omega) | omega)) hT)))))))))
theorem pC_asWork {c : Int} {A : qA} (hA : qokA LC A) (p0 : iva IC A) (p1 : ivf JC A) (p2 : 0 ≤ c) (p3 : c ≤ 7) : qokA LC (fC_asWork c A) ∧ iva IC (fC_asWork c A) ∧ ivf JC (fC_asWork c A) ∧ frm [57, 58, 59, 60] [] A (fC_asWork c A) := by
  obtain ⟨r, B, hB, _, hk⟩ := okM_ex okC_asWork (as := [rf 55, ni c]) (K := fun _ B => B = (fC_asWork c A) ∧ iva IC (fC_asWork c A) ∧ ivf JC (fC_asWork c A) ∧ frm [57, 58, 59, 60] [] A (fC_asWork c A)) hA (qoks_c (show qok (rf _) from trivial) (qoks_c (show rng c from ⟨by (first | (clear hm hnf; omega) | omega), by (first | (clear hm hnf; omega) | omega)⟩) qoks_n)) ⟨c, rfl, ⟨p0, p1, p2, p3⟩, fun A9 i9 j9 f9 x0 => (by rw [← x0]; exact ⟨rfl, i9, j9, f9⟩)⟩
  exact ⟨hk.1 ▸ hB, hk.2⟩
def fC_asMending_c6 (rec : Nat → List Int → qA → qA) (x : Int) (B : qA) : qA := qlet (B 55 (fd 7)) fun v7 => (if x < v7 then qlet (B 56 x) fun v11 => qlet (qm v11 6) fun v14 => qlet (B 56 x) fun v17 => qlet (qd v11 6) fun v21 => qlet (B 22 v21) fun v24 => qlet (qu B 58 x v24) fun A27 => qlet (1 + v14) fun v32 => qlet (qu A27 59 x v32) fun A34 => (if 0 < x then (if 0 < v14 then qlet (x - 1) fun v57 => qlet (A34 56 v57) fun v59 => qlet (A34 56 x) fun v62 => qlet (v11 - 1) fun v66 => (if v59 = v66 then qlet (x - 1) fun v78 => qlet (sl 1 v78) fun v80 => qlet (qu A34 60 x v80) fun A83 => qlet (x + 1) fun v88 => rec 6 [v88] A83 else qlet (qu A34 60 x 0) fun A70 => qlet (x + 1) fun v75 => rec 6 [v75] A70) else qlet (qu A34 60 x 0) fun A50 => qlet (x + 1) fun v55 => rec 6 [v55] A50) else qlet (qu A34 60 x 0) fun A41 => qlet (x + 1) fun v46 => rec 6 [v46] A41) else B)
def fC_asMending_L : Nat → Nat → List Int → qA → qA
  | 0 => fun _ _ B => B
  | nF + 1 => fun k zs B => bif Nat.beq k 6 then (match zs with | [x] => fC_asMending_c6 (fC_asMending_L nF) x B | _ => B) else B
theorem fC_asMending_L6 (nF : Nat) (x : Int) (B : qA) : fC_asMending_L (nF + 1) 6 [x] B = fC_asMending_c6 (fC_asMending_L nF) x B := (congrFun (congrFun (congrFun (fC_asMending_L.eq_2 nF) 6) [x]) B).trans (qL1 rfl rfl)
def fC_asMending (A : qA) : qA := qlet (fC_fill57 0 A) fun A1 => (fC_asMending_L 100000) 6 [0] A1
def sC_asMending : qS := fun as A K => as = [rf 55, rf 22] ∧ (iva IC A ∧ ivf JC A) ∧ (∀ A' : qA, iva IC A' → ivf JC A' → frm [57, 58, 59, 60] [] A A' → (A' = fC_asMending A) → K none A')
theorem okC_asMending : okM LC 2 66 sC_asMending := by
  refine qmeth [] false [(250, sC_fill57)] 79 rfl ⟨okC_fill57.le (by decide), trivial⟩ ?_
  rintro _ A K hA has ⟨rfl, ⟨i0, j0⟩, hK⟩
  have f0 := frm_0 [57, 58, 59, 60] [] A
  have hT : _ = fC_asMending A := (fC_asMending.eq_1 A).symm
  refine ⟨Nat.le_of_ble_eq_true rfl, [(6, [(0, 2, 55), (1, 2, 22), (2, 0, 0)], fun zs B nn => match zs with | [x] => iva IC B ∧ ivf JC B ∧ frm [57, 58, 59, 60] [] A B ∧ nn = (8 - x : Int).toNat ∧ (0 ≤ x) ∧ (x ≤ 8) ∧ (∃ nf : Nat, nn < nf ∧ fC_asMending_L nf 6 [x] B = fC_asMending A) | _ => False)], ?_, ?_⟩
  · refine ⟨⟨rfl, ?_⟩, trivial⟩
    · refine fun x B mm hB hz hI => ?_
      obtain ⟨i1, j1, f1, hm, c0, c1, ⟨nf, hnf, hT⟩⟩ := hI
      obtain ⟨hz_x, _⟩ := hz
      obtain ⟨ng, rfl⟩ : ∃ k, nf = k + 1 := ⟨nf - 1, by omega⟩
      replace hT := (fC_asMending_c6.eq_1 (fC_asMending_L ng) x B).symm.trans ((fC_asMending_L6 ng x B).symm.trans hT)
      refine fun v7 gv7 e8 => ?_
      replace hT := qlc e8 hT
      have b9 := ivf_at j1 5 rfl
      refine And.intro (fun h10 => ?_) (fun h10 => ?_)
      · replace hT := (if_neg (Int.not_lt.mpr h10)).symm.trans hT
        exact hK _ i1 j1 f1 hT
      · replace hT := (if_pos h10).symm.trans hT
        refine And.intro (by (first | (clear hm hnf; omega) | omega)) (fun v11 gv11 e12 => ?_)
        replace hT := qlc e12 hT
        have b13 := iva_at i1 27 rfl (i := x) (by (first | (clear hm hnf; omega) | omega)) (by (first | (clear hm hnf; omega) | omega))
        refine And.intro (by (first | (clear hm hnf; omega) | omega)) (fun v14 e15 => ?_)
        replace hT := qlc e15 hT
        have h16 := qm_nn (a := v11) (b := 6) (by (first | (clear hm hnf; omega) | omega))
        refine And.intro (by (first | (clear hm hnf; omega) | omega)) (fun v17 gv17 e18 => ?_)
        replace hT := qlc e18 hT
        have b19 := iva_at i1 27 rfl (i := x) (by (first | (clear hm hnf; omega) | omega)) (by (first | (clear hm hnf; omega) | omega))
        have q20 : v11 = v17 := (e18.trans e12.symm).symm
        subst q20
        refine And.intro (by (first | (clear hm hnf; omega) | omega)) (fun v21 e22 => ?_)
        replace hT := qlc e22 hT
        have h23 := qd_nn (a := v11) (b := 6) (by (first | (clear hm hnf; omega) | omega))
        refine And.intro (by (first | (clear hm hnf; omega) | omega)) (fun v24 gv24 e25 => ?_)
        replace hT := qlc e25 hT
        have b26 := iva_at i1 16 rfl (i := v21) (by (first | (clear hm hnf; omega) | omega)) (by (first | (clear hm hnf; omega) | omega))
        refine And.intro (by (first | (clear hm hnf; omega) | omega)) (fun A27 e28 => ?_)
        replace hT := qlc e28 hT
        have i29 := iva_st i1 e28 (And.intro (by (first | (clear hm hnf; omega) | omega)) trivial)
        have j30 := ivf_sa j1 e28 rfl
        have f31 := frm_s f1 e28 rfl
        refine fun v32 e33 => ?_
        replace hT := qlc e33 hT
        refine And.intro (by (first | (clear hm hnf; omega) | omega)) (And.intro (by (first | (clear hm hnf; omega) | omega)) (fun A34 e35 => ?_))
        replace hT := qlc e35 hT
        have i36 := iva_st i29 e35 (And.intro (by (first | (clear hm hnf; omega) | omega)) trivial)
        have j37 := ivf_sa j30 e35 rfl
        have f38 := frm_s f31 e35 rfl
        refine And.intro (fun h39 => ?_) (fun h39 => ?_)
        · replace hT := (if_neg (Int.not_lt.mpr h39)).symm.trans hT
          refine And.intro (fun h40 => ?_) (fun h40 => by exfalso; omega)
          refine And.intro (by (first | (clear hm hnf; omega) | omega)) (fun A41 e42 => ?_)
          replace hT := qlc e42 hT
          have i43 := iva_st i36 e42 trivial
          have j44 := ivf_sa j37 e42 rfl
          have f45 := frm_s f38 e42 rfl
          refine fun v46 e47 => ?_
          replace hT := qlc e47 hT
          exact And.intro (by (first | (clear hm hnf; omega) | omega)) (Exists.intro (8 - v46 : Int).toNat (And.intro (by first | exact qtn hm (by (try clear hm hnf); omega) | omega) (And.intro i43 (And.intro j44 (And.intro f45 (And.intro rfl (And.intro (by (first | (clear hm hnf; omega) | omega)) (And.intro (by (first | (clear hm hnf; omega) | omega)) (Exists.intro ng (And.intro (by first | exact qtm hm hnf (by (try clear hm hnf); omega) | omega) hT))))))))))
        · replace hT := (if_pos h39).symm.trans hT
          refine And.intro (fun h48 => ?_) (fun h48 => ?_)
          · replace hT := (if_neg (Int.not_lt.mpr h48)).symm.trans hT
            refine And.intro (fun h49 => ?_) (fun h49 => by exfalso; omega)
            refine And.intro (by (first | (clear hm hnf; omega) | omega)) (fun A50 e51 => ?_)
            replace hT := qlc e51 hT
            have i52 := iva_st i36 e51 trivial
            have j53 := ivf_sa j37 e51 rfl
            have f54 := frm_s f38 e51 rfl
            refine fun v55 e56 => ?_
            replace hT := qlc e56 hT
            exact And.intro (by (first | (clear hm hnf; omega) | omega)) (Exists.intro (8 - v55 : Int).toNat (And.intro (by first | exact qtn hm (by (try clear hm hnf); omega) | omega) (And.intro i52 (And.intro j53 (And.intro f54 (And.intro rfl (And.intro (by (first | (clear hm hnf; omega) | omega)) (And.intro (by (first | (clear hm hnf; omega) | omega)) (Exists.intro ng (And.intro (by first | exact qtm hm hnf (by (try clear hm hnf); omega) | omega) hT))))))))))
          · replace hT := (if_pos h48).symm.trans hT
            refine fun v57 e58 => ?_
            replace hT := qlc e58 hT
            refine And.intro (by (first | (clear hm hnf; omega) | omega)) (fun v59 gv59 e60 => ?_)
            replace hT := qlc e60 hT
            have b61 := iva_at i36 27 rfl (i := v57) (by (first | (clear hm hnf; omega) | omega)) (by (first | (clear hm hnf; omega) | omega))
            refine And.intro (by (first | (clear hm hnf; omega) | omega)) (fun v62 gv62 e63 => ?_)
            replace hT := qlc e63 hT
            have b64 := iva_at i36 27 rfl (i := x) (by (first | (clear hm hnf; omega) | omega)) (by (first | (clear hm hnf; omega) | omega))
            have q65 : v11 = v62 := (e63.trans ((congrFun (Eq.trans (st_a e35 rfl) (st_a e28 rfl)) _).trans e18.symm)).symm
            subst q65
            refine fun v66 e67 => ?_
            replace hT := qlc e67 hT
            refine And.intro (by (first | (clear hm hnf; omega) | omega)) (And.intro (fun h68 => ?_) (fun h68 => ?_))
            · replace hT := (if_neg h68).symm.trans hT
              refine And.intro (fun h69 => ?_) (fun h69 => by exfalso; omega)
              refine And.intro (by (first | (clear hm hnf; omega) | omega)) (fun A70 e71 => ?_)
              replace hT := qlc e71 hT
              have i72 := iva_st i36 e71 trivial
              have j73 := ivf_sa j37 e71 rfl
              have f74 := frm_s f38 e71 rfl
              refine fun v75 e76 => ?_
              replace hT := qlc e76 hT
              exact And.intro (by (first | (clear hm hnf; omega) | omega)) (Exists.intro (8 - v75 : Int).toNat (And.intro (by first | exact qtn hm (by (try clear hm hnf); omega) | omega) (And.intro i72 (And.intro j73 (And.intro f74 (And.intro rfl (And.intro (by (first | (clear hm hnf; omega) | omega)) (And.intro (by (first | (clear hm hnf; omega) | omega)) (Exists.intro ng (And.intro (by first | exact qtm hm hnf (by (try clear hm hnf); omega) | omega) hT))))))))))
            · replace hT := (if_pos h68).symm.trans hT
              refine And.intro (fun h77 => by exfalso; omega) (fun h77 => ?_)
              refine fun v78 e79 => ?_
              replace hT := qlc e79 hT
              refine fun v80 e81 => ?_
              replace hT := qlc e81 hT
              have h82 := sl_bd (b := v78) 6 (by decide) (by (first | (clear hm hnf; omega) | omega)) (by (first | (clear hm hnf; omega) | omega))
              refine And.intro (by (first | (clear hm hnf; omega) | omega)) (fun A83 e84 => ?_)
              replace hT := qlc e84 hT
              have i85 := iva_st i36 e84 trivial
              have j86 := ivf_sa j37 e84 rfl
              have f87 := frm_s f38 e84 rfl
              refine fun v88 e89 => ?_
              replace hT := qlc e89 hT
              exact And.intro (by (first | (clear hm hnf; omega) | omega)) (Exists.intro (8 - v88 : Int).toNat (And.intro (by first | exact qtn hm (by (try clear hm hnf); omega) | omega) (And.intro i85 (And.intro j86 (And.intro f87 (And.intro rfl (And.intro (by (first | (clear hm hnf; omega) | omega)) (And.intro (by (first | (clear hm hnf; omega) | omega)) (Exists.intro ng (And.intro (by first | exact qtm hm hnf (by (try clear hm hnf); omega) | omega) hT))))))))))
  · refine Exists.intro 0 (And.intro rfl (And.intro (And.intro i0 j0) (fun A1 i2 j3 f4 g5 => ?_)))
    replace hT := qlc g5 hT
    have f6 := frm_c f0 f4 rfl
    exact Exists.intro (8 - 0 : Int).toNat (And.intro i2 (And.intro j3 (And.intro f6 (And.intro rfl (And.intro (by (first | (clear hm hnf; omega) | omega)) (And.intro (by (first | (clear hm hnf; omega) | omega)) (Exists.intro 100000 (And.intro (by (first | (clear hm hnf; omega) | omega)) hT))))))))
theorem pC_asMending {A : qA} (hA : qokA LC A) (p0 : iva IC A) (p1 : ivf JC A) : qokA LC (fC_asMending A) ∧ iva IC (fC_asMending A) ∧ ivf JC (fC_asMending A) ∧ frm [57, 58, 59, 60] [] A (fC_asMending A) := by
  obtain ⟨r, B, hB, _, hk⟩ := okM_ex okC_asMending (as := [rf 55, rf 22]) (K := fun _ B => B = (fC_asMending A) ∧ iva IC (fC_asMending A) ∧ ivf JC (fC_asMending A) ∧ frm [57, 58, 59, 60] [] A (fC_asMending A)) hA (qoks_c (show qok (rf _) from trivial) (qoks_c (show qok (rf _) from trivial) qoks_n)) ⟨rfl, ⟨p0, p1⟩, fun A9 i9 j9 f9 x0 => (by rw [← x0]; exact ⟨rfl, i9, j9, f9⟩)⟩
  exact ⟨hk.1 ▸ hB, hk.2⟩
def fC_spentOn_c4 (rec : Nat → List Int → qA → Int) (l1 s k : Int) (A : qA) : Int := qlet (A 55 (fd 7)) fun v3 => (if k < v3 then qlet (sr l1 k) fun v7 => qlet (ia v7 1) fun v10 => (if v10 = 0 then qlet (k + 1) fun v14 => rec 4 [l1, s, ((wI v14))] A else qlet (A 59 k) fun v18 => qlet (s + v18) fun v21 => qlet (k + 1) fun v23 => rec 4 [l1, ((wI v21)), ((wI v23))] A) else s)
def fC_spentOn_L : Nat → Nat → List Int → qA → Int
  | 0 => fun _ _ B => 0
  | nF + 1 => fun k zs B => bif Nat.beq k 4 then (match zs with | [l1, s, k] => fC_spentOn_c4 (fC_spentOn_L nF) l1 s k B | _ => 0) else 0
theorem fC_spentOn_L4 (nF : Nat) (l1 s k : Int) (B : qA) : fC_spentOn_L (nF + 1) 4 [l1, s, k] B = fC_spentOn_c4 (fC_spentOn_L nF) l1 s k B := (congrFun (congrFun (congrFun (fC_spentOn_L.eq_2 nF) 4) [l1, s, k]) B).trans (qL1 rfl rfl)
def fC_spentOn (d : Int) (A : qA) : Int := (fC_spentOn_L 100000) 4 [d, 0, 0] A
def sC_spentOn : qS := fun as A K => ∃ d : Int, as = [rf 55, ni d] ∧ (iva IC A ∧ ivf JC A ∧ 0 ≤ d ∧ d ≤ 255) ∧ (∀ r : Int, rng r → (r = fC_spentOn d A) → K (some (ni r)) A)
theorem okC_spentOn : okM LC 1 68 sC_spentOn := by
  refine qmeth [] true [] 31 rfl trivial ?_
  rintro _ A K hA has ⟨d, rfl, ⟨i0, j0, p1, p2⟩, hK⟩
  have rg_d : rng d := has (ni d) (by simp)
  have f0 := frm_0 [] [] A
  have hT : _ = fC_spentOn d A := (fC_spentOn.eq_1 d A).symm
  refine ⟨Nat.le_of_ble_eq_true rfl, [(4, [(0, 2, 55), (1, 0, 0), (2, 0, 0), (3, 0, 0)], fun zs B nn => match zs with | [l1, s, k] => A = B ∧ nn = (8 - k : Int).toNat ∧ (l1 = d) ∧ (0 ≤ k) ∧ (k ≤ 8) ∧ (∃ nf : Nat, nn < nf ∧ fC_spentOn_L nf 4 [l1, s, k] B = fC_spentOn d A) | _ => False)], ?_, ?_⟩
  · refine ⟨⟨rfl, ?_⟩, trivial⟩
    · refine fun l1 s k B mm hB hz hI => ?_
      obtain ⟨rfl, hm, c0, c1, c2, ⟨nf, hnf, hT⟩⟩ := hI
      obtain ⟨hz_l1, hz_s, hz_k, _⟩ := hz
      obtain ⟨ng, rfl⟩ : ∃ k, nf = k + 1 := ⟨nf - 1, by omega⟩
      replace hT := (fC_spentOn_c4.eq_1 (fC_spentOn_L ng) l1 s k A).symm.trans ((fC_spentOn_L4 ng l1 s k A).symm.trans hT)
      refine fun v3 gv3 e4 => ?_
      replace hT := qlc e4 hT
      have b5 := ivf_at j0 5 rfl
      refine And.intro (fun h6 => ?_) (fun h6 => ?_)
      · replace hT := (if_neg (Int.not_lt.mpr h6)).symm.trans hT
        exact hK _ (by first | assumption | exact wI_rng _ | exact ⟨by (first | (clear hm hnf; omega) | omega), by (first | (clear hm hnf; omega) | omega)⟩ | exact i_rng _ | (subst_vars; exact i_rng _) | exact (hA _ _).2 rfl) hT
      · replace hT := (if_pos h6).symm.trans hT
        refine fun v7 e8 => ?_
        replace hT := qlc e8 hT
        have h9 := sr_bd (a := l1) (b := k) (by (first | (clear hm hnf; omega) | omega)) (by (first | (clear hm hnf; omega) | omega))
        refine fun v10 e11 => ?_
        replace hT := qlc e11 hT
        have h12 := ia_bd (a := v7) (b := 1) (by (first | (clear hm hnf; omega) | omega)) (by (first | (clear hm hnf; omega) | omega))
        refine And.intro (fun h13 => ?_) (fun h13 => ?_)
        · replace hT := (if_pos h13).symm.trans hT
          refine fun v14 e15 => ?_
          replace hT := qlc e15 hT
          have w16 := wI_rng v14
          have w17 : wI v14 = v14 := wI_id (by (first | (clear hm hnf; omega) | omega))
          exact Exists.intro (8 - ((wI v14)) : Int).toNat (And.intro (by first | exact qtn hm (by (try clear hm hnf); omega) | omega) (And.intro rfl (And.intro rfl (And.intro (by (first | (clear hm hnf; omega) | omega)) (And.intro (by (first | (clear hm hnf; omega) | omega)) (And.intro (by (first | (clear hm hnf; omega) | omega)) (Exists.intro ng (And.intro (by first | exact qtm hm hnf (by (try clear hm hnf); omega) | omega) hT))))))))
        · replace hT := (if_neg h13).symm.trans hT
          refine And.intro (by (first | (clear hm hnf; omega) | omega)) (fun v18 gv18 e19 => ?_)
          replace hT := qlc e19 hT
          have b20 := iva_at i0 29 rfl (i := k) (by (first | (clear hm hnf; omega) | omega)) (by (first | (clear hm hnf; omega) | omega))
          refine fun v21 e22 => ?_
          replace hT := qlc e22 hT
          refine fun v23 e24 => ?_
          replace hT := qlc e24 hT
          have w25 := wI_rng v21
          have w26 := wI_rng v23
          have w27 : wI v23 = v23 := wI_id (by (first | (clear hm hnf; omega) | omega))
          exact Exists.intro (8 - ((wI v23)) : Int).toNat (And.intro (by first | exact qtn hm (by (try clear hm hnf); omega) | omega) (And.intro rfl (And.intro rfl (And.intro (by (first | (clear hm hnf; omega) | omega)) (And.intro (by (first | (clear hm hnf; omega) | omega)) (And.intro (by (first | (clear hm hnf; omega) | omega)) (Exists.intro ng (And.intro (by first | exact qtm hm hnf (by (try clear hm hnf); omega) | omega) hT))))))))
  · exact Exists.intro (8 - 0 : Int).toNat (And.intro rfl (And.intro rfl (And.intro (by (first | (clear hm hnf; omega) | omega)) (And.intro (by (first | (clear hm hnf; omega) | omega)) (And.intro (by (first | (clear hm hnf; omega) | omega)) (Exists.intro 100000 (And.intro (by (first | (clear hm hnf; omega) | omega)) hT)))))))
theorem pC_spentOn {d : Int} {A : qA} (hA : qokA LC A) (p0 : iva IC A) (p1 : ivf JC A) (p2 : 0 ≤ d) (p3 : d ≤ 255) : rng (fC_spentOn d A) := by
  obtain ⟨r, B, hB, _, hk⟩ := okM_ex okC_spentOn (as := [rf 55, ni d]) (K := fun _ B => B = A ∧ rng (fC_spentOn d A)) hA (qoks_c (show qok (rf _) from trivial) (qoks_c (show rng d from ⟨by (first | (clear hm hnf; omega) | omega), by (first | (clear hm hnf; omega) | omega)⟩) qoks_n)) ⟨d, rfl, ⟨p0, p1, p2, p3⟩, fun r9 g9 x0 => (by rw [← x0]; exact ⟨rfl, g9⟩)⟩
  exact hk.2
def fC_costVia (d l k s : Int) (A : qA) : Int := qlet (sr d k) fun v7 => qlet (ia v7 1) fun v10 => (if v10 = 0 then qlet (A 60 k) fun v15 => qlet (ix d (-1)) fun v17 => qlet (ia v15 v17) fun v19 => (if v19 = 0 then qlet (l * 8) fun v23 => qlet (v23 + k) fun v25 => qlet (A 57 v25) fun v27 => qlet (A 58 k) fun v29 => qlet (A 59 k) fun v32 => qlet (s + v32) fun v35 => qlet (v29 * v35) fun v37 => qlet (v27 + v37) fun v39 => qlet (sl 1 k) fun v41 => qlet (io d v41) fun v44 => qlet (v44 * 9) fun v47 => qlet (v47 + k) fun v49 => qlet (A 61 v49) fun v51 => qlet (v39 + v51) fun v53 => (wI v53) else (qn 1000000000)) else (qn 1000000000))
def sC_costVia : qS := fun as A K => ∃ d l k s : Int, as = [rf 55, ni d, ni l, ni k, ni s] ∧ (iva IC A ∧ ivf JC A ∧ 0 ≤ d ∧ d ≤ 255 ∧ 0 ≤ l ∧ l ≤ 8 ∧ 0 ≤ k ∧ k ≤ 7) ∧ (∀ r : Int, rng r → (r = fC_costVia d l k s A) → K (some (ni r)) A)
theorem okC_costVia : okM LC 1 70 sC_costVia := by
  refine qmeth [] true [] 59 rfl trivial ?_
  rintro _ A K hA has ⟨d, l, k, s, rfl, ⟨i0, j0, p1, p2, p3, p4, p5, p6⟩, hK⟩
  have rg_d : rng d := has (ni d) (by simp)
  have rg_l : rng l := has (ni l) (by simp)
  have rg_k : rng k := has (ni k) (by simp)
  have rg_s : rng s := has (ni s) (by simp)
  have f0 := frm_0 [] [] A
  have hT : _ = fC_costVia d l k s A := (fC_costVia.eq_1 d l k s A).symm
  refine ⟨Nat.le_of_ble_eq_true rfl, [], trivial, ?_⟩
  refine fun v7 e8 => ?_
  replace hT := qlc e8 hT
  have h9 := sr_bd (a := d) (b := k) (by (first | (clear hm hnf; omega) | omega)) (by (first | (clear hm hnf; omega) | omega))
  refine fun v10 e11 => ?_
  replace hT := qlc e11 hT
  have h12 := ia_bd (a := v7) (b := 1) (by (first | (clear hm hnf; omega) | omega)) (by (first | (clear hm hnf; omega) | omega))
  refine And.intro (fun h13 => ?_) (fun h13 => ?_)
  · replace hT := (if_neg h13).symm.trans hT
    have k14 : qn 1000000000 = 1000000000 := by decide
    exact hK _ (by first | assumption | exact wI_rng _ | exact ⟨by (first | (clear hm hnf; omega) | omega), by (first | (clear hm hnf; omega) | omega)⟩ | exact i_rng _ | (subst_vars; exact i_rng _) | exact (hA _ _).2 rfl) hT
  · replace hT := (if_pos h13).symm.trans hT
    refine And.intro (by (first | (clear hm hnf; omega) | omega)) (fun v15 gv15 e16 => ?_)
    replace hT := qlc e16 hT
    refine fun v17 e18 => ?_
    replace hT := qlc e18 hT
    refine fun v19 e20 => ?_
    replace hT := qlc e20 hT
    refine And.intro (fun h22 => ?_) (fun h22 => ?_)
    · replace hT := (if_pos h22).symm.trans hT
      refine fun v23 e24 => ?_
      replace hT := qlc e24 hT
      refine fun v25 e26 => ?_
      replace hT := qlc e26 hT
      refine And.intro (by (first | (clear hm hnf; omega) | omega)) (fun v27 gv27 e28 => ?_)
      replace hT := qlc e28 hT
      refine And.intro (by (first | (clear hm hnf; omega) | omega)) (fun v29 gv29 e30 => ?_)
      replace hT := qlc e30 hT
      have b31 := iva_at i0 28 rfl (i := k) (by (first | (clear hm hnf; omega) | omega)) (by (first | (clear hm hnf; omega) | omega))
      refine And.intro (by (first | (clear hm hnf; omega) | omega)) (fun v32 gv32 e33 => ?_)
      replace hT := qlc e33 hT
      have b34 := iva_at i0 29 rfl (i := k) (by (first | (clear hm hnf; omega) | omega)) (by (first | (clear hm hnf; omega) | omega))
      refine fun v35 e36 => ?_
      replace hT := qlc e36 hT
      refine fun v37 e38 => ?_
      replace hT := qlc e38 hT
      refine fun v39 e40 => ?_
      replace hT := qlc e40 hT
      refine fun v41 e42 => ?_
      replace hT := qlc e42 hT
      have h43 := sl_bd (b := k) 7 (by decide) (by (first | (clear hm hnf; omega) | omega)) (by (first | (clear hm hnf; omega) | omega))
      refine fun v44 e45 => ?_
      replace hT := qlc e45 hT
      have h46 := io_bd (a := d) (b := v41) 8 (by decide) (by (first | (clear hm hnf; omega) | omega)) (by (first | (clear hm hnf; omega) | omega)) (by (first | (clear hm hnf; omega) | omega)) (by (first | (clear hm hnf; omega) | omega))
      refine fun v47 e48 => ?_
      replace hT := qlc e48 hT
      refine fun v49 e50 => ?_
      replace hT := qlc e50 hT
      refine And.intro (by (first | (clear hm hnf; omega) | omega)) (fun v51 gv51 e52 => ?_)
      replace hT := qlc e52 hT
      refine fun v53 e54 => ?_
      replace hT := qlc e54 hT
      have w55 := wI_rng v53
      exact hK _ (by first | assumption | exact wI_rng _ | exact ⟨by (first | (clear hm hnf; omega) | omega), by (first | (clear hm hnf; omega) | omega)⟩ | exact i_rng _ | (subst_vars; exact i_rng _) | exact (hA _ _).2 rfl) hT
    · replace hT := (if_neg h22).symm.trans hT
      have k56 : qn 1000000000 = 1000000000 := by decide
      exact hK _ (by first | assumption | exact wI_rng _ | exact ⟨by (first | (clear hm hnf; omega) | omega), by (first | (clear hm hnf; omega) | omega)⟩ | exact i_rng _ | (subst_vars; exact i_rng _) | exact (hA _ _).2 rfl) hT
theorem pC_costVia {d l k s : Int} {A : qA} (hA : qokA LC A) (rg_s : rng s) (p0 : iva IC A) (p1 : ivf JC A) (p2 : 0 ≤ d) (p3 : d ≤ 255) (p4 : 0 ≤ l) (p5 : l ≤ 8) (p6 : 0 ≤ k) (p7 : k ≤ 7) : rng (fC_costVia d l k s A) := by
  obtain ⟨r, B, hB, _, hk⟩ := okM_ex okC_costVia (as := [rf 55, ni d, ni l, ni k, ni s]) (K := fun _ B => B = A ∧ rng (fC_costVia d l k s A)) hA (qoks_c (show qok (rf _) from trivial) (qoks_c (show rng d from ⟨by (first | (clear hm hnf; omega) | omega), by (first | (clear hm hnf; omega) | omega)⟩) (qoks_c (show rng l from ⟨by (first | (clear hm hnf; omega) | omega), by (first | (clear hm hnf; omega) | omega)⟩) (qoks_c (show rng k from ⟨by (first | (clear hm hnf; omega) | omega), by (first | (clear hm hnf; omega) | omega)⟩) (qoks_c (rg_s) qoks_n))))) ⟨d, l, k, s, rfl, ⟨p0, p1, p2, p3, p4, p5, p6, p7⟩, fun r9 g9 x0 => (by rw [← x0]; exact ⟨rfl, g9⟩)⟩
  exact hk.2
def fC_leastOnward_c4 (rec : Nat → List Int → qA → Int) (l1 l2 l3 b k : Int) (A : qA) : Int := qlet (A 55 (fd 7)) fun v6 => (if k < v6 then qlet (fC_costVia l1 l2 k l3 A) fun r10 => qlet (min b r10) fun v13 => qlet (k + 1) fun v15 => rec 4 [l1, l2, l3, v13, ((wI v15))] A else b)
def fC_leastOnward_L : Nat → Nat → List Int → qA → Int
  | 0 => fun _ _ B => 0
  | nF + 1 => fun k zs B => bif Nat.beq k 4 then (match zs with | [l1, l2, l3, b, k] => fC_leastOnward_c4 (fC_leastOnward_L nF) l1 l2 l3 b k B | _ => 0) else 0
theorem fC_leastOnward_L4 (nF : Nat) (l1 l2 l3 b k : Int) (B : qA) : fC_leastOnward_L (nF + 1) 4 [l1, l2, l3, b, k] B = fC_leastOnward_c4 (fC_leastOnward_L nF) l1 l2 l3 b k B := (congrFun (congrFun (congrFun (fC_leastOnward_L.eq_2 nF) 4) [l1, l2, l3, b, k]) B).trans (qL1 rfl rfl)
def fC_leastOnward (d l s : Int) (A : qA) : Int := (fC_leastOnward_L 100000) 4 [d, l, s, ((qn 1000000000)), 0] A
def sC_leastOnward : qS := fun as A K => ∃ d l s : Int, as = [rf 55, ni d, ni l, ni s] ∧ (iva IC A ∧ ivf JC A ∧ 0 ≤ d ∧ d ≤ 255 ∧ 0 ≤ l ∧ l ≤ 8) ∧ (∀ r : Int, rng r → (r = fC_leastOnward d l s A) → K (some (ni r)) A)
theorem okC_leastOnward : okM LC 2 69 sC_leastOnward := by
  refine qmeth [] true [(70, sC_costVia)] 27 rfl ⟨okC_costVia.le (by decide), trivial⟩ ?_
  rintro _ A K hA has ⟨d, l, s, rfl, ⟨i0, j0, p1, p2, p3, p4⟩, hK⟩
  have rg_d : rng d := has (ni d) (by simp)
  have rg_l : rng l := has (ni l) (by simp)
  have rg_s : rng s := has (ni s) (by simp)
  have f0 := frm_0 [] [] A
  have hT : _ = fC_leastOnward d l s A := (fC_leastOnward.eq_1 d l s A).symm
  refine ⟨Nat.le_of_ble_eq_true rfl, [(4, [(0, 2, 55), (1, 0, 0), (2, 0, 0), (3, 0, 0), (4, 0, 0), (5, 0, 0)], fun zs B nn => match zs with | [l1, l2, l3, b, k] => A = B ∧ nn = (8 - k : Int).toNat ∧ (l1 = d) ∧ (l2 = l) ∧ (l3 = s) ∧ (0 ≤ k) ∧ (k ≤ 8) ∧ (∃ nf : Nat, nn < nf ∧ fC_leastOnward_L nf 4 [l1, l2, l3, b, k] B = fC_leastOnward d l s A) | _ => False)], ?_, ?_⟩
  · refine ⟨⟨rfl, ?_⟩, trivial⟩
    · refine fun l1 l2 l3 b k B mm hB hz hI => ?_
      obtain ⟨rfl, hm, c0, c1, c2, c3, c4, ⟨nf, hnf, hT⟩⟩ := hI
      obtain ⟨hz_l1, hz_l2, hz_l3, hz_b, hz_k, _⟩ := hz
      obtain ⟨ng, rfl⟩ : ∃ k, nf = k + 1 := ⟨nf - 1, by omega⟩
      replace hT := (fC_leastOnward_c4.eq_1 (fC_leastOnward_L ng) l1 l2 l3 b k A).symm.trans ((fC_leastOnward_L4 ng l1 l2 l3 b k A).symm.trans hT)
      refine fun v6 gv6 e7 => ?_
      replace hT := qlc e7 hT
      have b8 := ivf_at j0 5 rfl
      refine And.intro (fun h9 => ?_) (fun h9 => ?_)
      · replace hT := (if_neg (Int.not_lt.mpr h9)).symm.trans hT
        exact hK _ (by first | assumption | exact wI_rng _ | exact ⟨by (first | (clear hm hnf; omega) | omega), by (first | (clear hm hnf; omega) | omega)⟩ | exact i_rng _ | (subst_vars; exact i_rng _) | exact (hA _ _).2 rfl) hT
      · replace hT := (if_pos h9).symm.trans hT
        refine Exists.intro l1 (Exists.intro l2 (Exists.intro k (Exists.intro l3 (And.intro rfl (And.intro (And.intro i0 (And.intro j0 (And.intro (by (first | (clear hm hnf; omega) | omega)) (And.intro (by (first | (clear hm hnf; omega) | omega)) (And.intro (by (first | (clear hm hnf; omega) | omega)) (And.intro (by (first | (clear hm hnf; omega) | omega)) (And.intro (by (first | (clear hm hnf; omega) | omega)) (by (first | (clear hm hnf; omega) | omega))))))))) (fun r10 g12 g11 => ?_))))))
        replace hT := qlc g11 hT
        clear g11
        refine (fun v13 e14 => ?_)
        replace hT := qlc e14 hT
        refine fun v15 e16 => ?_
        replace hT := qlc e16 hT
        have w17 := wI_rng v15
        have w18 : wI v15 = v15 := wI_id (by (first | (clear hm hnf; omega) | omega))
        exact Exists.intro (8 - ((wI v15)) : Int).toNat (And.intro (by first | exact qtn hm (by (try clear hm hnf); omega) | omega) (And.intro rfl (And.intro rfl (And.intro (by (first | (clear hm hnf; omega) | omega)) (And.intro (by (first | (clear hm hnf; omega) | omega)) (And.intro (by (first | (clear hm hnf; omega) | omega)) (And.intro (by (first | (clear hm hnf; omega) | omega)) (And.intro (by (first | (clear hm hnf; omega) | omega)) (Exists.intro ng (And.intro (by first | exact qtm hm hnf (by (try clear hm hnf); omega) | omega) hT))))))))))
  · have k5 : qn 1000000000 = 1000000000 := by decide
    exact Exists.intro (8 - 0 : Int).toNat (And.intro rfl (And.intro rfl (And.intro (by (first | (clear hm hnf; omega) | omega)) (And.intro (by (first | (clear hm hnf; omega) | omega)) (And.intro (by (first | (clear hm hnf; omega) | omega)) (And.intro (by (first | (clear hm hnf; omega) | omega)) (And.intro (by (first | (clear hm hnf; omega) | omega)) (Exists.intro 100000 (And.intro (by (first | (clear hm hnf; omega) | omega)) hT)))))))))
theorem pC_leastOnward {d l s : Int} {A : qA} (hA : qokA LC A) (rg_s : rng s) (p0 : iva IC A) (p1 : ivf JC A) (p2 : 0 ≤ d) (p3 : d ≤ 255) (p4 : 0 ≤ l) (p5 : l ≤ 8) : rng (fC_leastOnward d l s A) := by
  obtain ⟨r, B, hB, _, hk⟩ := okM_ex okC_leastOnward (as := [rf 55, ni d, ni l, ni s]) (K := fun _ B => B = A ∧ rng (fC_leastOnward d l s A)) hA (qoks_c (show qok (rf _) from trivial) (qoks_c (show rng d from ⟨by (first | (clear hm hnf; omega) | omega), by (first | (clear hm hnf; omega) | omega)⟩) (qoks_c (show rng l from ⟨by (first | (clear hm hnf; omega) | omega), by (first | (clear hm hnf; omega) | omega)⟩) (qoks_c (rg_s) qoks_n)))) ⟨d, l, s, rfl, ⟨p0, p1, p2, p3, p4, p5⟩, fun r9 g9 x0 => (by rw [← x0]; exact ⟨rfl, g9⟩)⟩
  exact hk.2
def fC_findRow_c6 (rec : Nat → List Int → qA → qA) (l1 d l p : Int) (B : qA) : qA := qlet (B 55 (fd 7)) fun v1 => (if p < v1 then (if d = l1 then B else qlet (fC_spentOn d B) fun r6 => rec 19 [l1, d, l, p, r6, 0] B) else B)
def fC_findRow_c19 (rec : Nat → List Int → qA → qA) (l1 d l p s k : Int) (B : qA) : qA := qlet (B 55 (fd 7)) fun v9 => qlet (v9 - 1) fun v12 => (if k < (wI v12) then qlet (fC_costVia d l k s B) fun r35 => qlet (d * 9) fun v38 => qlet (v38 + l) fun v40 => qlet (B 61 v40) fun v42 => (if r35 = v42 then qlet (B 56 k) fun v45 => qlet (qu B 62 p v45) fun A48 => qlet (sl 1 k) fun v53 => qlet (io d v53) fun v56 => qlet (p + 1) fun v59 => rec 6 [l1, v56, k, ((wI v59))] A48 else qlet (k + 1) fun v63 => rec 19 [l1, d, l, p, s, ((wI v63))] B) else qlet (B 56 k) fun v17 => qlet (qu B 62 p v17) fun A20 => qlet (sl 1 k) fun v25 => qlet (io d v25) fun v28 => qlet (p + 1) fun v31 => rec 6 [l1, v28, k, ((wI v31))] A20)
def fC_findRow_L : Nat → Nat → List Int → qA → qA
  | 0 => fun _ _ B => B
  | nF + 1 => fun k zs B => bif Nat.beq k 6 then (match zs with | [l1, d, l, p] => fC_findRow_c6 (fC_findRow_L nF) l1 d l p B | _ => B) else bif Nat.beq k 19 then (match zs with | [l1, d, l, p, s, k] => fC_findRow_c19 (fC_findRow_L nF) l1 d l p s k B | _ => B) else B
theorem fC_findRow_L6 (nF : Nat) (l1 d l p : Int) (B : qA) : fC_findRow_L (nF + 1) 6 [l1, d, l, p] B = fC_findRow_c6 (fC_findRow_L nF) l1 d l p B := (congrFun (congrFun (congrFun (fC_findRow_L.eq_2 nF) 6) [l1, d, l, p]) B).trans (qL1 rfl rfl)
theorem fC_findRow_L19 (nF : Nat) (l1 d l p s k : Int) (B : qA) : fC_findRow_L (nF + 1) 19 [l1, d, l, p, s, k] B = fC_findRow_c19 (fC_findRow_L nF) l1 d l p s k B := (congrFun (congrFun (congrFun (fC_findRow_L.eq_2 nF) 19) [l1, d, l, p, s, k]) B).trans (qL0 rfl (qL1 rfl rfl))
def fC_findRow (a : Int) (A : qA) : qA := (fC_findRow_L 100000) 6 [a, 0, 8, 0] A
def sC_findRow : qS := fun as A K => ∃ a : Int, as = [rf 55, ni a] ∧ (iva IC A ∧ ivf JC A) ∧ (∀ A' : qA, iva IC A' → ivf JC A' → frm [62] [] A A' → (A' = fC_findRow a A) → K none A')
theorem okC_findRow : okM LC 2 71 sC_findRow := by
  refine qmeth [] true [(68, sC_spentOn), (70, sC_costVia)] 67 rfl ⟨okC_spentOn.le (by decide), ⟨okC_costVia.le (by decide), trivial⟩⟩ ?_
  rintro _ A K hA has ⟨a, rfl, ⟨i0, j0⟩, hK⟩
  have rg_a : rng a := has (ni a) (by simp)
  have f0 := frm_0 [62] [] A
  have hT : _ = fC_findRow a A := (fC_findRow.eq_1 a A).symm
  refine ⟨Nat.le_of_ble_eq_true rfl, [(6, [(0, 2, 55), (1, 0, 0), (2, 0, 0), (3, 0, 0), (4, 0, 0)], fun zs B nn => match zs with | [l1, d, l, p] => iva IC B ∧ ivf JC B ∧ frm [62] [] A B ∧ nn = ((8 - p) * 100 + 50 : Int).toNat ∧ (l1 = a) ∧ (0 ≤ p) ∧ (p ≤ 8) ∧ (0 ≤ d) ∧ (d ≤ 255) ∧ (0 ≤ l) ∧ (l ≤ 8) ∧ (∃ nf : Nat, nn < nf ∧ fC_findRow_L nf 6 [l1, d, l, p] B = fC_findRow a A) | _ => False), (19, [(0, 2, 55), (1, 0, 0), (2, 0, 0), (3, 0, 0), (4, 0, 0), (5, 0, 0), (6, 0, 0)], fun zs B nn => match zs with | [l1, d, l, p, s, k] => iva IC B ∧ ivf JC B ∧ frm [62] [] A B ∧ nn = ((8 - p) * 100 + 20 - k : Int).toNat ∧ (l1 = a) ∧ (0 ≤ p) ∧ (p ≤ 7) ∧ (0 ≤ d) ∧ (d ≤ 255) ∧ (0 ≤ l) ∧ (l ≤ 8) ∧ (0 ≤ k) ∧ (k ≤ 7) ∧ (∃ nf : Nat, nn < nf ∧ fC_findRow_L nf 19 [l1, d, l, p, s, k] B = fC_findRow a A) | _ => False)], ?_, ?_⟩
  · refine ⟨⟨rfl, ?_⟩, ⟨rfl, ?_⟩, trivial⟩
    · refine fun l1 d l p B mm hB hz hI => ?_
      obtain ⟨i1, j1, f1, hm, c0, c1, c2, c3, c4, c5, c6, ⟨nf, hnf, hT⟩⟩ := hI
      obtain ⟨hz_l1, hz_d, hz_l, hz_p, _⟩ := hz
      obtain ⟨ng, rfl⟩ : ∃ k, nf = k + 1 := ⟨nf - 1, by omega⟩
      replace hT := (fC_findRow_c6.eq_1 (fC_findRow_L ng) l1 d l p B).symm.trans ((fC_findRow_L6 ng l1 d l p B).symm.trans hT)
      refine fun v1 gv1 e2 => ?_
      replace hT := qlc e2 hT
      have b3 := ivf_at j1 5 rfl
      refine And.intro (fun h4 => ?_) (fun h4 => ?_)
      · replace hT := (if_neg (Int.not_lt.mpr h4)).symm.trans hT
        exact hK _ i1 j1 f1 hT
      · replace hT := (if_pos h4).symm.trans hT
        refine And.intro (fun h5 => ?_) (fun h5 => ?_)
        · replace hT := (if_pos h5).symm.trans hT
          exact hK _ i1 j1 f1 hT
        · replace hT := (if_neg h5).symm.trans hT
          refine Exists.intro d (And.intro rfl (And.intro (And.intro i1 (And.intro j1 (And.intro (by (first | (clear hm hnf; omega) | omega)) (by (first | (clear hm hnf; omega) | omega))))) (fun r6 g8 g7 => ?_)))
          replace hT := qlc g7 hT
          clear g7
          exact Exists.intro ((8 - p) * 100 + 20 - 0 : Int).toNat (And.intro (by first | exact qtn hm (by (try clear hm hnf); omega) | omega) (And.intro i1 (And.intro j1 (And.intro f1 (And.intro rfl (And.intro (by (first | (clear hm hnf; omega) | omega)) (And.intro (by (first | (clear hm hnf; omega) | omega)) (And.intro (by (first | (clear hm hnf; omega) | omega)) (And.intro (by (first | (clear hm hnf; omega) | omega)) (And.intro (by (first | (clear hm hnf; omega) | omega)) (And.intro (by (first | (clear hm hnf; omega) | omega)) (And.intro (by (first | (clear hm hnf; omega) | omega)) (And.intro (by (first | (clear hm hnf; omega) | omega)) (And.intro (by (first | (clear hm hnf; omega) | omega)) (Exists.intro ng (And.intro (by first | exact qtm hm hnf (by (try clear hm hnf); omega) | omega) hT))))))))))))))))
    · refine fun l1 d l p s k B mm hB hz hI => ?_
      obtain ⟨i1, j1, f1, hm, c0, c1, c2, c3, c4, c5, c6, c7, c8, ⟨nf, hnf, hT⟩⟩ := hI
      obtain ⟨hz_l1, hz_d, hz_l, hz_p, hz_s, hz_k, _⟩ := hz
      obtain ⟨ng, rfl⟩ : ∃ k, nf = k + 1 := ⟨nf - 1, by omega⟩
      replace hT := (fC_findRow_c19.eq_1 (fC_findRow_L ng) l1 d l p s k B).symm.trans ((fC_findRow_L19 ng l1 d l p s k B).symm.trans hT)
      refine fun v9 gv9 e10 => ?_
      replace hT := qlc e10 hT
      have b11 := ivf_at j1 5 rfl
      refine fun v12 e13 => ?_
      replace hT := qlc e13 hT
      have w15 := wI_rng v12
      have w16 : wI v12 = v12 := wI_id (by (first | (clear hm hnf; omega) | omega))
      refine And.intro (fun h14 => ?_) (fun h14 => ?_)
      · replace hT := (if_neg (Int.not_lt.mpr h14)).symm.trans hT
        refine And.intro (by (first | (clear hm hnf; omega) | omega)) (fun v17 gv17 e18 => ?_)
        replace hT := qlc e18 hT
        have b19 := iva_at i1 27 rfl (i := k) (by (first | (clear hm hnf; omega) | omega)) (by (first | (clear hm hnf; omega) | omega))
        refine And.intro (by (first | (clear hm hnf; omega) | omega)) (fun A20 e21 => ?_)
        replace hT := qlc e21 hT
        have i22 := iva_st i1 e21 (And.intro (by (first | (clear hm hnf; omega) | omega)) trivial)
        have j23 := ivf_sa j1 e21 rfl
        have f24 := frm_s f1 e21 rfl
        refine fun v25 e26 => ?_
        replace hT := qlc e26 hT
        have h27 := sl_bd (b := k) 7 (by decide) (by (first | (clear hm hnf; omega) | omega)) (by (first | (clear hm hnf; omega) | omega))
        refine fun v28 e29 => ?_
        replace hT := qlc e29 hT
        have h30 := io_bd (a := d) (b := v25) 8 (by decide) (by (first | (clear hm hnf; omega) | omega)) (by (first | (clear hm hnf; omega) | omega)) (by (first | (clear hm hnf; omega) | omega)) (by (first | (clear hm hnf; omega) | omega))
        refine fun v31 e32 => ?_
        replace hT := qlc e32 hT
        have w33 := wI_rng v31
        have w34 : wI v31 = v31 := wI_id (by (first | (clear hm hnf; omega) | omega))
        exact Exists.intro ((8 - ((wI v31))) * 100 + 50 : Int).toNat (And.intro (by first | exact qtn hm (by (try clear hm hnf); omega) | omega) (And.intro i22 (And.intro j23 (And.intro f24 (And.intro rfl (And.intro (by (first | (clear hm hnf; omega) | omega)) (And.intro (by (first | (clear hm hnf; omega) | omega)) (And.intro (by (first | (clear hm hnf; omega) | omega)) (And.intro (by (first | (clear hm hnf; omega) | omega)) (And.intro (by (first | (clear hm hnf; omega) | omega)) (And.intro (by (first | (clear hm hnf; omega) | omega)) (And.intro (by (first | (clear hm hnf; omega) | omega)) (Exists.intro ng (And.intro (by first | exact qtm hm hnf (by (try clear hm hnf); omega) | omega) hT))))))))))))))
      · replace hT := (if_pos h14).symm.trans hT
        refine Exists.intro d (Exists.intro l (Exists.intro k (Exists.intro s (And.intro rfl (And.intro (And.intro i1 (And.intro j1 (And.intro (by (first | (clear hm hnf; omega) | omega)) (And.intro (by (first | (clear hm hnf; omega) | omega)) (And.intro (by (first | (clear hm hnf; omega) | omega)) (And.intro (by (first | (clear hm hnf; omega) | omega)) (And.intro (by (first | (clear hm hnf; omega) | omega)) (by (first | (clear hm hnf; omega) | omega))))))))) (fun r35 g37 g36 => ?_))))))
        replace hT := qlc g36 hT
        clear g36
        refine fun v38 e39 => ?_
        replace hT := qlc e39 hT
        refine fun v40 e41 => ?_
        replace hT := qlc e41 hT
        refine And.intro (by (first | (clear hm hnf; omega) | omega)) (fun v42 gv42 e43 => ?_)
        replace hT := qlc e43 hT
        refine And.intro (fun h44 => ?_) (fun h44 => ?_)
        · replace hT := (if_pos h44).symm.trans hT
          refine And.intro (by (first | (clear hm hnf; omega) | omega)) (fun v45 gv45 e46 => ?_)
          replace hT := qlc e46 hT
          have b47 := iva_at i1 27 rfl (i := k) (by (first | (clear hm hnf; omega) | omega)) (by (first | (clear hm hnf; omega) | omega))
          refine And.intro (by (first | (clear hm hnf; omega) | omega)) (fun A48 e49 => ?_)
          replace hT := qlc e49 hT
          have i50 := iva_st i1 e49 (And.intro (by (first | (clear hm hnf; omega) | omega)) trivial)
          have j51 := ivf_sa j1 e49 rfl
          have f52 := frm_s f1 e49 rfl
          refine fun v53 e54 => ?_
          replace hT := qlc e54 hT
          have h55 := sl_bd (b := k) 6 (by decide) (by (first | (clear hm hnf; omega) | omega)) (by (first | (clear hm hnf; omega) | omega))
          refine fun v56 e57 => ?_
          replace hT := qlc e57 hT
          have h58 := io_bd (a := d) (b := v53) 8 (by decide) (by (first | (clear hm hnf; omega) | omega)) (by (first | (clear hm hnf; omega) | omega)) (by (first | (clear hm hnf; omega) | omega)) (by (first | (clear hm hnf; omega) | omega))
          refine fun v59 e60 => ?_
          replace hT := qlc e60 hT
          have w61 := wI_rng v59
          have w62 : wI v59 = v59 := wI_id (by (first | (clear hm hnf; omega) | omega))
          exact Exists.intro ((8 - ((wI v59))) * 100 + 50 : Int).toNat (And.intro (by first | exact qtn hm (by (try clear hm hnf); omega) | omega) (And.intro i50 (And.intro j51 (And.intro f52 (And.intro rfl (And.intro (by (first | (clear hm hnf; omega) | omega)) (And.intro (by (first | (clear hm hnf; omega) | omega)) (And.intro (by (first | (clear hm hnf; omega) | omega)) (And.intro (by (first | (clear hm hnf; omega) | omega)) (And.intro (by (first | (clear hm hnf; omega) | omega)) (And.intro (by (first | (clear hm hnf; omega) | omega)) (And.intro (by (first | (clear hm hnf; omega) | omega)) (Exists.intro ng (And.intro (by first | exact qtm hm hnf (by (try clear hm hnf); omega) | omega) hT))))))))))))))
        · replace hT := (if_neg h44).symm.trans hT
          refine fun v63 e64 => ?_
          replace hT := qlc e64 hT
          have w65 := wI_rng v63
          have w66 : wI v63 = v63 := wI_id (by (first | (clear hm hnf; omega) | omega))
          exact Exists.intro ((8 - p) * 100 + 20 - ((wI v63)) : Int).toNat (And.intro (by first | exact qtn hm (by (try clear hm hnf); omega) | omega) (And.intro i1 (And.intro j1 (And.intro f1 (And.intro rfl (And.intro (by (first | (clear hm hnf; omega) | omega)) (And.intro (by (first | (clear hm hnf; omega) | omega)) (And.intro (by (first | (clear hm hnf; omega) | omega)) (And.intro (by (first | (clear hm hnf; omega) | omega)) (And.intro (by (first | (clear hm hnf; omega) | omega)) (And.intro (by (first | (clear hm hnf; omega) | omega)) (And.intro (by (first | (clear hm hnf; omega) | omega)) (And.intro (by (first | (clear hm hnf; omega) | omega)) (And.intro (by (first | (clear hm hnf; omega) | omega)) (Exists.intro ng (And.intro (by first | exact qtm hm hnf (by (try clear hm hnf); omega) | omega) hT))))))))))))))))
  · exact Exists.intro ((8 - 0) * 100 + 50 : Int).toNat (And.intro i0 (And.intro j0 (And.intro f0 (And.intro rfl (And.intro (by (first | (clear hm hnf; omega) | omega)) (And.intro (by (first | (clear hm hnf; omega) | omega)) (And.intro (by (first | (clear hm hnf; omega) | omega)) (And.intro (by (first | (clear hm hnf; omega) | omega)) (And.intro (by (first | (clear hm hnf; omega) | omega)) (And.intro (by (first | (clear hm hnf; omega) | omega)) (And.intro (by (first | (clear hm hnf; omega) | omega)) (Exists.intro 100000 (And.intro (by (first | (clear hm hnf; omega) | omega)) hT)))))))))))))
theorem pC_findRow {a : Int} {A : qA} (hA : qokA LC A) (rg_a : rng a) (p0 : iva IC A) (p1 : ivf JC A) : qokA LC (fC_findRow a A) ∧ iva IC (fC_findRow a A) ∧ ivf JC (fC_findRow a A) ∧ frm [62] [] A (fC_findRow a A) := by
  obtain ⟨r, B, hB, _, hk⟩ := okM_ex okC_findRow (as := [rf 55, ni a]) (K := fun _ B => B = (fC_findRow a A) ∧ iva IC (fC_findRow a A) ∧ ivf JC (fC_findRow a A) ∧ frm [62] [] A (fC_findRow a A)) hA (qoks_c (show qok (rf _) from trivial) (qoks_c (rg_a) qoks_n)) ⟨a, rfl, ⟨p0, p1⟩, fun A9 i9 j9 f9 x0 => (by rw [← x0]; exact ⟨rfl, i9, j9, f9⟩)⟩
  exact ⟨hk.1 ▸ hB, hk.2⟩
def fC_solve_c9 (rec : Nat → List Int → qA → qA) (a d : Int) (B : qA) : qA := (if d < 0 then qlet (fC_findRow a B) fun A14 => A14 else qlet (fC_spentOn d B) fun r20 => rec 17 [a, d, r20, 0] B)
def fC_solve_c17 (rec : Nat → List Int → qA → qA) (a d s l : Int) (B : qA) : qA := (if l < 9 then (if d = 0 then (if l = 8 then qlet (d * 9) fun v75 => qlet (v75 + l) fun v77 => (if d = a then qlet (qu B 61 v77 0) fun A92 => qlet (l + 1) fun v97 => rec 17 [a, d, s, ((wI v97))] A92 else qlet (fC_leastOnward d l s B) fun r80 => qlet (qu B 61 v77 r80) fun A83 => qlet (l + 1) fun v88 => rec 17 [a, d, s, ((wI v88))] A83) else qlet (l + 1) fun v70 => rec 17 [a, d, s, ((wI v70))] B) else qlet (sr d l) fun v29 => qlet (ia v29 1) fun v32 => (if v32 = 0 then qlet (l + 1) fun v37 => rec 17 [a, d, s, ((wI v37))] B else qlet (d * 9) fun v42 => qlet (v42 + l) fun v44 => (if d = a then qlet (qu B 61 v44 0) fun A59 => qlet (l + 1) fun v64 => rec 17 [a, d, s, ((wI v64))] A59 else qlet (fC_leastOnward d l s B) fun r47 => qlet (qu B 61 v44 r47) fun A50 => qlet (l + 1) fun v55 => rec 17 [a, d, s, ((wI v55))] A50))) else qlet (d + (-1)) fun v24 => rec 9 [a, ((wI v24))] B)
def fC_solve_L : Nat → Nat → List Int → qA → qA
  | 0 => fun _ _ B => B
  | nF + 1 => fun k zs B => bif Nat.beq k 9 then (match zs with | [a, d] => fC_solve_c9 (fC_solve_L nF) a d B | _ => B) else bif Nat.beq k 17 then (match zs with | [a, d, s, l] => fC_solve_c17 (fC_solve_L nF) a d s l B | _ => B) else B
theorem fC_solve_L9 (nF : Nat) (a d : Int) (B : qA) : fC_solve_L (nF + 1) 9 [a, d] B = fC_solve_c9 (fC_solve_L nF) a d B := (congrFun (congrFun (congrFun (fC_solve_L.eq_2 nF) 9) [a, d]) B).trans (qL1 rfl rfl)
theorem fC_solve_L17 (nF : Nat) (a d s l : Int) (B : qA) : fC_solve_L (nF + 1) 17 [a, d, s, l] B = fC_solve_c17 (fC_solve_L nF) a d s l B := (congrFun (congrFun (congrFun (fC_solve_L.eq_2 nF) 17) [a, d, s, l]) B).trans (qL0 rfl (qL1 rfl rfl))
def fC_solve (A : qA) : qA := qlet (A 55 (fd 7)) fun v1 => qlet (sl 1 v1) fun v4 => qlet (v4 - 1) fun v7 => (fC_solve_L 100000) 9 [((wI v7)), ((wI v7))] A
def sC_solve : qS := fun as A K => as = [rf 55] ∧ (iva IC A ∧ ivf JC A) ∧ (∀ A' : qA, iva IC A' → ivf JC A' → frm [61, 62] [] A A' → (A' = fC_solve A) → K none A')
theorem okC_solve : okM LC 3 67 sC_solve := by
  refine qmeth [] true [(71, sC_findRow), (68, sC_spentOn), (69, sC_leastOnward)] 73 rfl ⟨okC_findRow.le (by decide), ⟨okC_spentOn.le (by decide), ⟨okC_leastOnward.le (by decide), trivial⟩⟩⟩ ?_
  rintro _ A K hA has ⟨rfl, ⟨i0, j0⟩, hK⟩
  have f0 := frm_0 [61, 62] [] A
  have hT : _ = fC_solve A := (fC_solve.eq_1 A).symm
  refine ⟨Nat.le_of_ble_eq_true rfl, [(9, [(0, 2, 55), (1, 0, 0), (2, 0, 0)], fun zs B nn => match zs with | [a, d] => iva IC B ∧ ivf JC B ∧ frm [61, 62] [] A B ∧ nn = ((d + 1) * 100 + 50 : Int).toNat ∧ (0 ≤ a) ∧ (a ≤ 255) ∧ ((-1) ≤ d) ∧ (d ≤ 255) ∧ (∃ nf : Nat, nn < nf ∧ fC_solve_L nf 9 [a, d] B = fC_solve A) | _ => False), (17, [(0, 2, 55), (1, 0, 0), (2, 0, 0), (3, 0, 0), (4, 0, 0)], fun zs B nn => match zs with | [a, d, s, l] => iva IC B ∧ ivf JC B ∧ frm [61, 62] [] A B ∧ nn = ((d + 1) * 100 + 10 - l : Int).toNat ∧ (0 ≤ a) ∧ (a ≤ 255) ∧ (0 ≤ d) ∧ (d ≤ 255) ∧ (0 ≤ l) ∧ (l ≤ 9) ∧ (∃ nf : Nat, nn < nf ∧ fC_solve_L nf 17 [a, d, s, l] B = fC_solve A) | _ => False)], ?_, ?_⟩
  · refine ⟨⟨rfl, ?_⟩, ⟨rfl, ?_⟩, trivial⟩
    · refine fun a d B mm hB hz hI => ?_
      obtain ⟨i1, j1, f1, hm, c0, c1, c2, c3, ⟨nf, hnf, hT⟩⟩ := hI
      obtain ⟨hz_a, hz_d, _⟩ := hz
      obtain ⟨ng, rfl⟩ : ∃ k, nf = k + 1 := ⟨nf - 1, by omega⟩
      replace hT := (fC_solve_c9.eq_1 (fC_solve_L ng) a d B).symm.trans ((fC_solve_L9 ng a d B).symm.trans hT)
      refine And.intro (fun h13 => ?_) (fun h13 => ?_)
      · replace hT := (if_pos h13).symm.trans hT
        refine Exists.intro a (And.intro rfl (And.intro (And.intro i1 j1) (fun A14 i15 j16 f17 g18 => ?_)))
        replace hT := qlc g18 hT
        have f19 := frm_c f1 f17 rfl
        exact hK _ i15 j16 f19 hT
      · replace hT := (if_neg (Int.not_lt.mpr h13)).symm.trans hT
        refine Exists.intro d (And.intro rfl (And.intro (And.intro i1 (And.intro j1 (And.intro (by (first | (clear hm hnf; omega) | omega)) (by (first | (clear hm hnf; omega) | omega))))) (fun r20 g22 g21 => ?_)))
        replace hT := qlc g21 hT
        clear g21
        exact Exists.intro ((d + 1) * 100 + 10 - 0 : Int).toNat (And.intro (by first | exact qtn hm (by (try clear hm hnf); omega) | omega) (And.intro i1 (And.intro j1 (And.intro f1 (And.intro rfl (And.intro (by (first | (clear hm hnf; omega) | omega)) (And.intro (by (first | (clear hm hnf; omega) | omega)) (And.intro (by (first | (clear hm hnf; omega) | omega)) (And.intro (by (first | (clear hm hnf; omega) | omega)) (And.intro (by (first | (clear hm hnf; omega) | omega)) (And.intro (by (first | (clear hm hnf; omega) | omega)) (Exists.intro ng (And.intro (by first | exact qtm hm hnf (by (try clear hm hnf); omega) | omega) hT)))))))))))))
    · refine fun a d s l B mm hB hz hI => ?_
      obtain ⟨i1, j1, f1, hm, c0, c1, c2, c3, c4, c5, ⟨nf, hnf, hT⟩⟩ := hI
      obtain ⟨hz_a, hz_d, hz_s, hz_l, _⟩ := hz
      obtain ⟨ng, rfl⟩ : ∃ k, nf = k + 1 := ⟨nf - 1, by omega⟩
      replace hT := (fC_solve_c17.eq_1 (fC_solve_L ng) a d s l B).symm.trans ((fC_solve_L17 ng a d s l B).symm.trans hT)
      refine And.intro (fun h23 => ?_) (fun h23 => ?_)
      · replace hT := (if_neg (Int.not_lt.mpr h23)).symm.trans hT
        refine fun v24 e25 => ?_
        replace hT := qlc e25 hT
        have w26 := wI_rng v24
        have w27 : wI v24 = v24 := wI_id (by (first | (clear hm hnf; omega) | omega))
        exact Exists.intro ((((wI v24)) + 1) * 100 + 50 : Int).toNat (And.intro (by first | exact qtn hm (by (try clear hm hnf); omega) | omega) (And.intro i1 (And.intro j1 (And.intro f1 (And.intro rfl (And.intro (by (first | (clear hm hnf; omega) | omega)) (And.intro (by (first | (clear hm hnf; omega) | omega)) (And.intro (by (first | (clear hm hnf; omega) | omega)) (And.intro (by (first | (clear hm hnf; omega) | omega)) (Exists.intro ng (And.intro (by first | exact qtm hm hnf (by (try clear hm hnf); omega) | omega) hT)))))))))))
      · replace hT := (if_pos h23).symm.trans hT
        refine And.intro (fun h28 => ?_) (fun h28 => ?_)
        · replace hT := (if_neg h28).symm.trans hT
          refine fun v29 e30 => ?_
          replace hT := qlc e30 hT
          have h31 := sr_bd (a := d) (b := l) (by (first | (clear hm hnf; omega) | omega)) (by (first | (clear hm hnf; omega) | omega))
          refine fun v32 e33 => ?_
          replace hT := qlc e33 hT
          have h34 := ia_bd (a := v29) (b := 1) (by (first | (clear hm hnf; omega) | omega)) (by (first | (clear hm hnf; omega) | omega))
          refine And.intro (fun h35 => ?_) (fun h35 => ?_)
          · replace hT := (if_pos h35).symm.trans hT
            refine And.intro (fun h36 => ?_) (fun h36 => by exfalso; omega)
            refine fun v37 e38 => ?_
            replace hT := qlc e38 hT
            have w39 := wI_rng v37
            have w40 : wI v37 = v37 := wI_id (by (first | (clear hm hnf; omega) | omega))
            exact Exists.intro ((d + 1) * 100 + 10 - ((wI v37)) : Int).toNat (And.intro (by first | exact qtn hm (by (try clear hm hnf); omega) | omega) (And.intro i1 (And.intro j1 (And.intro f1 (And.intro rfl (And.intro (by (first | (clear hm hnf; omega) | omega)) (And.intro (by (first | (clear hm hnf; omega) | omega)) (And.intro (by (first | (clear hm hnf; omega) | omega)) (And.intro (by (first | (clear hm hnf; omega) | omega)) (And.intro (by (first | (clear hm hnf; omega) | omega)) (And.intro (by (first | (clear hm hnf; omega) | omega)) (Exists.intro ng (And.intro (by first | exact qtm hm hnf (by (try clear hm hnf); omega) | omega) hT)))))))))))))
          · replace hT := (if_neg h35).symm.trans hT
            refine And.intro (fun h41 => by exfalso; omega) (fun h41 => ?_)
            refine fun v42 e43 => ?_
            replace hT := qlc e43 hT
            refine fun v44 e45 => ?_
            replace hT := qlc e45 hT
            refine And.intro (fun h46 => ?_) (fun h46 => ?_)
            · replace hT := (if_neg h46).symm.trans hT
              refine Exists.intro d (Exists.intro l (Exists.intro s (And.intro rfl (And.intro (And.intro i1 (And.intro j1 (And.intro (by (first | (clear hm hnf; omega) | omega)) (And.intro (by (first | (clear hm hnf; omega) | omega)) (And.intro (by (first | (clear hm hnf; omega) | omega)) (by (first | (clear hm hnf; omega) | omega))))))) (fun r47 g49 g48 => ?_)))))
              replace hT := qlc g48 hT
              clear g48
              refine And.intro (by (first | (clear hm hnf; omega) | omega)) (fun A50 e51 => ?_)
              replace hT := qlc e51 hT
              have i52 := iva_st i1 e51 trivial
              have j53 := ivf_sa j1 e51 rfl
              have f54 := frm_s f1 e51 rfl
              refine fun v55 e56 => ?_
              replace hT := qlc e56 hT
              have w57 := wI_rng v55
              have w58 : wI v55 = v55 := wI_id (by (first | (clear hm hnf; omega) | omega))
              exact Exists.intro ((d + 1) * 100 + 10 - ((wI v55)) : Int).toNat (And.intro (by first | exact qtn hm (by (try clear hm hnf); omega) | omega) (And.intro i52 (And.intro j53 (And.intro f54 (And.intro rfl (And.intro (by (first | (clear hm hnf; omega) | omega)) (And.intro (by (first | (clear hm hnf; omega) | omega)) (And.intro (by (first | (clear hm hnf; omega) | omega)) (And.intro (by (first | (clear hm hnf; omega) | omega)) (And.intro (by (first | (clear hm hnf; omega) | omega)) (And.intro (by (first | (clear hm hnf; omega) | omega)) (Exists.intro ng (And.intro (by first | exact qtm hm hnf (by (try clear hm hnf); omega) | omega) hT)))))))))))))
            · replace hT := (if_pos h46).symm.trans hT
              refine And.intro (by (first | (clear hm hnf; omega) | omega)) (fun A59 e60 => ?_)
              replace hT := qlc e60 hT
              have i61 := iva_st i1 e60 trivial
              have j62 := ivf_sa j1 e60 rfl
              have f63 := frm_s f1 e60 rfl
              refine fun v64 e65 => ?_
              replace hT := qlc e65 hT
              have w66 := wI_rng v64
              have w67 : wI v64 = v64 := wI_id (by (first | (clear hm hnf; omega) | omega))
              exact Exists.intro ((d + 1) * 100 + 10 - ((wI v64)) : Int).toNat (And.intro (by first | exact qtn hm (by (try clear hm hnf); omega) | omega) (And.intro i61 (And.intro j62 (And.intro f63 (And.intro rfl (And.intro (by (first | (clear hm hnf; omega) | omega)) (And.intro (by (first | (clear hm hnf; omega) | omega)) (And.intro (by (first | (clear hm hnf; omega) | omega)) (And.intro (by (first | (clear hm hnf; omega) | omega)) (And.intro (by (first | (clear hm hnf; omega) | omega)) (And.intro (by (first | (clear hm hnf; omega) | omega)) (Exists.intro ng (And.intro (by first | exact qtm hm hnf (by (try clear hm hnf); omega) | omega) hT)))))))))))))
        · replace hT := (if_pos h28).symm.trans hT
          refine And.intro (fun h68 => ?_) (fun h68 => ?_)
          · replace hT := (if_neg h68).symm.trans hT
            refine And.intro (fun h69 => ?_) (fun h69 => by exfalso; omega)
            refine fun v70 e71 => ?_
            replace hT := qlc e71 hT
            have w72 := wI_rng v70
            have w73 : wI v70 = v70 := wI_id (by (first | (clear hm hnf; omega) | omega))
            exact Exists.intro ((d + 1) * 100 + 10 - ((wI v70)) : Int).toNat (And.intro (by first | exact qtn hm (by (try clear hm hnf); omega) | omega) (And.intro i1 (And.intro j1 (And.intro f1 (And.intro rfl (And.intro (by (first | (clear hm hnf; omega) | omega)) (And.intro (by (first | (clear hm hnf; omega) | omega)) (And.intro (by (first | (clear hm hnf; omega) | omega)) (And.intro (by (first | (clear hm hnf; omega) | omega)) (And.intro (by (first | (clear hm hnf; omega) | omega)) (And.intro (by (first | (clear hm hnf; omega) | omega)) (Exists.intro ng (And.intro (by first | exact qtm hm hnf (by (try clear hm hnf); omega) | omega) hT)))))))))))))
          · replace hT := (if_pos h68).symm.trans hT
            refine And.intro (fun h74 => by exfalso; omega) (fun h74 => ?_)
            refine fun v75 e76 => ?_
            replace hT := qlc e76 hT
            refine fun v77 e78 => ?_
            replace hT := qlc e78 hT
            refine And.intro (fun h79 => ?_) (fun h79 => ?_)
            · replace hT := (if_neg h79).symm.trans hT
              refine Exists.intro d (Exists.intro l (Exists.intro s (And.intro rfl (And.intro (And.intro i1 (And.intro j1 (And.intro (by (first | (clear hm hnf; omega) | omega)) (And.intro (by (first | (clear hm hnf; omega) | omega)) (And.intro (by (first | (clear hm hnf; omega) | omega)) (by (first | (clear hm hnf; omega) | omega))))))) (fun r80 g82 g81 => ?_)))))
              replace hT := qlc g81 hT
              clear g81
              refine And.intro (by (first | (clear hm hnf; omega) | omega)) (fun A83 e84 => ?_)
              replace hT := qlc e84 hT
              have i85 := iva_st i1 e84 trivial
              have j86 := ivf_sa j1 e84 rfl
              have f87 := frm_s f1 e84 rfl
              refine fun v88 e89 => ?_
              replace hT := qlc e89 hT
              have w90 := wI_rng v88
              have w91 : wI v88 = v88 := wI_id (by (first | (clear hm hnf; omega) | omega))
              exact Exists.intro ((d + 1) * 100 + 10 - ((wI v88)) : Int).toNat (And.intro (by first | exact qtn hm (by (try clear hm hnf); omega) | omega) (And.intro i85 (And.intro j86 (And.intro f87 (And.intro rfl (And.intro (by (first | (clear hm hnf; omega) | omega)) (And.intro (by (first | (clear hm hnf; omega) | omega)) (And.intro (by (first | (clear hm hnf; omega) | omega)) (And.intro (by (first | (clear hm hnf; omega) | omega)) (And.intro (by (first | (clear hm hnf; omega) | omega)) (And.intro (by (first | (clear hm hnf; omega) | omega)) (Exists.intro ng (And.intro (by first | exact qtm hm hnf (by (try clear hm hnf); omega) | omega) hT)))))))))))))
            · replace hT := (if_pos h79).symm.trans hT
              refine And.intro (by (first | (clear hm hnf; omega) | omega)) (fun A92 e93 => ?_)
              replace hT := qlc e93 hT
              have i94 := iva_st i1 e93 trivial
              have j95 := ivf_sa j1 e93 rfl
              have f96 := frm_s f1 e93 rfl
              refine fun v97 e98 => ?_
              replace hT := qlc e98 hT
              have w99 := wI_rng v97
              have w100 : wI v97 = v97 := wI_id (by (first | (clear hm hnf; omega) | omega))
              exact Exists.intro ((d + 1) * 100 + 10 - ((wI v97)) : Int).toNat (And.intro (by first | exact qtn hm (by (try clear hm hnf); omega) | omega) (And.intro i94 (And.intro j95 (And.intro f96 (And.intro rfl (And.intro (by (first | (clear hm hnf; omega) | omega)) (And.intro (by (first | (clear hm hnf; omega) | omega)) (And.intro (by (first | (clear hm hnf; omega) | omega)) (And.intro (by (first | (clear hm hnf; omega) | omega)) (And.intro (by (first | (clear hm hnf; omega) | omega)) (And.intro (by (first | (clear hm hnf; omega) | omega)) (Exists.intro ng (And.intro (by first | exact qtm hm hnf (by (try clear hm hnf); omega) | omega) hT)))))))))))))
  · refine fun v1 gv1 e2 => ?_
    replace hT := qlc e2 hT
    have b3 := ivf_at j0 5 rfl
    refine fun v4 e5 => ?_
    replace hT := qlc e5 hT
    have h6 := sl_bd (b := v1) 8 (by decide) (by (first | (clear hm hnf; omega) | omega)) (by (first | (clear hm hnf; omega) | omega))
    refine fun v7 e8 => ?_
    replace hT := qlc e8 hT
    have w9 := wI_rng v7
    have w10 : wI v7 = v7 := wI_id (by (first | (clear hm hnf; omega) | omega))
    have w11 := wI_rng v7
    have w12 : wI v7 = v7 := wI_id (by (first | (clear hm hnf; omega) | omega))
    exact Exists.intro ((((wI v7)) + 1) * 100 + 50 : Int).toNat (And.intro i0 (And.intro j0 (And.intro f0 (And.intro rfl (And.intro (by (first | (clear hm hnf; omega) | omega)) (And.intro (by (first | (clear hm hnf; omega) | omega)) (And.intro (by (first | (clear hm hnf; omega) | omega)) (And.intro (by (first | (clear hm hnf; omega) | omega)) (Exists.intro 100000 (And.intro (by (first | (clear hm hnf; omega) | omega)) hT))))))))))
theorem pC_solve {A : qA} (hA : qokA LC A) (p0 : iva IC A) (p1 : ivf JC A) : qokA LC (fC_solve A) ∧ iva IC (fC_solve A) ∧ ivf JC (fC_solve A) ∧ frm [61, 62] [] A (fC_solve A) := by
  obtain ⟨r, B, hB, _, hk⟩ := okM_ex okC_solve (as := [rf 55]) (K := fun _ B => B = (fC_solve A) ∧ iva IC (fC_solve A) ∧ ivf JC (fC_solve A) ∧ frm [61, 62] [] A (fC_solve A)) hA (qoks_c (show qok (rf _) from trivial) qoks_n) ⟨rfl, ⟨p0, p1⟩, fun A9 i9 j9 f9 x0 => (by rw [← x0]; exact ⟨rfl, i9, j9, f9⟩)⟩
  exact ⟨hk.1 ▸ hB, hk.2⟩
def fC_least (A : qA) : Int := qlet (A 61 8) fun v1 => v1
def sC_least : qS := fun as A K => as = [rf 55] ∧ (iva IC A ∧ ivf JC A) ∧ (∀ r : Int, rng r → (r = fC_least A) → K (some (ni r)) A)
theorem okC_least : okM LC 1 72 sC_least := by
  refine qmeth [] false [] 11 rfl trivial ?_
  rintro _ A K hA has ⟨rfl, ⟨i0, j0⟩, hK⟩
  have f0 := frm_0 [] [] A
  have hT : _ = fC_least A := (fC_least.eq_1 A).symm
  refine ⟨Nat.le_of_ble_eq_true rfl, [], trivial, ?_⟩
  refine And.intro (by (first | (clear hm hnf; omega) | omega)) (fun v1 gv1 e2 => ?_)
  replace hT := qlc e2 hT
  exact hK _ (by first | assumption | exact wI_rng _ | exact ⟨by (first | (clear hm hnf; omega) | omega), by (first | (clear hm hnf; omega) | omega)⟩ | exact i_rng _ | (subst_vars; exact i_rng _) | exact (hA _ _).2 rfl) hT
theorem pC_least {A : qA} (hA : qokA LC A) (p0 : iva IC A) (p1 : ivf JC A) : rng (fC_least A) := by
  obtain ⟨r, B, hB, _, hk⟩ := okM_ex okC_least (as := [rf 55]) (K := fun _ B => B = A ∧ rng (fC_least A)) hA (qoks_c (show qok (rf _) from trivial) qoks_n) ⟨rfl, ⟨p0, p1⟩, fun r9 g9 x0 => (by rw [← x0]; exact ⟨rfl, g9⟩)⟩
  exact hk.2
def fC_cellAt (p : Int) (A : qA) : Int := (if 0 ≤ p ∧ p ≤ 7 then qlet (A 62 p) fun v3 => v3 else (-1))
def sC_cellAt : qS := fun as A K => ∃ p : Int, as = [rf 55, ni p] ∧ (iva IC A ∧ ivf JC A) ∧ (∀ r : Int, (-1) ≤ r → r ≤ 47 → (r = fC_cellAt p A) → K (some (ni r)) A)
theorem okC_cellAt : okM LC 2 73 sC_cellAt := by
  refine qmeth [] false [(138, sC_within)] 17 rfl ⟨okC_within.le (by decide), trivial⟩ ?_
  rintro _ A K hA has ⟨p, rfl, ⟨i0, j0⟩, hK⟩
  have rg_p : rng p := has (ni p) (by simp)
  have f0 := frm_0 [] [] A
  have hT : _ = fC_cellAt p A := (fC_cellAt.eq_1 p A).symm
  refine ⟨Nat.le_of_ble_eq_true rfl, [], trivial, ?_⟩
  refine Exists.intro p (Exists.intro 7 (And.intro rfl (And.intro (fun h1 => ?_) (fun h1 => ?_))))
  · replace hT := (if_pos h1).symm.trans hT
    refine And.intro (fun h2 => by exfalso; omega) (fun h2 => ?_)
    refine And.intro (by (first | (clear hm hnf; omega) | omega)) (fun v3 gv3 e4 => ?_)
    replace hT := qlc e4 hT
    have b5 := iva_at i0 30 rfl (i := p) (by (first | (clear hm hnf; omega) | omega)) (by (first | (clear hm hnf; omega) | omega))
    exact hK _ (by (first | (clear hm hnf; omega) | omega)) (by (first | (clear hm hnf; omega) | omega)) hT
  · replace hT := (if_neg h1).symm.trans hT
    refine And.intro (fun h6 => ?_) (fun h6 => by exfalso; omega)
    exact hK _ (by (first | (clear hm hnf; omega) | omega)) (by (first | (clear hm hnf; omega) | omega)) hT
theorem pC_cellAt {p : Int} {A : qA} (hA : qokA LC A) (rg_p : rng p) (p0 : iva IC A) (p1 : ivf JC A) : ((-1) ≤ (fC_cellAt p A) ∧ (fC_cellAt p A) ≤ 47) := by
  obtain ⟨r, B, hB, _, hk⟩ := okM_ex okC_cellAt (as := [rf 55, ni p]) (K := fun _ B => B = A ∧ ((-1) ≤ (fC_cellAt p A) ∧ (fC_cellAt p A) ≤ 47)) hA (qoks_c (show qok (rf _) from trivial) (qoks_c (rg_p) qoks_n)) ⟨p, rfl, ⟨p0, p1⟩, fun r9 g8 g9 x0 => (by rw [← x0]; exact ⟨rfl, ⟨g8, g9⟩⟩)⟩
  exact hk.2
def fC_fits_c23 (rec : Nat → List Int → qA → Int) (l1 l2 k : Int) (A : qA) : Int := (if l1 < k then 1 else qlet (A 64 k) fun v26 => (if v26 < l2 then 0 else qlet (k + 1) fun v29 => rec 23 [l1, l2, v29] A))
def fC_fits_L : Nat → Nat → List Int → qA → Int
  | 0 => fun _ _ B => 0
  | nF + 1 => fun k zs B => bif Nat.beq k 23 then (match zs with | [l1, l2, k] => fC_fits_c23 (fC_fits_L nF) l1 l2 k B | _ => 0) else 0
theorem fC_fits_L23 (nF : Nat) (l1 l2 k : Int) (B : qA) : fC_fits_L (nF + 1) 23 [l1, l2, k] B = fC_fits_c23 (fC_fits_L nF) l1 l2 k B := (congrFun (congrFun (congrFun (fC_fits_L.eq_2 nF) 23) [l1, l2, k]) B).trans (qL1 rfl rfl)
def fC_fits (c h : Int) (A : qA) : Int := qlet (qm c 6) fun v5 => qlet (6 - v5) fun v8 => qlet (h * v8) fun v10 => qlet (qd c 6) fun v13 => qlet (A 18 v13) fun v16 => (if v16 < v10 then 0 else qlet (qm c 6) fun v20 => qlet (c - v20) fun v23 => (fC_fits_L 100000) 23 [c, h, v23] A)
def sC_fits : qS := fun as A K => ∃ c h : Int, as = [rf 63, ni c, ni h] ∧ (iva IC A ∧ ivf JC A ∧ 0 ≤ c ∧ c ≤ 47 ∧ 1 ≤ h ∧ h ≤ 200) ∧ (∀ r : Int, 0 ≤ r → r ≤ 1 → (r = fC_fits c h A) → K (some (ni r)) A)
theorem okC_fits : okM LC 1 40 sC_fits := by
  refine qmeth [] false [] 44 rfl trivial ?_
  rintro _ A K hA has ⟨c, h, rfl, ⟨i0, j0, p1, p2, p3, p4⟩, hK⟩
  have rg_c : rng c := has (ni c) (by simp)
  have rg_h : rng h := has (ni h) (by simp)
  have f0 := frm_0 [] [] A
  have hT : _ = fC_fits c h A := (fC_fits.eq_1 c h A).symm
  refine ⟨Nat.le_of_ble_eq_true rfl, [(23, [(0, 2, 63), (1, 0, 0), (2, 0, 0), (3, 0, 0)], fun zs B nn => match zs with | [l1, l2, k] => A = B ∧ nn = (48 - k : Int).toNat ∧ (l1 = c) ∧ (l2 = h) ∧ (0 ≤ k) ∧ (k ≤ 48) ∧ (∃ nf : Nat, nn < nf ∧ fC_fits_L nf 23 [l1, l2, k] B = fC_fits c h A) | _ => False)], ?_, ?_⟩
  · refine ⟨⟨rfl, ?_⟩, trivial⟩
    · refine fun l1 l2 k B mm hB hz hI => ?_
      obtain ⟨rfl, hm, c0, c1, c2, c3, ⟨nf, hnf, hT⟩⟩ := hI
      obtain ⟨hz_l1, hz_l2, hz_k, _⟩ := hz
      obtain ⟨ng, rfl⟩ : ∃ k, nf = k + 1 := ⟨nf - 1, by omega⟩
      replace hT := (fC_fits_c23.eq_1 (fC_fits_L ng) l1 l2 k A).symm.trans ((fC_fits_L23 ng l1 l2 k A).symm.trans hT)
      refine And.intro (fun h25 => ?_) (fun h25 => ?_)
      · replace hT := (if_pos h25).symm.trans hT
        exact And.intro (by (first | (clear hm hnf; omega) | omega)) (hK _ (by (first | (clear hm hnf; omega) | omega)) (by (first | (clear hm hnf; omega) | omega)) hT)
      · replace hT := (if_neg (Int.not_lt.mpr h25)).symm.trans hT
        refine And.intro (by (first | (clear hm hnf; omega) | omega)) (fun v26 gv26 e27 => ?_)
        replace hT := qlc e27 hT
        refine And.intro (fun h28 => ?_) (fun h28 => ?_)
        · replace hT := (if_neg (Int.not_lt.mpr h28)).symm.trans hT
          refine fun v29 e30 => ?_
          replace hT := qlc e30 hT
          exact And.intro (by (first | (clear hm hnf; omega) | omega)) (Exists.intro (48 - v29 : Int).toNat (And.intro (by first | exact qtn hm (by (try clear hm hnf); omega) | omega) (And.intro rfl (And.intro rfl (And.intro (by (first | (clear hm hnf; omega) | omega)) (And.intro (by (first | (clear hm hnf; omega) | omega)) (And.intro (by (first | (clear hm hnf; omega) | omega)) (And.intro (by (first | (clear hm hnf; omega) | omega)) (Exists.intro ng (And.intro (by first | exact qtm hm hnf (by (try clear hm hnf); omega) | omega) hT))))))))))
        · replace hT := (if_pos h28).symm.trans hT
          exact And.intro (by (first | (clear hm hnf; omega) | omega)) (hK _ (by (first | (clear hm hnf; omega) | omega)) (by (first | (clear hm hnf; omega) | omega)) hT)
  · refine And.intro (by (first | (clear hm hnf; omega) | omega)) (fun v5 e6 => ?_)
    replace hT := qlc e6 hT
    have h7 := qm_nn (a := c) (b := 6) (by (first | (clear hm hnf; omega) | omega))
    refine fun v8 e9 => ?_
    replace hT := qlc e9 hT
    refine fun v10 e11 => ?_
    replace hT := qlc e11 hT
    have h12 := mul_bd (a := h) (b := v8) (p := 200) (q := 6) (by (first | (clear hm hnf; omega) | omega)) (by (first | (clear hm hnf; omega) | omega)) (by (first | (clear hm hnf; omega) | omega)) (by (first | (clear hm hnf; omega) | omega))
    rw [← e11] at h12
    refine And.intro (by (first | (clear hm hnf; omega) | omega)) (fun v13 e14 => ?_)
    replace hT := qlc e14 hT
    have h15 := qd_nn (a := c) (b := 6) (by (first | (clear hm hnf; omega) | omega))
    refine And.intro (by (first | (clear hm hnf; omega) | omega)) (fun v16 gv16 e17 => ?_)
    replace hT := qlc e17 hT
    have b18 := iva_at i0 14 rfl (i := v13) (by (first | (clear hm hnf; omega) | omega)) (by (first | (clear hm hnf; omega) | omega))
    refine And.intro (by (first | (clear hm hnf; omega) | omega)) (And.intro (fun h19 => ?_) (fun h19 => ?_))
    · replace hT := (if_neg (Int.not_lt.mpr h19)).symm.trans hT
      refine And.intro (by (first | (clear hm hnf; omega) | omega)) (fun v20 e21 => ?_)
      replace hT := qlc e21 hT
      have h22 := qm_nn (a := c) (b := 6) (by (first | (clear hm hnf; omega) | omega))
      refine fun v23 e24 => ?_
      replace hT := qlc e24 hT
      exact And.intro (by (first | (clear hm hnf; omega) | omega)) (Exists.intro (48 - v23 : Int).toNat (And.intro rfl (And.intro rfl (And.intro (by (first | (clear hm hnf; omega) | omega)) (And.intro (by (first | (clear hm hnf; omega) | omega)) (And.intro (by (first | (clear hm hnf; omega) | omega)) (And.intro (by (first | (clear hm hnf; omega) | omega)) (Exists.intro 100000 (And.intro (by (first | (clear hm hnf; omega) | omega)) hT)))))))))
    · replace hT := (if_pos h19).symm.trans hT
      exact And.intro (by (first | (clear hm hnf; omega) | omega)) (hK _ (by (first | (clear hm hnf; omega) | omega)) (by (first | (clear hm hnf; omega) | omega)) hT)
theorem pC_fits {c h : Int} {A : qA} (hA : qokA LC A) (p0 : iva IC A) (p1 : ivf JC A) (p2 : 0 ≤ c) (p3 : c ≤ 47) (p4 : 1 ≤ h) (p5 : h ≤ 200) : (0 ≤ (fC_fits c h A) ∧ (fC_fits c h A) ≤ 1) := by
  obtain ⟨r, B, hB, _, hk⟩ := okM_ex okC_fits (as := [rf 63, ni c, ni h]) (K := fun _ B => B = A ∧ (0 ≤ (fC_fits c h A) ∧ (fC_fits c h A) ≤ 1)) hA (qoks_c (show qok (rf _) from trivial) (qoks_c (show rng c from ⟨by (first | (clear hm hnf; omega) | omega), by (first | (clear hm hnf; omega) | omega)⟩) (qoks_c (show rng h from ⟨by (first | (clear hm hnf; omega) | omega), by (first | (clear hm hnf; omega) | omega)⟩) qoks_n))) ⟨c, h, rfl, ⟨p0, p1, p2, p3, p4, p5⟩, fun r9 g8 g9 x0 => (by rw [← x0]; exact ⟨rfl, ⟨g8, g9⟩⟩)⟩
  exact hk.2
def fC_burden_c6 (rec : Nat → List Int → qA → qA) (l1 l2 k : Int) (B : qA) : qA := (if l1 < k then B else qlet (B 64 k) fun v11 => qlet (v11 - l2) fun v13 => qlet (qu B 64 k (wI v13)) fun A15 => qlet (k + 1) fun v21 => rec 6 [l1, l2, ((wI v21))] A15)
def fC_burden_L : Nat → Nat → List Int → qA → qA
  | 0 => fun _ _ B => B
  | nF + 1 => fun k zs B => bif Nat.beq k 6 then (match zs with | [l1, l2, k] => fC_burden_c6 (fC_burden_L nF) l1 l2 k B | _ => B) else B
theorem fC_burden_L6 (nF : Nat) (l1 l2 k : Int) (B : qA) : fC_burden_L (nF + 1) 6 [l1, l2, k] B = fC_burden_c6 (fC_burden_L nF) l1 l2 k B := (congrFun (congrFun (congrFun (fC_burden_L.eq_2 nF) 6) [l1, l2, k]) B).trans (qL1 rfl rfl)
def fC_burden (c h : Int) (A : qA) : qA := qlet (qm c 6) fun v3 => qlet (c - v3) fun v6 => (fC_burden_L 100000) 6 [c, h, ((wI v6))] A
def sC_burden : qS := fun as A K => ∃ c h : Int, as = [rf 63, ni c, ni h] ∧ (iva IC A ∧ ivf JC A ∧ 0 ≤ c ∧ c ≤ 47) ∧ (∀ A' : qA, iva IC A' → ivf JC A' → frm [64] [] A A' → (A' = fC_burden c h A) → K none A')
theorem okC_burden : okM LC 1 41 sC_burden := by
  refine qmeth [] true [] 26 rfl trivial ?_
  rintro _ A K hA has ⟨c, h, rfl, ⟨i0, j0, p1, p2⟩, hK⟩
  have rg_c : rng c := has (ni c) (by simp)
  have rg_h : rng h := has (ni h) (by simp)
  have f0 := frm_0 [64] [] A
  have hT : _ = fC_burden c h A := (fC_burden.eq_1 c h A).symm
  refine ⟨Nat.le_of_ble_eq_true rfl, [(6, [(0, 2, 63), (1, 0, 0), (2, 0, 0), (3, 0, 0)], fun zs B nn => match zs with | [l1, l2, k] => iva IC B ∧ ivf JC B ∧ frm [64] [] A B ∧ nn = (48 - k : Int).toNat ∧ (l1 = c) ∧ (l2 = h) ∧ (0 ≤ k) ∧ (k ≤ 48) ∧ (∃ nf : Nat, nn < nf ∧ fC_burden_L nf 6 [l1, l2, k] B = fC_burden c h A) | _ => False)], ?_, ?_⟩
  · refine ⟨⟨rfl, ?_⟩, trivial⟩
    · refine fun l1 l2 k B mm hB hz hI => ?_
      obtain ⟨i1, j1, f1, hm, c0, c1, c2, c3, ⟨nf, hnf, hT⟩⟩ := hI
      obtain ⟨hz_l1, hz_l2, hz_k, _⟩ := hz
      obtain ⟨ng, rfl⟩ : ∃ k, nf = k + 1 := ⟨nf - 1, by omega⟩
      replace hT := (fC_burden_c6.eq_1 (fC_burden_L ng) l1 l2 k B).symm.trans ((fC_burden_L6 ng l1 l2 k B).symm.trans hT)
      refine And.intro (fun h10 => ?_) (fun h10 => ?_)
      · replace hT := (if_pos h10).symm.trans hT
        exact hK _ i1 j1 f1 hT
      · replace hT := (if_neg (Int.not_lt.mpr h10)).symm.trans hT
        refine And.intro (by (first | (clear hm hnf; omega) | omega)) (fun v11 gv11 e12 => ?_)
        replace hT := qlc e12 hT
        refine fun v13 e14 => ?_
        replace hT := qlc e14 hT
        have w17 := wI_rng v13
        refine And.intro (by (first | (clear hm hnf; omega) | omega)) (fun A15 e16 => ?_)
        replace hT := qlc e16 hT
        have i18 := iva_st i1 e16 trivial
        have j19 := ivf_sa j1 e16 rfl
        have f20 := frm_s f1 e16 rfl
        refine fun v21 e22 => ?_
        replace hT := qlc e22 hT
        have w23 := wI_rng v21
        have w24 : wI v21 = v21 := wI_id (by (first | (clear hm hnf; omega) | omega))
        exact Exists.intro (48 - ((wI v21)) : Int).toNat (And.intro (by first | exact qtn hm (by (try clear hm hnf); omega) | omega) (And.intro i18 (And.intro j19 (And.intro f20 (And.intro rfl (And.intro (by (first | (clear hm hnf; omega) | omega)) (And.intro (by (first | (clear hm hnf; omega) | omega)) (And.intro (by (first | (clear hm hnf; omega) | omega)) (And.intro (by (first | (clear hm hnf; omega) | omega)) (Exists.intro ng (And.intro (by first | exact qtm hm hnf (by (try clear hm hnf); omega) | omega) hT)))))))))))
  · refine And.intro (by (first | (clear hm hnf; omega) | omega)) (fun v3 e4 => ?_)
    replace hT := qlc e4 hT
    have h5 := qm_nn (a := c) (b := 6) (by (first | (clear hm hnf; omega) | omega))
    refine fun v6 e7 => ?_
    replace hT := qlc e7 hT
    have w8 := wI_rng v6
    have w9 : wI v6 = v6 := wI_id (by (first | (clear hm hnf; omega) | omega))
    exact Exists.intro (48 - ((wI v6)) : Int).toNat (And.intro i0 (And.intro j0 (And.intro f0 (And.intro rfl (And.intro (by (first | (clear hm hnf; omega) | omega)) (And.intro (by (first | (clear hm hnf; omega) | omega)) (And.intro (by (first | (clear hm hnf; omega) | omega)) (And.intro (by (first | (clear hm hnf; omega) | omega)) (Exists.intro 100000 (And.intro (by (first | (clear hm hnf; omega) | omega)) hT))))))))))
theorem pC_burden {c h : Int} {A : qA} (hA : qokA LC A) (rg_h : rng h) (p0 : iva IC A) (p1 : ivf JC A) (p2 : 0 ≤ c) (p3 : c ≤ 47) : qokA LC (fC_burden c h A) ∧ iva IC (fC_burden c h A) ∧ ivf JC (fC_burden c h A) ∧ frm [64] [] A (fC_burden c h A) := by
  obtain ⟨r, B, hB, _, hk⟩ := okM_ex okC_burden (as := [rf 63, ni c, ni h]) (K := fun _ B => B = (fC_burden c h A) ∧ iva IC (fC_burden c h A) ∧ ivf JC (fC_burden c h A) ∧ frm [64] [] A (fC_burden c h A)) hA (qoks_c (show qok (rf _) from trivial) (qoks_c (show rng c from ⟨by (first | (clear hm hnf; omega) | omega), by (first | (clear hm hnf; omega) | omega)⟩) (qoks_c (rg_h) qoks_n))) ⟨c, h, rfl, ⟨p0, p1, p2, p3⟩, fun A9 i9 j9 f9 x0 => (by rw [← x0]; exact ⟨rfl, i9, j9, f9⟩)⟩
  exact ⟨hk.1 ▸ hB, hk.2⟩
def fC_tryCell5 (p s : Int) (A : qA) : qA := qlet (A 63 (fd 6)) fun v3 => qlet (A 63 (fd 7)) fun v7 => (if v7 < s then qlet (qu A 63 (fd 7) s) fun A10 => qlet (qcpy A10 66 0 67 0 5) fun A15 => A15 else A)
def sC_tryCell5 : qS := fun as A K => ∃ p s : Int, as = [rf 63, ni p, ni s] ∧ (iva IC A ∧ ivf JC A ∧ 5 ≤ p ∧ p ≤ 5) ∧ (∀ A' : qA, iva IC A' → ivf JC A' → frm [64, 66, 67] [(63, 7)] A A' → (A' = fC_tryCell5 p s A) → K none A')
theorem okC_tryCell5 : okM LC 1 39 sC_tryCell5 := by
  refine qmeth [] true [] 96 rfl trivial ?_
  rintro _ A K hA has ⟨p, s, rfl, ⟨i0, j0, p1, p2⟩, hK⟩
  have rg_p : rng p := has (ni p) (by simp)
  have rg_s : rng s := has (ni s) (by simp)
  have f0 := frm_0 [64, 66, 67] [(63, 7)] A
  have hT : _ = fC_tryCell5 p s A := (fC_tryCell5.eq_1 p s A).symm
  refine ⟨Nat.le_of_ble_eq_true rfl, [], trivial, ?_⟩
  refine fun v3 gv3 e4 => ?_
  replace hT := qlc e4 hT
  have b5 := ivf_at j0 6 rfl
  refine And.intro (fun h6 => ?_) (fun h6 => by exfalso; omega)
  refine fun v7 gv7 e8 => ?_
  replace hT := qlc e8 hT
  refine And.intro (fun h9 => ?_) (fun h9 => ?_)
  · replace hT := (if_neg (Int.not_lt.mpr h9)).symm.trans hT
    exact hK _ i0 j0 f0 hT
  · replace hT := (if_pos h9).symm.trans hT
    refine fun A10 e11 => ?_
    replace hT := qlc e11 hT
    have i12 := iva_sf i0 e11 rfl
    have j13 := ivf_st j0 e11 trivial
    have f14 := frm_sf f0 e11 rfl
    refine And.intro (by (first | (clear hm hnf; omega) | omega)) (fun A15 e16 => ?_)
    replace hT := qlc e16 hT
    have i17 := iva_cp i12 e16 (fun i h0 h1 => And.intro (by have := iva_at i12 32 rfl (i := 0 + i) (by (first | (clear hm hnf; omega) | omega)) (by (first | (clear hm hnf; omega) | omega)); omega) trivial)
    have j18 := ivf_cp j13 e16 rfl
    have f19 := frm_cp f14 e16 rfl
    exact hK _ i17 j18 f19 hT
theorem pC_tryCell5 {p s : Int} {A : qA} (hA : qokA LC A) (rg_s : rng s) (p0 : iva IC A) (p1 : ivf JC A) (p2 : 5 ≤ p) (p3 : p ≤ 5) : qokA LC (fC_tryCell5 p s A) ∧ iva IC (fC_tryCell5 p s A) ∧ ivf JC (fC_tryCell5 p s A) ∧ frm [64, 66, 67] [(63, 7)] A (fC_tryCell5 p s A) := by
  obtain ⟨r, B, hB, _, hk⟩ := okM_ex okC_tryCell5 (as := [rf 63, ni p, ni s]) (K := fun _ B => B = (fC_tryCell5 p s A) ∧ iva IC (fC_tryCell5 p s A) ∧ ivf JC (fC_tryCell5 p s A) ∧ frm [64, 66, 67] [(63, 7)] A (fC_tryCell5 p s A)) hA (qoks_c (show qok (rf _) from trivial) (qoks_c (show rng p from ⟨by (first | (clear hm hnf; omega) | omega), by (first | (clear hm hnf; omega) | omega)⟩) (qoks_c (rg_s) qoks_n))) ⟨p, s, rfl, ⟨p0, p1, p2, p3⟩, fun A9 i9 j9 f9 x0 => (by rw [← x0]; exact ⟨rfl, i9, j9, f9⟩)⟩
  exact ⟨hk.1 ▸ hB, hk.2⟩
def fC_tryCell4_c36 (rec : Nat → List Int → qA → qA) (l1 l2 k : Int) (B : qA) : qA := (if k < 6 then qlet (B 12 k) fun v37 => qlet (B 65 l1) fun v40 => qlet (fC_fits v40 v37 B) fun r43 => (if r43 = 0 then qlet (k + 1) fun v48 => rec 36 [l1, l2, ((wI v48))] B else qlet (qu B 66 l1 k) fun A52 => qlet (A52 65 l1) fun v57 => qlet (fC_burden v40 v37 A52) fun A61 => qlet (l1 + 1) fun v67 => qlet (A61 13 k) fun v69 => qlet (v37 * v69) fun v72 => qlet (l2 + v72) fun v75 => qlet (fC_tryCell5 (wI v67) (wI v75) A61) fun A80 => qlet (A80 65 l1) fun v86 => qlet (-v37) fun v90 => qlet (fC_burden v40 (wI v90) A80) fun A94 => qlet (k + 1) fun v100 => rec 36 [l1, l2, ((wI v100))] A94) else B)
def fC_tryCell4_L : Nat → Nat → List Int → qA → qA
  | 0 => fun _ _ B => B
  | nF + 1 => fun k zs B => bif Nat.beq k 36 then (match zs with | [l1, l2, k] => fC_tryCell4_c36 (fC_tryCell4_L nF) l1 l2 k B | _ => B) else B
theorem fC_tryCell4_L36 (nF : Nat) (l1 l2 k : Int) (B : qA) : fC_tryCell4_L (nF + 1) 36 [l1, l2, k] B = fC_tryCell4_c36 (fC_tryCell4_L nF) l1 l2 k B := (congrFun (congrFun (congrFun (fC_tryCell4_L.eq_2 nF) 36) [l1, l2, k]) B).trans (qL1 rfl rfl)
def fC_tryCell4 (p s : Int) (A : qA) : qA := qlet (A 63 (fd 6)) fun v3 => (if p < v3 then qlet (qu A 66 p (-1)) fun A21 => qlet (p + 1) fun v26 => qlet (fC_tryCell5 (wI v26) s A21) fun A30 => (fC_tryCell4_L 100000) 36 [p, s, 0] A30 else qlet (A 63 (fd 7)) fun v7 => (if v7 < s then qlet (qu A 63 (fd 7) s) fun A10 => qlet (qcpy A10 66 0 67 0 5) fun A15 => A15 else A))
def sC_tryCell4 : qS := fun as A K => ∃ p s : Int, as = [rf 63, ni p, ni s] ∧ (iva IC A ∧ ivf JC A ∧ 4 ≤ p ∧ p ≤ 4) ∧ (∀ A' : qA, iva IC A' → ivf JC A' → frm [64, 66, 67] [(63, 7)] A A' → (A' = fC_tryCell4 p s A) → K none A')
theorem okC_tryCell4 : okM LC 2 39 sC_tryCell4 := by
  refine qmeth [] true [(39, sC_tryCell5), (40, sC_fits), (41, sC_burden)] 96 rfl ⟨okC_tryCell5.le (by decide), ⟨okC_fits.le (by decide), ⟨okC_burden.le (by decide), trivial⟩⟩⟩ ?_
  rintro _ A K hA has ⟨p, s, rfl, ⟨i0, j0, p1, p2⟩, hK⟩
  have rg_p : rng p := has (ni p) (by simp)
  have rg_s : rng s := has (ni s) (by simp)
  have f0 := frm_0 [64, 66, 67] [(63, 7)] A
  have hT : _ = fC_tryCell4 p s A := (fC_tryCell4.eq_1 p s A).symm
  refine ⟨Nat.le_of_ble_eq_true rfl, [(36, [(0, 2, 63), (1, 0, 0), (2, 0, 0), (3, 0, 0)], fun zs B nn => match zs with | [l1, l2, k] => iva IC B ∧ ivf JC B ∧ frm [64, 66, 67] [(63, 7)] A B ∧ nn = (6 - k : Int).toNat ∧ (l1 = p) ∧ (l2 = s) ∧ (0 ≤ k) ∧ (k ≤ 6) ∧ (∃ nf : Nat, nn < nf ∧ fC_tryCell4_L nf 36 [l1, l2, k] B = fC_tryCell4 p s A) | _ => False)], ?_, ?_⟩
  · refine ⟨⟨rfl, ?_⟩, trivial⟩
    · refine fun l1 l2 k B mm hB hz hI => ?_
      obtain ⟨i1, j1, f1, hm, c0, c1, c2, c3, ⟨nf, hnf, hT⟩⟩ := hI
      obtain ⟨hz_l1, hz_l2, hz_k, _⟩ := hz
      obtain ⟨ng, rfl⟩ : ∃ k, nf = k + 1 := ⟨nf - 1, by omega⟩
      replace hT := (fC_tryCell4_c36.eq_1 (fC_tryCell4_L ng) l1 l2 k B).symm.trans ((fC_tryCell4_L36 ng l1 l2 k B).symm.trans hT)
      refine And.intro (fun h36 => ?_) (fun h36 => ?_)
      · replace hT := (if_neg (Int.not_lt.mpr h36)).symm.trans hT
        exact hK _ i1 j1 f1 hT
      · replace hT := (if_pos h36).symm.trans hT
        refine And.intro (by (first | (clear hm hnf; omega) | omega)) (fun v37 gv37 e38 => ?_)
        replace hT := qlc e38 hT
        have b39 := iva_at i1 9 rfl (i := k) (by (first | (clear hm hnf; omega) | omega)) (by (first | (clear hm hnf; omega) | omega))
        refine And.intro (by (first | (clear hm hnf; omega) | omega)) (fun v40 gv40 e41 => ?_)
        replace hT := qlc e41 hT
        have b42 := iva_at i1 31 rfl (i := l1) (by (first | (clear hm hnf; omega) | omega)) (by (first | (clear hm hnf; omega) | omega))
        refine Exists.intro v40 (Exists.intro v37 (And.intro rfl (And.intro (And.intro i1 (And.intro j1 (And.intro (by (first | (clear hm hnf; omega) | omega)) (And.intro (by (first | (clear hm hnf; omega) | omega)) (And.intro (by (first | (clear hm hnf; omega) | omega)) (by (first | (clear hm hnf; omega) | omega))))))) (fun r43 g45 g46 g44 => ?_))))
        replace hT := qlc g44 hT
        clear g44
        refine And.intro (fun h47 => ?_) (fun h47 => ?_)
        · replace hT := (if_pos h47).symm.trans hT
          refine fun v48 e49 => ?_
          replace hT := qlc e49 hT
          have w50 := wI_rng v48
          have w51 : wI v48 = v48 := wI_id (by (first | (clear hm hnf; omega) | omega))
          exact Exists.intro (6 - ((wI v48)) : Int).toNat (And.intro (by first | exact qtn hm (by (try clear hm hnf); omega) | omega) (And.intro i1 (And.intro j1 (And.intro f1 (And.intro rfl (And.intro (by (first | (clear hm hnf; omega) | omega)) (And.intro (by (first | (clear hm hnf; omega) | omega)) (And.intro (by (first | (clear hm hnf; omega) | omega)) (And.intro (by (first | (clear hm hnf; omega) | omega)) (Exists.intro ng (And.intro (by first | exact qtm hm hnf (by (try clear hm hnf); omega) | omega) hT)))))))))))
        · replace hT := (if_neg h47).symm.trans hT
          refine And.intro (by (first | (clear hm hnf; omega) | omega)) (fun A52 e53 => ?_)
          replace hT := qlc e53 hT
          have i54 := iva_st i1 e53 (And.intro (by (first | (clear hm hnf; omega) | omega)) trivial)
          have j55 := ivf_sa j1 e53 rfl
          have f56 := frm_s f1 e53 rfl
          refine And.intro (by (first | (clear hm hnf; omega) | omega)) (fun v57 gv57 e58 => ?_)
          replace hT := qlc e58 hT
          have b59 := iva_at i54 31 rfl (i := l1) (by (first | (clear hm hnf; omega) | omega)) (by (first | (clear hm hnf; omega) | omega))
          have q60 : v40 = v57 := (e58.trans ((congrFun (st_a e53 rfl) _).trans e41.symm)).symm
          subst q60
          refine Exists.intro v40 (Exists.intro v37 (And.intro rfl (And.intro (And.intro i54 (And.intro j55 (And.intro (by (first | (clear hm hnf; omega) | omega)) (by (first | (clear hm hnf; omega) | omega))))) (fun A61 i62 j63 f64 g65 => ?_))))
          replace hT := qlc g65 hT
          have f66 := frm_c f56 f64 rfl
          refine fun v67 e68 => ?_
          replace hT := qlc e68 hT
          refine And.intro (by (first | (clear hm hnf; omega) | omega)) (fun v69 gv69 e70 => ?_)
          replace hT := qlc e70 hT
          have b71 := iva_at i62 10 rfl (i := k) (by (first | (clear hm hnf; omega) | omega)) (by (first | (clear hm hnf; omega) | omega))
          refine fun v72 e73 => ?_
          replace hT := qlc e73 hT
          have h74 := mul_bd (a := v37) (b := v69) (p := 200) (q := 99) (by (first | (clear hm hnf; omega) | omega)) (by (first | (clear hm hnf; omega) | omega)) (by (first | (clear hm hnf; omega) | omega)) (by (first | (clear hm hnf; omega) | omega))
          rw [← e73] at h74
          refine fun v75 e76 => ?_
          replace hT := qlc e76 hT
          have w77 := wI_rng v67
          have w78 : wI v67 = v67 := wI_id (by (first | (clear hm hnf; omega) | omega))
          have w79 := wI_rng v75
          refine Exists.intro (wI v67) (Exists.intro (wI v75) (And.intro rfl (And.intro (And.intro i62 (And.intro j63 (And.intro (by (first | (clear hm hnf; omega) | omega)) (by (first | (clear hm hnf; omega) | omega))))) (fun A80 i81 j82 f83 g84 => ?_))))
          replace hT := qlc g84 hT
          have f85 := frm_c f66 f83 rfl
          refine And.intro (by (first | (clear hm hnf; omega) | omega)) (fun v86 gv86 e87 => ?_)
          replace hT := qlc e87 hT
          have b88 := iva_at i81 31 rfl (i := l1) (by (first | (clear hm hnf; omega) | omega)) (by (first | (clear hm hnf; omega) | omega))
          have q89 : v40 = v86 := (e87.trans ((congrFun (Eq.trans (frm_a f83 rfl) (frm_a f64 rfl)) _).trans e58.symm)).symm
          subst q89
          refine fun v90 e91 => ?_
          replace hT := qlc e91 hT
          have w92 := wI_rng v90
          have w93 : wI v90 = v90 := wI_id (by (first | (clear hm hnf; omega) | omega))
          refine Exists.intro v40 (Exists.intro (wI v90) (And.intro rfl (And.intro (And.intro i81 (And.intro j82 (And.intro (by (first | (clear hm hnf; omega) | omega)) (by (first | (clear hm hnf; omega) | omega))))) (fun A94 i95 j96 f97 g98 => ?_))))
          replace hT := qlc g98 hT
          have f99 := frm_c f85 f97 rfl
          refine fun v100 e101 => ?_
          replace hT := qlc e101 hT
          have w102 := wI_rng v100
          have w103 : wI v100 = v100 := wI_id (by (first | (clear hm hnf; omega) | omega))
          exact Exists.intro (6 - ((wI v100)) : Int).toNat (And.intro (by first | exact qtn hm (by (try clear hm hnf); omega) | omega) (And.intro i95 (And.intro j96 (And.intro f99 (And.intro rfl (And.intro (by (first | (clear hm hnf; omega) | omega)) (And.intro (by (first | (clear hm hnf; omega) | omega)) (And.intro (by (first | (clear hm hnf; omega) | omega)) (And.intro (by (first | (clear hm hnf; omega) | omega)) (Exists.intro ng (And.intro (by first | exact qtm hm hnf (by (try clear hm hnf); omega) | omega) hT)))))))))))
  · refine fun v3 gv3 e4 => ?_
    replace hT := qlc e4 hT
    have b5 := ivf_at j0 6 rfl
    refine And.intro (fun h6 => ?_) (fun h6 => ?_)
    · replace hT := (if_neg (Int.not_lt.mpr h6)).symm.trans hT
      refine fun v7 gv7 e8 => ?_
      replace hT := qlc e8 hT
      refine And.intro (fun h9 => ?_) (fun h9 => ?_)
      · replace hT := (if_neg (Int.not_lt.mpr h9)).symm.trans hT
        exact hK _ i0 j0 f0 hT
      · replace hT := (if_pos h9).symm.trans hT
        refine fun A10 e11 => ?_
        replace hT := qlc e11 hT
        have i12 := iva_sf i0 e11 rfl
        have j13 := ivf_st j0 e11 trivial
        have f14 := frm_sf f0 e11 rfl
        refine And.intro (by (first | (clear hm hnf; omega) | omega)) (fun A15 e16 => ?_)
        replace hT := qlc e16 hT
        have i17 := iva_cp i12 e16 (fun i h0 h1 => And.intro (by have := iva_at i12 32 rfl (i := 0 + i) (by (first | (clear hm hnf; omega) | omega)) (by (first | (clear hm hnf; omega) | omega)); omega) trivial)
        have j18 := ivf_cp j13 e16 rfl
        have f19 := frm_cp f14 e16 rfl
        exact hK _ i17 j18 f19 hT
    · replace hT := (if_pos h6).symm.trans hT
      refine And.intro (fun h20 => ?_) (fun h20 => by exfalso; omega)
      refine And.intro (by (first | (clear hm hnf; omega) | omega)) (fun A21 e22 => ?_)
      replace hT := qlc e22 hT
      have i23 := iva_st i0 e22 (And.intro (by (first | (clear hm hnf; omega) | omega)) trivial)
      have j24 := ivf_sa j0 e22 rfl
      have f25 := frm_s f0 e22 rfl
      refine fun v26 e27 => ?_
      replace hT := qlc e27 hT
      have w28 := wI_rng v26
      have w29 : wI v26 = v26 := wI_id (by (first | (clear hm hnf; omega) | omega))
      refine Exists.intro (wI v26) (Exists.intro s (And.intro rfl (And.intro (And.intro i23 (And.intro j24 (And.intro (by (first | (clear hm hnf; omega) | omega)) (by (first | (clear hm hnf; omega) | omega))))) (fun A30 i31 j32 f33 g34 => ?_))))
      replace hT := qlc g34 hT
      have f35 := frm_c f25 f33 rfl
      exact Exists.intro (6 - 0 : Int).toNat (And.intro i31 (And.intro j32 (And.intro f35 (And.intro rfl (And.intro (by (first | (clear hm hnf; omega) | omega)) (And.intro (by (first | (clear hm hnf; omega) | omega)) (And.intro (by (first | (clear hm hnf; omega) | omega)) (And.intro (by (first | (clear hm hnf; omega) | omega)) (Exists.intro 100000 (And.intro (by (first | (clear hm hnf; omega) | omega)) hT))))))))))
theorem pC_tryCell4 {p s : Int} {A : qA} (hA : qokA LC A) (rg_s : rng s) (p0 : iva IC A) (p1 : ivf JC A) (p2 : 4 ≤ p) (p3 : p ≤ 4) : qokA LC (fC_tryCell4 p s A) ∧ iva IC (fC_tryCell4 p s A) ∧ ivf JC (fC_tryCell4 p s A) ∧ frm [64, 66, 67] [(63, 7)] A (fC_tryCell4 p s A) := by
  obtain ⟨r, B, hB, _, hk⟩ := okM_ex okC_tryCell4 (as := [rf 63, ni p, ni s]) (K := fun _ B => B = (fC_tryCell4 p s A) ∧ iva IC (fC_tryCell4 p s A) ∧ ivf JC (fC_tryCell4 p s A) ∧ frm [64, 66, 67] [(63, 7)] A (fC_tryCell4 p s A)) hA (qoks_c (show qok (rf _) from trivial) (qoks_c (show rng p from ⟨by (first | (clear hm hnf; omega) | omega), by (first | (clear hm hnf; omega) | omega)⟩) (qoks_c (rg_s) qoks_n))) ⟨p, s, rfl, ⟨p0, p1, p2, p3⟩, fun A9 i9 j9 f9 x0 => (by rw [← x0]; exact ⟨rfl, i9, j9, f9⟩)⟩
  exact ⟨hk.1 ▸ hB, hk.2⟩
def fC_tryCell3_c36 (rec : Nat → List Int → qA → qA) (l1 l2 k : Int) (B : qA) : qA := (if k < 6 then qlet (B 12 k) fun v37 => qlet (B 65 l1) fun v40 => qlet (fC_fits v40 v37 B) fun r43 => (if r43 = 0 then qlet (k + 1) fun v48 => rec 36 [l1, l2, ((wI v48))] B else qlet (qu B 66 l1 k) fun A52 => qlet (A52 65 l1) fun v57 => qlet (fC_burden v40 v37 A52) fun A61 => qlet (l1 + 1) fun v67 => qlet (A61 13 k) fun v69 => qlet (v37 * v69) fun v72 => qlet (l2 + v72) fun v75 => qlet (fC_tryCell4 (wI v67) (wI v75) A61) fun A80 => qlet (A80 65 l1) fun v86 => qlet (-v37) fun v90 => qlet (fC_burden v40 (wI v90) A80) fun A94 => qlet (k + 1) fun v100 => rec 36 [l1, l2, ((wI v100))] A94) else B)
def fC_tryCell3_L : Nat → Nat → List Int → qA → qA
  | 0 => fun _ _ B => B
  | nF + 1 => fun k zs B => bif Nat.beq k 36 then (match zs with | [l1, l2, k] => fC_tryCell3_c36 (fC_tryCell3_L nF) l1 l2 k B | _ => B) else B
theorem fC_tryCell3_L36 (nF : Nat) (l1 l2 k : Int) (B : qA) : fC_tryCell3_L (nF + 1) 36 [l1, l2, k] B = fC_tryCell3_c36 (fC_tryCell3_L nF) l1 l2 k B := (congrFun (congrFun (congrFun (fC_tryCell3_L.eq_2 nF) 36) [l1, l2, k]) B).trans (qL1 rfl rfl)
def fC_tryCell3 (p s : Int) (A : qA) : qA := qlet (A 63 (fd 6)) fun v3 => (if p < v3 then qlet (qu A 66 p (-1)) fun A21 => qlet (p + 1) fun v26 => qlet (fC_tryCell4 (wI v26) s A21) fun A30 => (fC_tryCell3_L 100000) 36 [p, s, 0] A30 else qlet (A 63 (fd 7)) fun v7 => (if v7 < s then qlet (qu A 63 (fd 7) s) fun A10 => qlet (qcpy A10 66 0 67 0 5) fun A15 => A15 else A))
def sC_tryCell3 : qS := fun as A K => ∃ p s : Int, as = [rf 63, ni p, ni s] ∧ (iva IC A ∧ ivf JC A ∧ 3 ≤ p ∧ p ≤ 3) ∧ (∀ A' : qA, iva IC A' → ivf JC A' → frm [64, 66, 67] [(63, 7)] A A' → (A' = fC_tryCell3 p s A) → K none A')
theorem okC_tryCell3 : okM LC 3 39 sC_tryCell3 := by
  refine qmeth [] true [(39, sC_tryCell4), (40, sC_fits), (41, sC_burden)] 96 rfl ⟨okC_tryCell4.le (by decide), ⟨okC_fits.le (by decide), ⟨okC_burden.le (by decide), trivial⟩⟩⟩ ?_
  rintro _ A K hA has ⟨p, s, rfl, ⟨i0, j0, p1, p2⟩, hK⟩
  have rg_p : rng p := has (ni p) (by simp)
  have rg_s : rng s := has (ni s) (by simp)
  have f0 := frm_0 [64, 66, 67] [(63, 7)] A
  have hT : _ = fC_tryCell3 p s A := (fC_tryCell3.eq_1 p s A).symm
  refine ⟨Nat.le_of_ble_eq_true rfl, [(36, [(0, 2, 63), (1, 0, 0), (2, 0, 0), (3, 0, 0)], fun zs B nn => match zs with | [l1, l2, k] => iva IC B ∧ ivf JC B ∧ frm [64, 66, 67] [(63, 7)] A B ∧ nn = (6 - k : Int).toNat ∧ (l1 = p) ∧ (l2 = s) ∧ (0 ≤ k) ∧ (k ≤ 6) ∧ (∃ nf : Nat, nn < nf ∧ fC_tryCell3_L nf 36 [l1, l2, k] B = fC_tryCell3 p s A) | _ => False)], ?_, ?_⟩
  · refine ⟨⟨rfl, ?_⟩, trivial⟩
    · refine fun l1 l2 k B mm hB hz hI => ?_
      obtain ⟨i1, j1, f1, hm, c0, c1, c2, c3, ⟨nf, hnf, hT⟩⟩ := hI
      obtain ⟨hz_l1, hz_l2, hz_k, _⟩ := hz
      obtain ⟨ng, rfl⟩ : ∃ k, nf = k + 1 := ⟨nf - 1, by omega⟩
      replace hT := (fC_tryCell3_c36.eq_1 (fC_tryCell3_L ng) l1 l2 k B).symm.trans ((fC_tryCell3_L36 ng l1 l2 k B).symm.trans hT)
      refine And.intro (fun h36 => ?_) (fun h36 => ?_)
      · replace hT := (if_neg (Int.not_lt.mpr h36)).symm.trans hT
        exact hK _ i1 j1 f1 hT
      · replace hT := (if_pos h36).symm.trans hT
        refine And.intro (by (first | (clear hm hnf; omega) | omega)) (fun v37 gv37 e38 => ?_)
        replace hT := qlc e38 hT
        have b39 := iva_at i1 9 rfl (i := k) (by (first | (clear hm hnf; omega) | omega)) (by (first | (clear hm hnf; omega) | omega))
        refine And.intro (by (first | (clear hm hnf; omega) | omega)) (fun v40 gv40 e41 => ?_)
        replace hT := qlc e41 hT
        have b42 := iva_at i1 31 rfl (i := l1) (by (first | (clear hm hnf; omega) | omega)) (by (first | (clear hm hnf; omega) | omega))
        refine Exists.intro v40 (Exists.intro v37 (And.intro rfl (And.intro (And.intro i1 (And.intro j1 (And.intro (by (first | (clear hm hnf; omega) | omega)) (And.intro (by (first | (clear hm hnf; omega) | omega)) (And.intro (by (first | (clear hm hnf; omega) | omega)) (by (first | (clear hm hnf; omega) | omega))))))) (fun r43 g45 g46 g44 => ?_))))
        replace hT := qlc g44 hT
        clear g44
        refine And.intro (fun h47 => ?_) (fun h47 => ?_)
        · replace hT := (if_pos h47).symm.trans hT
          refine fun v48 e49 => ?_
          replace hT := qlc e49 hT
          have w50 := wI_rng v48
          have w51 : wI v48 = v48 := wI_id (by (first | (clear hm hnf; omega) | omega))
          exact Exists.intro (6 - ((wI v48)) : Int).toNat (And.intro (by first | exact qtn hm (by (try clear hm hnf); omega) | omega) (And.intro i1 (And.intro j1 (And.intro f1 (And.intro rfl (And.intro (by (first | (clear hm hnf; omega) | omega)) (And.intro (by (first | (clear hm hnf; omega) | omega)) (And.intro (by (first | (clear hm hnf; omega) | omega)) (And.intro (by (first | (clear hm hnf; omega) | omega)) (Exists.intro ng (And.intro (by first | exact qtm hm hnf (by (try clear hm hnf); omega) | omega) hT)))))))))))
        · replace hT := (if_neg h47).symm.trans hT
          refine And.intro (by (first | (clear hm hnf; omega) | omega)) (fun A52 e53 => ?_)
          replace hT := qlc e53 hT
          have i54 := iva_st i1 e53 (And.intro (by (first | (clear hm hnf; omega) | omega)) trivial)
          have j55 := ivf_sa j1 e53 rfl
          have f56 := frm_s f1 e53 rfl
          refine And.intro (by (first | (clear hm hnf; omega) | omega)) (fun v57 gv57 e58 => ?_)
          replace hT := qlc e58 hT
          have b59 := iva_at i54 31 rfl (i := l1) (by (first | (clear hm hnf; omega) | omega)) (by (first | (clear hm hnf; omega) | omega))
          have q60 : v40 = v57 := (e58.trans ((congrFun (st_a e53 rfl) _).trans e41.symm)).symm
          subst q60
          refine Exists.intro v40 (Exists.intro v37 (And.intro rfl (And.intro (And.intro i54 (And.intro j55 (And.intro (by (first | (clear hm hnf; omega) | omega)) (by (first | (clear hm hnf; omega) | omega))))) (fun A61 i62 j63 f64 g65 => ?_))))
          replace hT := qlc g65 hT
          have f66 := frm_c f56 f64 rfl
          refine fun v67 e68 => ?_
          replace hT := qlc e68 hT
          refine And.intro (by (first | (clear hm hnf; omega) | omega)) (fun v69 gv69 e70 => ?_)
          replace hT := qlc e70 hT
          have b71 := iva_at i62 10 rfl (i := k) (by (first | (clear hm hnf; omega) | omega)) (by (first | (clear hm hnf; omega) | omega))
          refine fun v72 e73 => ?_
          replace hT := qlc e73 hT
          have h74 := mul_bd (a := v37) (b := v69) (p := 200) (q := 99) (by (first | (clear hm hnf; omega) | omega)) (by (first | (clear hm hnf; omega) | omega)) (by (first | (clear hm hnf; omega) | omega)) (by (first | (clear hm hnf; omega) | omega))
          rw [← e73] at h74
          refine fun v75 e76 => ?_
          replace hT := qlc e76 hT
          have w77 := wI_rng v67
          have w78 : wI v67 = v67 := wI_id (by (first | (clear hm hnf; omega) | omega))
          have w79 := wI_rng v75
          refine Exists.intro (wI v67) (Exists.intro (wI v75) (And.intro rfl (And.intro (And.intro i62 (And.intro j63 (And.intro (by (first | (clear hm hnf; omega) | omega)) (by (first | (clear hm hnf; omega) | omega))))) (fun A80 i81 j82 f83 g84 => ?_))))
          replace hT := qlc g84 hT
          have f85 := frm_c f66 f83 rfl
          refine And.intro (by (first | (clear hm hnf; omega) | omega)) (fun v86 gv86 e87 => ?_)
          replace hT := qlc e87 hT
          have b88 := iva_at i81 31 rfl (i := l1) (by (first | (clear hm hnf; omega) | omega)) (by (first | (clear hm hnf; omega) | omega))
          have q89 : v40 = v86 := (e87.trans ((congrFun (Eq.trans (frm_a f83 rfl) (frm_a f64 rfl)) _).trans e58.symm)).symm
          subst q89
          refine fun v90 e91 => ?_
          replace hT := qlc e91 hT
          have w92 := wI_rng v90
          have w93 : wI v90 = v90 := wI_id (by (first | (clear hm hnf; omega) | omega))
          refine Exists.intro v40 (Exists.intro (wI v90) (And.intro rfl (And.intro (And.intro i81 (And.intro j82 (And.intro (by (first | (clear hm hnf; omega) | omega)) (by (first | (clear hm hnf; omega) | omega))))) (fun A94 i95 j96 f97 g98 => ?_))))
          replace hT := qlc g98 hT
          have f99 := frm_c f85 f97 rfl
          refine fun v100 e101 => ?_
          replace hT := qlc e101 hT
          have w102 := wI_rng v100
          have w103 : wI v100 = v100 := wI_id (by (first | (clear hm hnf; omega) | omega))
          exact Exists.intro (6 - ((wI v100)) : Int).toNat (And.intro (by first | exact qtn hm (by (try clear hm hnf); omega) | omega) (And.intro i95 (And.intro j96 (And.intro f99 (And.intro rfl (And.intro (by (first | (clear hm hnf; omega) | omega)) (And.intro (by (first | (clear hm hnf; omega) | omega)) (And.intro (by (first | (clear hm hnf; omega) | omega)) (And.intro (by (first | (clear hm hnf; omega) | omega)) (Exists.intro ng (And.intro (by first | exact qtm hm hnf (by (try clear hm hnf); omega) | omega) hT)))))))))))
  · refine fun v3 gv3 e4 => ?_
    replace hT := qlc e4 hT
    have b5 := ivf_at j0 6 rfl
    refine And.intro (fun h6 => ?_) (fun h6 => ?_)
    · replace hT := (if_neg (Int.not_lt.mpr h6)).symm.trans hT
      refine fun v7 gv7 e8 => ?_
      replace hT := qlc e8 hT
      refine And.intro (fun h9 => ?_) (fun h9 => ?_)
      · replace hT := (if_neg (Int.not_lt.mpr h9)).symm.trans hT
        exact hK _ i0 j0 f0 hT
      · replace hT := (if_pos h9).symm.trans hT
        refine fun A10 e11 => ?_
        replace hT := qlc e11 hT
        have i12 := iva_sf i0 e11 rfl
        have j13 := ivf_st j0 e11 trivial
        have f14 := frm_sf f0 e11 rfl
        refine And.intro (by (first | (clear hm hnf; omega) | omega)) (fun A15 e16 => ?_)
        replace hT := qlc e16 hT
        have i17 := iva_cp i12 e16 (fun i h0 h1 => And.intro (by have := iva_at i12 32 rfl (i := 0 + i) (by (first | (clear hm hnf; omega) | omega)) (by (first | (clear hm hnf; omega) | omega)); omega) trivial)
        have j18 := ivf_cp j13 e16 rfl
        have f19 := frm_cp f14 e16 rfl
        exact hK _ i17 j18 f19 hT
    · replace hT := (if_pos h6).symm.trans hT
      refine And.intro (fun h20 => ?_) (fun h20 => by exfalso; omega)
      refine And.intro (by (first | (clear hm hnf; omega) | omega)) (fun A21 e22 => ?_)
      replace hT := qlc e22 hT
      have i23 := iva_st i0 e22 (And.intro (by (first | (clear hm hnf; omega) | omega)) trivial)
      have j24 := ivf_sa j0 e22 rfl
      have f25 := frm_s f0 e22 rfl
      refine fun v26 e27 => ?_
      replace hT := qlc e27 hT
      have w28 := wI_rng v26
      have w29 : wI v26 = v26 := wI_id (by (first | (clear hm hnf; omega) | omega))
      refine Exists.intro (wI v26) (Exists.intro s (And.intro rfl (And.intro (And.intro i23 (And.intro j24 (And.intro (by (first | (clear hm hnf; omega) | omega)) (by (first | (clear hm hnf; omega) | omega))))) (fun A30 i31 j32 f33 g34 => ?_))))
      replace hT := qlc g34 hT
      have f35 := frm_c f25 f33 rfl
      exact Exists.intro (6 - 0 : Int).toNat (And.intro i31 (And.intro j32 (And.intro f35 (And.intro rfl (And.intro (by (first | (clear hm hnf; omega) | omega)) (And.intro (by (first | (clear hm hnf; omega) | omega)) (And.intro (by (first | (clear hm hnf; omega) | omega)) (And.intro (by (first | (clear hm hnf; omega) | omega)) (Exists.intro 100000 (And.intro (by (first | (clear hm hnf; omega) | omega)) hT))))))))))
theorem pC_tryCell3 {p s : Int} {A : qA} (hA : qokA LC A) (rg_s : rng s) (p0 : iva IC A) (p1 : ivf JC A) (p2 : 3 ≤ p) (p3 : p ≤ 3) : qokA LC (fC_tryCell3 p s A) ∧ iva IC (fC_tryCell3 p s A) ∧ ivf JC (fC_tryCell3 p s A) ∧ frm [64, 66, 67] [(63, 7)] A (fC_tryCell3 p s A) := by
  obtain ⟨r, B, hB, _, hk⟩ := okM_ex okC_tryCell3 (as := [rf 63, ni p, ni s]) (K := fun _ B => B = (fC_tryCell3 p s A) ∧ iva IC (fC_tryCell3 p s A) ∧ ivf JC (fC_tryCell3 p s A) ∧ frm [64, 66, 67] [(63, 7)] A (fC_tryCell3 p s A)) hA (qoks_c (show qok (rf _) from trivial) (qoks_c (show rng p from ⟨by (first | (clear hm hnf; omega) | omega), by (first | (clear hm hnf; omega) | omega)⟩) (qoks_c (rg_s) qoks_n))) ⟨p, s, rfl, ⟨p0, p1, p2, p3⟩, fun A9 i9 j9 f9 x0 => (by rw [← x0]; exact ⟨rfl, i9, j9, f9⟩)⟩
  exact ⟨hk.1 ▸ hB, hk.2⟩
def fC_tryCell2_c36 (rec : Nat → List Int → qA → qA) (l1 l2 k : Int) (B : qA) : qA := (if k < 6 then qlet (B 12 k) fun v37 => qlet (B 65 l1) fun v40 => qlet (fC_fits v40 v37 B) fun r43 => (if r43 = 0 then qlet (k + 1) fun v48 => rec 36 [l1, l2, ((wI v48))] B else qlet (qu B 66 l1 k) fun A52 => qlet (A52 65 l1) fun v57 => qlet (fC_burden v40 v37 A52) fun A61 => qlet (l1 + 1) fun v67 => qlet (A61 13 k) fun v69 => qlet (v37 * v69) fun v72 => qlet (l2 + v72) fun v75 => qlet (fC_tryCell3 (wI v67) (wI v75) A61) fun A80 => qlet (A80 65 l1) fun v86 => qlet (-v37) fun v90 => qlet (fC_burden v40 (wI v90) A80) fun A94 => qlet (k + 1) fun v100 => rec 36 [l1, l2, ((wI v100))] A94) else B)
def fC_tryCell2_L : Nat → Nat → List Int → qA → qA
  | 0 => fun _ _ B => B
  | nF + 1 => fun k zs B => bif Nat.beq k 36 then (match zs with | [l1, l2, k] => fC_tryCell2_c36 (fC_tryCell2_L nF) l1 l2 k B | _ => B) else B
theorem fC_tryCell2_L36 (nF : Nat) (l1 l2 k : Int) (B : qA) : fC_tryCell2_L (nF + 1) 36 [l1, l2, k] B = fC_tryCell2_c36 (fC_tryCell2_L nF) l1 l2 k B := (congrFun (congrFun (congrFun (fC_tryCell2_L.eq_2 nF) 36) [l1, l2, k]) B).trans (qL1 rfl rfl)
def fC_tryCell2 (p s : Int) (A : qA) : qA := qlet (A 63 (fd 6)) fun v3 => (if p < v3 then qlet (qu A 66 p (-1)) fun A21 => qlet (p + 1) fun v26 => qlet (fC_tryCell3 (wI v26) s A21) fun A30 => (fC_tryCell2_L 100000) 36 [p, s, 0] A30 else qlet (A 63 (fd 7)) fun v7 => (if v7 < s then qlet (qu A 63 (fd 7) s) fun A10 => qlet (qcpy A10 66 0 67 0 5) fun A15 => A15 else A))
def sC_tryCell2 : qS := fun as A K => ∃ p s : Int, as = [rf 63, ni p, ni s] ∧ (iva IC A ∧ ivf JC A ∧ 2 ≤ p ∧ p ≤ 2) ∧ (∀ A' : qA, iva IC A' → ivf JC A' → frm [64, 66, 67] [(63, 7)] A A' → (A' = fC_tryCell2 p s A) → K none A')
theorem okC_tryCell2 : okM LC 4 39 sC_tryCell2 := by
  refine qmeth [] true [(39, sC_tryCell3), (40, sC_fits), (41, sC_burden)] 96 rfl ⟨okC_tryCell3.le (by decide), ⟨okC_fits.le (by decide), ⟨okC_burden.le (by decide), trivial⟩⟩⟩ ?_
  rintro _ A K hA has ⟨p, s, rfl, ⟨i0, j0, p1, p2⟩, hK⟩
  have rg_p : rng p := has (ni p) (by simp)
  have rg_s : rng s := has (ni s) (by simp)
  have f0 := frm_0 [64, 66, 67] [(63, 7)] A
  have hT : _ = fC_tryCell2 p s A := (fC_tryCell2.eq_1 p s A).symm
  refine ⟨Nat.le_of_ble_eq_true rfl, [(36, [(0, 2, 63), (1, 0, 0), (2, 0, 0), (3, 0, 0)], fun zs B nn => match zs with | [l1, l2, k] => iva IC B ∧ ivf JC B ∧ frm [64, 66, 67] [(63, 7)] A B ∧ nn = (6 - k : Int).toNat ∧ (l1 = p) ∧ (l2 = s) ∧ (0 ≤ k) ∧ (k ≤ 6) ∧ (∃ nf : Nat, nn < nf ∧ fC_tryCell2_L nf 36 [l1, l2, k] B = fC_tryCell2 p s A) | _ => False)], ?_, ?_⟩
  · refine ⟨⟨rfl, ?_⟩, trivial⟩
    · refine fun l1 l2 k B mm hB hz hI => ?_
      obtain ⟨i1, j1, f1, hm, c0, c1, c2, c3, ⟨nf, hnf, hT⟩⟩ := hI
      obtain ⟨hz_l1, hz_l2, hz_k, _⟩ := hz
      obtain ⟨ng, rfl⟩ : ∃ k, nf = k + 1 := ⟨nf - 1, by omega⟩
      replace hT := (fC_tryCell2_c36.eq_1 (fC_tryCell2_L ng) l1 l2 k B).symm.trans ((fC_tryCell2_L36 ng l1 l2 k B).symm.trans hT)
      refine And.intro (fun h36 => ?_) (fun h36 => ?_)
      · replace hT := (if_neg (Int.not_lt.mpr h36)).symm.trans hT
        exact hK _ i1 j1 f1 hT
      · replace hT := (if_pos h36).symm.trans hT
        refine And.intro (by (first | (clear hm hnf; omega) | omega)) (fun v37 gv37 e38 => ?_)
        replace hT := qlc e38 hT
        have b39 := iva_at i1 9 rfl (i := k) (by (first | (clear hm hnf; omega) | omega)) (by (first | (clear hm hnf; omega) | omega))
        refine And.intro (by (first | (clear hm hnf; omega) | omega)) (fun v40 gv40 e41 => ?_)
        replace hT := qlc e41 hT
        have b42 := iva_at i1 31 rfl (i := l1) (by (first | (clear hm hnf; omega) | omega)) (by (first | (clear hm hnf; omega) | omega))
        refine Exists.intro v40 (Exists.intro v37 (And.intro rfl (And.intro (And.intro i1 (And.intro j1 (And.intro (by (first | (clear hm hnf; omega) | omega)) (And.intro (by (first | (clear hm hnf; omega) | omega)) (And.intro (by (first | (clear hm hnf; omega) | omega)) (by (first | (clear hm hnf; omega) | omega))))))) (fun r43 g45 g46 g44 => ?_))))
        replace hT := qlc g44 hT
        clear g44
        refine And.intro (fun h47 => ?_) (fun h47 => ?_)
        · replace hT := (if_pos h47).symm.trans hT
          refine fun v48 e49 => ?_
          replace hT := qlc e49 hT
          have w50 := wI_rng v48
          have w51 : wI v48 = v48 := wI_id (by (first | (clear hm hnf; omega) | omega))
          exact Exists.intro (6 - ((wI v48)) : Int).toNat (And.intro (by first | exact qtn hm (by (try clear hm hnf); omega) | omega) (And.intro i1 (And.intro j1 (And.intro f1 (And.intro rfl (And.intro (by (first | (clear hm hnf; omega) | omega)) (And.intro (by (first | (clear hm hnf; omega) | omega)) (And.intro (by (first | (clear hm hnf; omega) | omega)) (And.intro (by (first | (clear hm hnf; omega) | omega)) (Exists.intro ng (And.intro (by first | exact qtm hm hnf (by (try clear hm hnf); omega) | omega) hT)))))))))))
        · replace hT := (if_neg h47).symm.trans hT
          refine And.intro (by (first | (clear hm hnf; omega) | omega)) (fun A52 e53 => ?_)
          replace hT := qlc e53 hT
          have i54 := iva_st i1 e53 (And.intro (by (first | (clear hm hnf; omega) | omega)) trivial)
          have j55 := ivf_sa j1 e53 rfl
          have f56 := frm_s f1 e53 rfl
          refine And.intro (by (first | (clear hm hnf; omega) | omega)) (fun v57 gv57 e58 => ?_)
          replace hT := qlc e58 hT
          have b59 := iva_at i54 31 rfl (i := l1) (by (first | (clear hm hnf; omega) | omega)) (by (first | (clear hm hnf; omega) | omega))
          have q60 : v40 = v57 := (e58.trans ((congrFun (st_a e53 rfl) _).trans e41.symm)).symm
          subst q60
          refine Exists.intro v40 (Exists.intro v37 (And.intro rfl (And.intro (And.intro i54 (And.intro j55 (And.intro (by (first | (clear hm hnf; omega) | omega)) (by (first | (clear hm hnf; omega) | omega))))) (fun A61 i62 j63 f64 g65 => ?_))))
          replace hT := qlc g65 hT
          have f66 := frm_c f56 f64 rfl
          refine fun v67 e68 => ?_
          replace hT := qlc e68 hT
          refine And.intro (by (first | (clear hm hnf; omega) | omega)) (fun v69 gv69 e70 => ?_)
          replace hT := qlc e70 hT
          have b71 := iva_at i62 10 rfl (i := k) (by (first | (clear hm hnf; omega) | omega)) (by (first | (clear hm hnf; omega) | omega))
          refine fun v72 e73 => ?_
          replace hT := qlc e73 hT
          have h74 := mul_bd (a := v37) (b := v69) (p := 200) (q := 99) (by (first | (clear hm hnf; omega) | omega)) (by (first | (clear hm hnf; omega) | omega)) (by (first | (clear hm hnf; omega) | omega)) (by (first | (clear hm hnf; omega) | omega))
          rw [← e73] at h74
          refine fun v75 e76 => ?_
          replace hT := qlc e76 hT
          have w77 := wI_rng v67
          have w78 : wI v67 = v67 := wI_id (by (first | (clear hm hnf; omega) | omega))
          have w79 := wI_rng v75
          refine Exists.intro (wI v67) (Exists.intro (wI v75) (And.intro rfl (And.intro (And.intro i62 (And.intro j63 (And.intro (by (first | (clear hm hnf; omega) | omega)) (by (first | (clear hm hnf; omega) | omega))))) (fun A80 i81 j82 f83 g84 => ?_))))
          replace hT := qlc g84 hT
          have f85 := frm_c f66 f83 rfl
          refine And.intro (by (first | (clear hm hnf; omega) | omega)) (fun v86 gv86 e87 => ?_)
          replace hT := qlc e87 hT
          have b88 := iva_at i81 31 rfl (i := l1) (by (first | (clear hm hnf; omega) | omega)) (by (first | (clear hm hnf; omega) | omega))
          have q89 : v40 = v86 := (e87.trans ((congrFun (Eq.trans (frm_a f83 rfl) (frm_a f64 rfl)) _).trans e58.symm)).symm
          subst q89
          refine fun v90 e91 => ?_
          replace hT := qlc e91 hT
          have w92 := wI_rng v90
          have w93 : wI v90 = v90 := wI_id (by (first | (clear hm hnf; omega) | omega))
          refine Exists.intro v40 (Exists.intro (wI v90) (And.intro rfl (And.intro (And.intro i81 (And.intro j82 (And.intro (by (first | (clear hm hnf; omega) | omega)) (by (first | (clear hm hnf; omega) | omega))))) (fun A94 i95 j96 f97 g98 => ?_))))
          replace hT := qlc g98 hT
          have f99 := frm_c f85 f97 rfl
          refine fun v100 e101 => ?_
          replace hT := qlc e101 hT
          have w102 := wI_rng v100
          have w103 : wI v100 = v100 := wI_id (by (first | (clear hm hnf; omega) | omega))
          exact Exists.intro (6 - ((wI v100)) : Int).toNat (And.intro (by first | exact qtn hm (by (try clear hm hnf); omega) | omega) (And.intro i95 (And.intro j96 (And.intro f99 (And.intro rfl (And.intro (by (first | (clear hm hnf; omega) | omega)) (And.intro (by (first | (clear hm hnf; omega) | omega)) (And.intro (by (first | (clear hm hnf; omega) | omega)) (And.intro (by (first | (clear hm hnf; omega) | omega)) (Exists.intro ng (And.intro (by first | exact qtm hm hnf (by (try clear hm hnf); omega) | omega) hT)))))))))))
  · refine fun v3 gv3 e4 => ?_
    replace hT := qlc e4 hT
    have b5 := ivf_at j0 6 rfl
    refine And.intro (fun h6 => ?_) (fun h6 => ?_)
    · replace hT := (if_neg (Int.not_lt.mpr h6)).symm.trans hT
      refine fun v7 gv7 e8 => ?_
      replace hT := qlc e8 hT
      refine And.intro (fun h9 => ?_) (fun h9 => ?_)
      · replace hT := (if_neg (Int.not_lt.mpr h9)).symm.trans hT
        exact hK _ i0 j0 f0 hT
      · replace hT := (if_pos h9).symm.trans hT
        refine fun A10 e11 => ?_
        replace hT := qlc e11 hT
        have i12 := iva_sf i0 e11 rfl
        have j13 := ivf_st j0 e11 trivial
        have f14 := frm_sf f0 e11 rfl
        refine And.intro (by (first | (clear hm hnf; omega) | omega)) (fun A15 e16 => ?_)
        replace hT := qlc e16 hT
        have i17 := iva_cp i12 e16 (fun i h0 h1 => And.intro (by have := iva_at i12 32 rfl (i := 0 + i) (by (first | (clear hm hnf; omega) | omega)) (by (first | (clear hm hnf; omega) | omega)); omega) trivial)
        have j18 := ivf_cp j13 e16 rfl
        have f19 := frm_cp f14 e16 rfl
        exact hK _ i17 j18 f19 hT
    · replace hT := (if_pos h6).symm.trans hT
      refine And.intro (fun h20 => ?_) (fun h20 => by exfalso; omega)
      refine And.intro (by (first | (clear hm hnf; omega) | omega)) (fun A21 e22 => ?_)
      replace hT := qlc e22 hT
      have i23 := iva_st i0 e22 (And.intro (by (first | (clear hm hnf; omega) | omega)) trivial)
      have j24 := ivf_sa j0 e22 rfl
      have f25 := frm_s f0 e22 rfl
      refine fun v26 e27 => ?_
      replace hT := qlc e27 hT
      have w28 := wI_rng v26
      have w29 : wI v26 = v26 := wI_id (by (first | (clear hm hnf; omega) | omega))
      refine Exists.intro (wI v26) (Exists.intro s (And.intro rfl (And.intro (And.intro i23 (And.intro j24 (And.intro (by (first | (clear hm hnf; omega) | omega)) (by (first | (clear hm hnf; omega) | omega))))) (fun A30 i31 j32 f33 g34 => ?_))))
      replace hT := qlc g34 hT
      have f35 := frm_c f25 f33 rfl
      exact Exists.intro (6 - 0 : Int).toNat (And.intro i31 (And.intro j32 (And.intro f35 (And.intro rfl (And.intro (by (first | (clear hm hnf; omega) | omega)) (And.intro (by (first | (clear hm hnf; omega) | omega)) (And.intro (by (first | (clear hm hnf; omega) | omega)) (And.intro (by (first | (clear hm hnf; omega) | omega)) (Exists.intro 100000 (And.intro (by (first | (clear hm hnf; omega) | omega)) hT))))))))))
theorem pC_tryCell2 {p s : Int} {A : qA} (hA : qokA LC A) (rg_s : rng s) (p0 : iva IC A) (p1 : ivf JC A) (p2 : 2 ≤ p) (p3 : p ≤ 2) : qokA LC (fC_tryCell2 p s A) ∧ iva IC (fC_tryCell2 p s A) ∧ ivf JC (fC_tryCell2 p s A) ∧ frm [64, 66, 67] [(63, 7)] A (fC_tryCell2 p s A) := by
  obtain ⟨r, B, hB, _, hk⟩ := okM_ex okC_tryCell2 (as := [rf 63, ni p, ni s]) (K := fun _ B => B = (fC_tryCell2 p s A) ∧ iva IC (fC_tryCell2 p s A) ∧ ivf JC (fC_tryCell2 p s A) ∧ frm [64, 66, 67] [(63, 7)] A (fC_tryCell2 p s A)) hA (qoks_c (show qok (rf _) from trivial) (qoks_c (show rng p from ⟨by (first | (clear hm hnf; omega) | omega), by (first | (clear hm hnf; omega) | omega)⟩) (qoks_c (rg_s) qoks_n))) ⟨p, s, rfl, ⟨p0, p1, p2, p3⟩, fun A9 i9 j9 f9 x0 => (by rw [← x0]; exact ⟨rfl, i9, j9, f9⟩)⟩
  exact ⟨hk.1 ▸ hB, hk.2⟩
def fC_tryCell1_c36 (rec : Nat → List Int → qA → qA) (l1 l2 k : Int) (B : qA) : qA := (if k < 6 then qlet (B 12 k) fun v37 => qlet (B 65 l1) fun v40 => qlet (fC_fits v40 v37 B) fun r43 => (if r43 = 0 then qlet (k + 1) fun v48 => rec 36 [l1, l2, ((wI v48))] B else qlet (qu B 66 l1 k) fun A52 => qlet (A52 65 l1) fun v57 => qlet (fC_burden v40 v37 A52) fun A61 => qlet (l1 + 1) fun v67 => qlet (A61 13 k) fun v69 => qlet (v37 * v69) fun v72 => qlet (l2 + v72) fun v75 => qlet (fC_tryCell2 (wI v67) (wI v75) A61) fun A80 => qlet (A80 65 l1) fun v86 => qlet (-v37) fun v90 => qlet (fC_burden v40 (wI v90) A80) fun A94 => qlet (k + 1) fun v100 => rec 36 [l1, l2, ((wI v100))] A94) else B)
def fC_tryCell1_L : Nat → Nat → List Int → qA → qA
  | 0 => fun _ _ B => B
  | nF + 1 => fun k zs B => bif Nat.beq k 36 then (match zs with | [l1, l2, k] => fC_tryCell1_c36 (fC_tryCell1_L nF) l1 l2 k B | _ => B) else B
theorem fC_tryCell1_L36 (nF : Nat) (l1 l2 k : Int) (B : qA) : fC_tryCell1_L (nF + 1) 36 [l1, l2, k] B = fC_tryCell1_c36 (fC_tryCell1_L nF) l1 l2 k B := (congrFun (congrFun (congrFun (fC_tryCell1_L.eq_2 nF) 36) [l1, l2, k]) B).trans (qL1 rfl rfl)
def fC_tryCell1 (p s : Int) (A : qA) : qA := qlet (A 63 (fd 6)) fun v3 => (if p < v3 then qlet (qu A 66 p (-1)) fun A21 => qlet (p + 1) fun v26 => qlet (fC_tryCell2 (wI v26) s A21) fun A30 => (fC_tryCell1_L 100000) 36 [p, s, 0] A30 else qlet (A 63 (fd 7)) fun v7 => (if v7 < s then qlet (qu A 63 (fd 7) s) fun A10 => qlet (qcpy A10 66 0 67 0 5) fun A15 => A15 else A))
def sC_tryCell1 : qS := fun as A K => ∃ p s : Int, as = [rf 63, ni p, ni s] ∧ (iva IC A ∧ ivf JC A ∧ 1 ≤ p ∧ p ≤ 1) ∧ (∀ A' : qA, iva IC A' → ivf JC A' → frm [64, 66, 67] [(63, 7)] A A' → (A' = fC_tryCell1 p s A) → K none A')
theorem okC_tryCell1 : okM LC 5 39 sC_tryCell1 := by
  refine qmeth [] true [(39, sC_tryCell2), (40, sC_fits), (41, sC_burden)] 96 rfl ⟨okC_tryCell2.le (by decide), ⟨okC_fits.le (by decide), ⟨okC_burden.le (by decide), trivial⟩⟩⟩ ?_
  rintro _ A K hA has ⟨p, s, rfl, ⟨i0, j0, p1, p2⟩, hK⟩
  have rg_p : rng p := has (ni p) (by simp)
  have rg_s : rng s := has (ni s) (by simp)
  have f0 := frm_0 [64, 66, 67] [(63, 7)] A
  have hT : _ = fC_tryCell1 p s A := (fC_tryCell1.eq_1 p s A).symm
  refine ⟨Nat.le_of_ble_eq_true rfl, [(36, [(0, 2, 63), (1, 0, 0), (2, 0, 0), (3, 0, 0)], fun zs B nn => match zs with | [l1, l2, k] => iva IC B ∧ ivf JC B ∧ frm [64, 66, 67] [(63, 7)] A B ∧ nn = (6 - k : Int).toNat ∧ (l1 = p) ∧ (l2 = s) ∧ (0 ≤ k) ∧ (k ≤ 6) ∧ (∃ nf : Nat, nn < nf ∧ fC_tryCell1_L nf 36 [l1, l2, k] B = fC_tryCell1 p s A) | _ => False)], ?_, ?_⟩
  · refine ⟨⟨rfl, ?_⟩, trivial⟩
    · refine fun l1 l2 k B mm hB hz hI => ?_
      obtain ⟨i1, j1, f1, hm, c0, c1, c2, c3, ⟨nf, hnf, hT⟩⟩ := hI
      obtain ⟨hz_l1, hz_l2, hz_k, _⟩ := hz
      obtain ⟨ng, rfl⟩ : ∃ k, nf = k + 1 := ⟨nf - 1, by omega⟩
      replace hT := (fC_tryCell1_c36.eq_1 (fC_tryCell1_L ng) l1 l2 k B).symm.trans ((fC_tryCell1_L36 ng l1 l2 k B).symm.trans hT)
      refine And.intro (fun h36 => ?_) (fun h36 => ?_)
      · replace hT := (if_neg (Int.not_lt.mpr h36)).symm.trans hT
        exact hK _ i1 j1 f1 hT
      · replace hT := (if_pos h36).symm.trans hT
        refine And.intro (by (first | (clear hm hnf; omega) | omega)) (fun v37 gv37 e38 => ?_)
        replace hT := qlc e38 hT
        have b39 := iva_at i1 9 rfl (i := k) (by (first | (clear hm hnf; omega) | omega)) (by (first | (clear hm hnf; omega) | omega))
        refine And.intro (by (first | (clear hm hnf; omega) | omega)) (fun v40 gv40 e41 => ?_)
        replace hT := qlc e41 hT
        have b42 := iva_at i1 31 rfl (i := l1) (by (first | (clear hm hnf; omega) | omega)) (by (first | (clear hm hnf; omega) | omega))
        refine Exists.intro v40 (Exists.intro v37 (And.intro rfl (And.intro (And.intro i1 (And.intro j1 (And.intro (by (first | (clear hm hnf; omega) | omega)) (And.intro (by (first | (clear hm hnf; omega) | omega)) (And.intro (by (first | (clear hm hnf; omega) | omega)) (by (first | (clear hm hnf; omega) | omega))))))) (fun r43 g45 g46 g44 => ?_))))
        replace hT := qlc g44 hT
        clear g44
        refine And.intro (fun h47 => ?_) (fun h47 => ?_)
        · replace hT := (if_pos h47).symm.trans hT
          refine fun v48 e49 => ?_
          replace hT := qlc e49 hT
          have w50 := wI_rng v48
          have w51 : wI v48 = v48 := wI_id (by (first | (clear hm hnf; omega) | omega))
          exact Exists.intro (6 - ((wI v48)) : Int).toNat (And.intro (by first | exact qtn hm (by (try clear hm hnf); omega) | omega) (And.intro i1 (And.intro j1 (And.intro f1 (And.intro rfl (And.intro (by (first | (clear hm hnf; omega) | omega)) (And.intro (by (first | (clear hm hnf; omega) | omega)) (And.intro (by (first | (clear hm hnf; omega) | omega)) (And.intro (by (first | (clear hm hnf; omega) | omega)) (Exists.intro ng (And.intro (by first | exact qtm hm hnf (by (try clear hm hnf); omega) | omega) hT)))))))))))
        · replace hT := (if_neg h47).symm.trans hT
          refine And.intro (by (first | (clear hm hnf; omega) | omega)) (fun A52 e53 => ?_)
          replace hT := qlc e53 hT
          have i54 := iva_st i1 e53 (And.intro (by (first | (clear hm hnf; omega) | omega)) trivial)
          have j55 := ivf_sa j1 e53 rfl
          have f56 := frm_s f1 e53 rfl
          refine And.intro (by (first | (clear hm hnf; omega) | omega)) (fun v57 gv57 e58 => ?_)
          replace hT := qlc e58 hT
          have b59 := iva_at i54 31 rfl (i := l1) (by (first | (clear hm hnf; omega) | omega)) (by (first | (clear hm hnf; omega) | omega))
          have q60 : v40 = v57 := (e58.trans ((congrFun (st_a e53 rfl) _).trans e41.symm)).symm
          subst q60
          refine Exists.intro v40 (Exists.intro v37 (And.intro rfl (And.intro (And.intro i54 (And.intro j55 (And.intro (by (first | (clear hm hnf; omega) | omega)) (by (first | (clear hm hnf; omega) | omega))))) (fun A61 i62 j63 f64 g65 => ?_))))
          replace hT := qlc g65 hT
          have f66 := frm_c f56 f64 rfl
          refine fun v67 e68 => ?_
          replace hT := qlc e68 hT
          refine And.intro (by (first | (clear hm hnf; omega) | omega)) (fun v69 gv69 e70 => ?_)
          replace hT := qlc e70 hT
          have b71 := iva_at i62 10 rfl (i := k) (by (first | (clear hm hnf; omega) | omega)) (by (first | (clear hm hnf; omega) | omega))
          refine fun v72 e73 => ?_
          replace hT := qlc e73 hT
          have h74 := mul_bd (a := v37) (b := v69) (p := 200) (q := 99) (by (first | (clear hm hnf; omega) | omega)) (by (first | (clear hm hnf; omega) | omega)) (by (first | (clear hm hnf; omega) | omega)) (by (first | (clear hm hnf; omega) | omega))
          rw [← e73] at h74
          refine fun v75 e76 => ?_
          replace hT := qlc e76 hT
          have w77 := wI_rng v67
          have w78 : wI v67 = v67 := wI_id (by (first | (clear hm hnf; omega) | omega))
          have w79 := wI_rng v75
          refine Exists.intro (wI v67) (Exists.intro (wI v75) (And.intro rfl (And.intro (And.intro i62 (And.intro j63 (And.intro (by (first | (clear hm hnf; omega) | omega)) (by (first | (clear hm hnf; omega) | omega))))) (fun A80 i81 j82 f83 g84 => ?_))))
          replace hT := qlc g84 hT
          have f85 := frm_c f66 f83 rfl
          refine And.intro (by (first | (clear hm hnf; omega) | omega)) (fun v86 gv86 e87 => ?_)
          replace hT := qlc e87 hT
          have b88 := iva_at i81 31 rfl (i := l1) (by (first | (clear hm hnf; omega) | omega)) (by (first | (clear hm hnf; omega) | omega))
          have q89 : v40 = v86 := (e87.trans ((congrFun (Eq.trans (frm_a f83 rfl) (frm_a f64 rfl)) _).trans e58.symm)).symm
          subst q89
          refine fun v90 e91 => ?_
          replace hT := qlc e91 hT
          have w92 := wI_rng v90
          have w93 : wI v90 = v90 := wI_id (by (first | (clear hm hnf; omega) | omega))
          refine Exists.intro v40 (Exists.intro (wI v90) (And.intro rfl (And.intro (And.intro i81 (And.intro j82 (And.intro (by (first | (clear hm hnf; omega) | omega)) (by (first | (clear hm hnf; omega) | omega))))) (fun A94 i95 j96 f97 g98 => ?_))))
          replace hT := qlc g98 hT
          have f99 := frm_c f85 f97 rfl
          refine fun v100 e101 => ?_
          replace hT := qlc e101 hT
          have w102 := wI_rng v100
          have w103 : wI v100 = v100 := wI_id (by (first | (clear hm hnf; omega) | omega))
          exact Exists.intro (6 - ((wI v100)) : Int).toNat (And.intro (by first | exact qtn hm (by (try clear hm hnf); omega) | omega) (And.intro i95 (And.intro j96 (And.intro f99 (And.intro rfl (And.intro (by (first | (clear hm hnf; omega) | omega)) (And.intro (by (first | (clear hm hnf; omega) | omega)) (And.intro (by (first | (clear hm hnf; omega) | omega)) (And.intro (by (first | (clear hm hnf; omega) | omega)) (Exists.intro ng (And.intro (by first | exact qtm hm hnf (by (try clear hm hnf); omega) | omega) hT)))))))))))
  · refine fun v3 gv3 e4 => ?_
    replace hT := qlc e4 hT
    have b5 := ivf_at j0 6 rfl
    refine And.intro (fun h6 => ?_) (fun h6 => ?_)
    · replace hT := (if_neg (Int.not_lt.mpr h6)).symm.trans hT
      refine fun v7 gv7 e8 => ?_
      replace hT := qlc e8 hT
      refine And.intro (fun h9 => ?_) (fun h9 => ?_)
      · replace hT := (if_neg (Int.not_lt.mpr h9)).symm.trans hT
        exact hK _ i0 j0 f0 hT
      · replace hT := (if_pos h9).symm.trans hT
        refine fun A10 e11 => ?_
        replace hT := qlc e11 hT
        have i12 := iva_sf i0 e11 rfl
        have j13 := ivf_st j0 e11 trivial
        have f14 := frm_sf f0 e11 rfl
        refine And.intro (by (first | (clear hm hnf; omega) | omega)) (fun A15 e16 => ?_)
        replace hT := qlc e16 hT
        have i17 := iva_cp i12 e16 (fun i h0 h1 => And.intro (by have := iva_at i12 32 rfl (i := 0 + i) (by (first | (clear hm hnf; omega) | omega)) (by (first | (clear hm hnf; omega) | omega)); omega) trivial)
        have j18 := ivf_cp j13 e16 rfl
        have f19 := frm_cp f14 e16 rfl
        exact hK _ i17 j18 f19 hT
    · replace hT := (if_pos h6).symm.trans hT
      refine And.intro (fun h20 => ?_) (fun h20 => by exfalso; omega)
      refine And.intro (by (first | (clear hm hnf; omega) | omega)) (fun A21 e22 => ?_)
      replace hT := qlc e22 hT
      have i23 := iva_st i0 e22 (And.intro (by (first | (clear hm hnf; omega) | omega)) trivial)
      have j24 := ivf_sa j0 e22 rfl
      have f25 := frm_s f0 e22 rfl
      refine fun v26 e27 => ?_
      replace hT := qlc e27 hT
      have w28 := wI_rng v26
      have w29 : wI v26 = v26 := wI_id (by (first | (clear hm hnf; omega) | omega))
      refine Exists.intro (wI v26) (Exists.intro s (And.intro rfl (And.intro (And.intro i23 (And.intro j24 (And.intro (by (first | (clear hm hnf; omega) | omega)) (by (first | (clear hm hnf; omega) | omega))))) (fun A30 i31 j32 f33 g34 => ?_))))
      replace hT := qlc g34 hT
      have f35 := frm_c f25 f33 rfl
      exact Exists.intro (6 - 0 : Int).toNat (And.intro i31 (And.intro j32 (And.intro f35 (And.intro rfl (And.intro (by (first | (clear hm hnf; omega) | omega)) (And.intro (by (first | (clear hm hnf; omega) | omega)) (And.intro (by (first | (clear hm hnf; omega) | omega)) (And.intro (by (first | (clear hm hnf; omega) | omega)) (Exists.intro 100000 (And.intro (by (first | (clear hm hnf; omega) | omega)) hT))))))))))
theorem pC_tryCell1 {p s : Int} {A : qA} (hA : qokA LC A) (rg_s : rng s) (p0 : iva IC A) (p1 : ivf JC A) (p2 : 1 ≤ p) (p3 : p ≤ 1) : qokA LC (fC_tryCell1 p s A) ∧ iva IC (fC_tryCell1 p s A) ∧ ivf JC (fC_tryCell1 p s A) ∧ frm [64, 66, 67] [(63, 7)] A (fC_tryCell1 p s A) := by
  obtain ⟨r, B, hB, _, hk⟩ := okM_ex okC_tryCell1 (as := [rf 63, ni p, ni s]) (K := fun _ B => B = (fC_tryCell1 p s A) ∧ iva IC (fC_tryCell1 p s A) ∧ ivf JC (fC_tryCell1 p s A) ∧ frm [64, 66, 67] [(63, 7)] A (fC_tryCell1 p s A)) hA (qoks_c (show qok (rf _) from trivial) (qoks_c (show rng p from ⟨by (first | (clear hm hnf; omega) | omega), by (first | (clear hm hnf; omega) | omega)⟩) (qoks_c (rg_s) qoks_n))) ⟨p, s, rfl, ⟨p0, p1, p2, p3⟩, fun A9 i9 j9 f9 x0 => (by rw [← x0]; exact ⟨rfl, i9, j9, f9⟩)⟩
  exact ⟨hk.1 ▸ hB, hk.2⟩
def fC_tryCell0_c36 (rec : Nat → List Int → qA → qA) (l1 l2 k : Int) (B : qA) : qA := (if k < 6 then qlet (B 12 k) fun v37 => qlet (B 65 l1) fun v40 => qlet (fC_fits v40 v37 B) fun r43 => (if r43 = 0 then qlet (k + 1) fun v48 => rec 36 [l1, l2, ((wI v48))] B else qlet (qu B 66 l1 k) fun A52 => qlet (A52 65 l1) fun v57 => qlet (fC_burden v40 v37 A52) fun A61 => qlet (l1 + 1) fun v67 => qlet (A61 13 k) fun v69 => qlet (v37 * v69) fun v72 => qlet (l2 + v72) fun v75 => qlet (fC_tryCell1 (wI v67) (wI v75) A61) fun A80 => qlet (A80 65 l1) fun v86 => qlet (-v37) fun v90 => qlet (fC_burden v40 (wI v90) A80) fun A94 => qlet (k + 1) fun v100 => rec 36 [l1, l2, ((wI v100))] A94) else B)
def fC_tryCell0_L : Nat → Nat → List Int → qA → qA
  | 0 => fun _ _ B => B
  | nF + 1 => fun k zs B => bif Nat.beq k 36 then (match zs with | [l1, l2, k] => fC_tryCell0_c36 (fC_tryCell0_L nF) l1 l2 k B | _ => B) else B
theorem fC_tryCell0_L36 (nF : Nat) (l1 l2 k : Int) (B : qA) : fC_tryCell0_L (nF + 1) 36 [l1, l2, k] B = fC_tryCell0_c36 (fC_tryCell0_L nF) l1 l2 k B := (congrFun (congrFun (congrFun (fC_tryCell0_L.eq_2 nF) 36) [l1, l2, k]) B).trans (qL1 rfl rfl)
def fC_tryCell0 (p s : Int) (A : qA) : qA := qlet (A 63 (fd 6)) fun v3 => (if p < v3 then qlet (qu A 66 p (-1)) fun A21 => qlet (p + 1) fun v26 => qlet (fC_tryCell1 (wI v26) s A21) fun A30 => (fC_tryCell0_L 100000) 36 [p, s, 0] A30 else qlet (A 63 (fd 7)) fun v7 => (if v7 < s then qlet (qu A 63 (fd 7) s) fun A10 => qlet (qcpy A10 66 0 67 0 5) fun A15 => A15 else A))
def sC_tryCell0 : qS := fun as A K => ∃ p s : Int, as = [rf 63, ni p, ni s] ∧ (iva IC A ∧ ivf JC A ∧ 0 ≤ p ∧ p ≤ 0) ∧ (∀ A' : qA, iva IC A' → ivf JC A' → frm [64, 66, 67] [(63, 7)] A A' → (A' = fC_tryCell0 p s A) → K none A')
theorem okC_tryCell0 : okM LC 6 39 sC_tryCell0 := by
  refine qmeth [] true [(39, sC_tryCell1), (40, sC_fits), (41, sC_burden)] 96 rfl ⟨okC_tryCell1.le (by decide), ⟨okC_fits.le (by decide), ⟨okC_burden.le (by decide), trivial⟩⟩⟩ ?_
  rintro _ A K hA has ⟨p, s, rfl, ⟨i0, j0, p1, p2⟩, hK⟩
  have rg_p : rng p := has (ni p) (by simp)
  have rg_s : rng s := has (ni s) (by simp)
  have f0 := frm_0 [64, 66, 67] [(63, 7)] A
  have hT : _ = fC_tryCell0 p s A := (fC_tryCell0.eq_1 p s A).symm
  refine ⟨Nat.le_of_ble_eq_true rfl, [(36, [(0, 2, 63), (1, 0, 0), (2, 0, 0), (3, 0, 0)], fun zs B nn => match zs with | [l1, l2, k] => iva IC B ∧ ivf JC B ∧ frm [64, 66, 67] [(63, 7)] A B ∧ nn = (6 - k : Int).toNat ∧ (l1 = p) ∧ (l2 = s) ∧ (0 ≤ k) ∧ (k ≤ 6) ∧ (∃ nf : Nat, nn < nf ∧ fC_tryCell0_L nf 36 [l1, l2, k] B = fC_tryCell0 p s A) | _ => False)], ?_, ?_⟩
  · refine ⟨⟨rfl, ?_⟩, trivial⟩
    · refine fun l1 l2 k B mm hB hz hI => ?_
      obtain ⟨i1, j1, f1, hm, c0, c1, c2, c3, ⟨nf, hnf, hT⟩⟩ := hI
      obtain ⟨hz_l1, hz_l2, hz_k, _⟩ := hz
      obtain ⟨ng, rfl⟩ : ∃ k, nf = k + 1 := ⟨nf - 1, by omega⟩
      replace hT := (fC_tryCell0_c36.eq_1 (fC_tryCell0_L ng) l1 l2 k B).symm.trans ((fC_tryCell0_L36 ng l1 l2 k B).symm.trans hT)
      refine And.intro (fun h36 => ?_) (fun h36 => ?_)
      · replace hT := (if_neg (Int.not_lt.mpr h36)).symm.trans hT
        exact hK _ i1 j1 f1 hT
      · replace hT := (if_pos h36).symm.trans hT
        refine And.intro (by (first | (clear hm hnf; omega) | omega)) (fun v37 gv37 e38 => ?_)
        replace hT := qlc e38 hT
        have b39 := iva_at i1 9 rfl (i := k) (by (first | (clear hm hnf; omega) | omega)) (by (first | (clear hm hnf; omega) | omega))
        refine And.intro (by (first | (clear hm hnf; omega) | omega)) (fun v40 gv40 e41 => ?_)
        replace hT := qlc e41 hT
        have b42 := iva_at i1 31 rfl (i := l1) (by (first | (clear hm hnf; omega) | omega)) (by (first | (clear hm hnf; omega) | omega))
        refine Exists.intro v40 (Exists.intro v37 (And.intro rfl (And.intro (And.intro i1 (And.intro j1 (And.intro (by (first | (clear hm hnf; omega) | omega)) (And.intro (by (first | (clear hm hnf; omega) | omega)) (And.intro (by (first | (clear hm hnf; omega) | omega)) (by (first | (clear hm hnf; omega) | omega))))))) (fun r43 g45 g46 g44 => ?_))))
        replace hT := qlc g44 hT
        clear g44
        refine And.intro (fun h47 => ?_) (fun h47 => ?_)
        · replace hT := (if_pos h47).symm.trans hT
          refine fun v48 e49 => ?_
          replace hT := qlc e49 hT
          have w50 := wI_rng v48
          have w51 : wI v48 = v48 := wI_id (by (first | (clear hm hnf; omega) | omega))
          exact Exists.intro (6 - ((wI v48)) : Int).toNat (And.intro (by first | exact qtn hm (by (try clear hm hnf); omega) | omega) (And.intro i1 (And.intro j1 (And.intro f1 (And.intro rfl (And.intro (by (first | (clear hm hnf; omega) | omega)) (And.intro (by (first | (clear hm hnf; omega) | omega)) (And.intro (by (first | (clear hm hnf; omega) | omega)) (And.intro (by (first | (clear hm hnf; omega) | omega)) (Exists.intro ng (And.intro (by first | exact qtm hm hnf (by (try clear hm hnf); omega) | omega) hT)))))))))))
        · replace hT := (if_neg h47).symm.trans hT
          refine And.intro (by (first | (clear hm hnf; omega) | omega)) (fun A52 e53 => ?_)
          replace hT := qlc e53 hT
          have i54 := iva_st i1 e53 (And.intro (by (first | (clear hm hnf; omega) | omega)) trivial)
          have j55 := ivf_sa j1 e53 rfl
          have f56 := frm_s f1 e53 rfl
          refine And.intro (by (first | (clear hm hnf; omega) | omega)) (fun v57 gv57 e58 => ?_)
          replace hT := qlc e58 hT
          have b59 := iva_at i54 31 rfl (i := l1) (by (first | (clear hm hnf; omega) | omega)) (by (first | (clear hm hnf; omega) | omega))
          have q60 : v40 = v57 := (e58.trans ((congrFun (st_a e53 rfl) _).trans e41.symm)).symm
          subst q60
          refine Exists.intro v40 (Exists.intro v37 (And.intro rfl (And.intro (And.intro i54 (And.intro j55 (And.intro (by (first | (clear hm hnf; omega) | omega)) (by (first | (clear hm hnf; omega) | omega))))) (fun A61 i62 j63 f64 g65 => ?_))))
          replace hT := qlc g65 hT
          have f66 := frm_c f56 f64 rfl
          refine fun v67 e68 => ?_
          replace hT := qlc e68 hT
          refine And.intro (by (first | (clear hm hnf; omega) | omega)) (fun v69 gv69 e70 => ?_)
          replace hT := qlc e70 hT
          have b71 := iva_at i62 10 rfl (i := k) (by (first | (clear hm hnf; omega) | omega)) (by (first | (clear hm hnf; omega) | omega))
          refine fun v72 e73 => ?_
          replace hT := qlc e73 hT
          have h74 := mul_bd (a := v37) (b := v69) (p := 200) (q := 99) (by (first | (clear hm hnf; omega) | omega)) (by (first | (clear hm hnf; omega) | omega)) (by (first | (clear hm hnf; omega) | omega)) (by (first | (clear hm hnf; omega) | omega))
          rw [← e73] at h74
          refine fun v75 e76 => ?_
          replace hT := qlc e76 hT
          have w77 := wI_rng v67
          have w78 : wI v67 = v67 := wI_id (by (first | (clear hm hnf; omega) | omega))
          have w79 := wI_rng v75
          refine Exists.intro (wI v67) (Exists.intro (wI v75) (And.intro rfl (And.intro (And.intro i62 (And.intro j63 (And.intro (by (first | (clear hm hnf; omega) | omega)) (by (first | (clear hm hnf; omega) | omega))))) (fun A80 i81 j82 f83 g84 => ?_))))
          replace hT := qlc g84 hT
          have f85 := frm_c f66 f83 rfl
          refine And.intro (by (first | (clear hm hnf; omega) | omega)) (fun v86 gv86 e87 => ?_)
          replace hT := qlc e87 hT
          have b88 := iva_at i81 31 rfl (i := l1) (by (first | (clear hm hnf; omega) | omega)) (by (first | (clear hm hnf; omega) | omega))
          have q89 : v40 = v86 := (e87.trans ((congrFun (Eq.trans (frm_a f83 rfl) (frm_a f64 rfl)) _).trans e58.symm)).symm
          subst q89
          refine fun v90 e91 => ?_
          replace hT := qlc e91 hT
          have w92 := wI_rng v90
          have w93 : wI v90 = v90 := wI_id (by (first | (clear hm hnf; omega) | omega))
          refine Exists.intro v40 (Exists.intro (wI v90) (And.intro rfl (And.intro (And.intro i81 (And.intro j82 (And.intro (by (first | (clear hm hnf; omega) | omega)) (by (first | (clear hm hnf; omega) | omega))))) (fun A94 i95 j96 f97 g98 => ?_))))
          replace hT := qlc g98 hT
          have f99 := frm_c f85 f97 rfl
          refine fun v100 e101 => ?_
          replace hT := qlc e101 hT
          have w102 := wI_rng v100
          have w103 : wI v100 = v100 := wI_id (by (first | (clear hm hnf; omega) | omega))
          exact Exists.intro (6 - ((wI v100)) : Int).toNat (And.intro (by first | exact qtn hm (by (try clear hm hnf); omega) | omega) (And.intro i95 (And.intro j96 (And.intro f99 (And.intro rfl (And.intro (by (first | (clear hm hnf; omega) | omega)) (And.intro (by (first | (clear hm hnf; omega) | omega)) (And.intro (by (first | (clear hm hnf; omega) | omega)) (And.intro (by (first | (clear hm hnf; omega) | omega)) (Exists.intro ng (And.intro (by first | exact qtm hm hnf (by (try clear hm hnf); omega) | omega) hT)))))))))))
  · refine fun v3 gv3 e4 => ?_
    replace hT := qlc e4 hT
    have b5 := ivf_at j0 6 rfl
    refine And.intro (fun h6 => ?_) (fun h6 => ?_)
    · replace hT := (if_neg (Int.not_lt.mpr h6)).symm.trans hT
      refine fun v7 gv7 e8 => ?_
      replace hT := qlc e8 hT
      refine And.intro (fun h9 => ?_) (fun h9 => ?_)
      · replace hT := (if_neg (Int.not_lt.mpr h9)).symm.trans hT
        exact hK _ i0 j0 f0 hT
      · replace hT := (if_pos h9).symm.trans hT
        refine fun A10 e11 => ?_
        replace hT := qlc e11 hT
        have i12 := iva_sf i0 e11 rfl
        have j13 := ivf_st j0 e11 trivial
        have f14 := frm_sf f0 e11 rfl
        refine And.intro (by (first | (clear hm hnf; omega) | omega)) (fun A15 e16 => ?_)
        replace hT := qlc e16 hT
        have i17 := iva_cp i12 e16 (fun i h0 h1 => And.intro (by have := iva_at i12 32 rfl (i := 0 + i) (by (first | (clear hm hnf; omega) | omega)) (by (first | (clear hm hnf; omega) | omega)); omega) trivial)
        have j18 := ivf_cp j13 e16 rfl
        have f19 := frm_cp f14 e16 rfl
        exact hK _ i17 j18 f19 hT
    · replace hT := (if_pos h6).symm.trans hT
      refine And.intro (fun h20 => ?_) (fun h20 => by exfalso; omega)
      refine And.intro (by (first | (clear hm hnf; omega) | omega)) (fun A21 e22 => ?_)
      replace hT := qlc e22 hT
      have i23 := iva_st i0 e22 (And.intro (by (first | (clear hm hnf; omega) | omega)) trivial)
      have j24 := ivf_sa j0 e22 rfl
      have f25 := frm_s f0 e22 rfl
      refine fun v26 e27 => ?_
      replace hT := qlc e27 hT
      have w28 := wI_rng v26
      have w29 : wI v26 = v26 := wI_id (by (first | (clear hm hnf; omega) | omega))
      refine Exists.intro (wI v26) (Exists.intro s (And.intro rfl (And.intro (And.intro i23 (And.intro j24 (And.intro (by (first | (clear hm hnf; omega) | omega)) (by (first | (clear hm hnf; omega) | omega))))) (fun A30 i31 j32 f33 g34 => ?_))))
      replace hT := qlc g34 hT
      have f35 := frm_c f25 f33 rfl
      exact Exists.intro (6 - 0 : Int).toNat (And.intro i31 (And.intro j32 (And.intro f35 (And.intro rfl (And.intro (by (first | (clear hm hnf; omega) | omega)) (And.intro (by (first | (clear hm hnf; omega) | omega)) (And.intro (by (first | (clear hm hnf; omega) | omega)) (And.intro (by (first | (clear hm hnf; omega) | omega)) (Exists.intro 100000 (And.intro (by (first | (clear hm hnf; omega) | omega)) hT))))))))))
theorem pC_tryCell0 {p s : Int} {A : qA} (hA : qokA LC A) (rg_s : rng s) (p0 : iva IC A) (p1 : ivf JC A) (p2 : 0 ≤ p) (p3 : p ≤ 0) : qokA LC (fC_tryCell0 p s A) ∧ iva IC (fC_tryCell0 p s A) ∧ ivf JC (fC_tryCell0 p s A) ∧ frm [64, 66, 67] [(63, 7)] A (fC_tryCell0 p s A) := by
  obtain ⟨r, B, hB, _, hk⟩ := okM_ex okC_tryCell0 (as := [rf 63, ni p, ni s]) (K := fun _ B => B = (fC_tryCell0 p s A) ∧ iva IC (fC_tryCell0 p s A) ∧ ivf JC (fC_tryCell0 p s A) ∧ frm [64, 66, 67] [(63, 7)] A (fC_tryCell0 p s A)) hA (qoks_c (show qok (rf _) from trivial) (qoks_c (show rng p from ⟨by (first | (clear hm hnf; omega) | omega), by (first | (clear hm hnf; omega) | omega)⟩) (qoks_c (rg_s) qoks_n))) ⟨p, s, rfl, ⟨p0, p1, p2, p3⟩, fun A9 i9 j9 f9 x0 => (by rw [← x0]; exact ⟨rfl, i9, j9, f9⟩)⟩
  exact ⟨hk.1 ▸ hB, hk.2⟩
def fC_choose_c8 (rec : Nat → List Int → qA → Int × qA) (l1 k : Int) (B : qA) : Int × qA := (if k < 48 then (if 0 ≤ k ∧ k ≤ 47 ∧ HG B k then qlet (B 2 k) fun v20 => qlet (fC_ripeLoadOf k B) fun r23 => qlet (v20 - r23) fun v26 => qlet (qu B 64 k (wI v26)) fun A28 => qlet (A28 64 k) fun v34 => (if (wI v26) < 0 then (0, A28) else qlet (fC_isTold l1 k A28) fun r38 => (if r38 = 0 then qlet (k + 1) fun v43 => rec 8 [l1, ((wI v43))] A28 else qlet (A28 63 (fd 6)) fun v47 => (if v47 < 5 then qlet (A28 63 (fd 6)) fun v55 => qlet (qu A28 65 v47 k) fun A59 => qlet (A59 63 (fd 6)) fun v64 => qlet (v47 + 1) fun v68 => qlet (qu A59 63 (fd 6) (wI v68)) fun A70 => qlet (k + 1) fun v77 => rec 8 [l1, ((wI v77))] A70 else qlet (k + 1) fun v51 => rec 8 [l1, ((wI v51))] A28))) else qlet (fC_isTold l1 k B) fun r82 => (if r82 = 0 then qlet (k + 1) fun v87 => rec 8 [l1, ((wI v87))] B else qlet (B 63 (fd 6)) fun v91 => (if v91 < 5 then qlet (B 63 (fd 6)) fun v99 => qlet (qu B 65 v91 k) fun A103 => qlet (A103 63 (fd 6)) fun v108 => qlet (v91 + 1) fun v112 => qlet (qu A103 63 (fd 6) (wI v112)) fun A114 => qlet (k + 1) fun v121 => rec 8 [l1, ((wI v121))] A114 else qlet (k + 1) fun v95 => rec 8 [l1, ((wI v95))] B))) else qlet (fC_tryCell0 0 0 B) fun A12 => (1, A12))
def fC_choose_L : Nat → Nat → List Int → qA → Int × qA
  | 0 => fun _ _ B => (0, B)
  | nF + 1 => fun k zs B => bif Nat.beq k 8 then (match zs with | [l1, k] => fC_choose_c8 (fC_choose_L nF) l1 k B | _ => (0, B)) else (0, B)
theorem fC_choose_L8 (nF : Nat) (l1 k : Int) (B : qA) : fC_choose_L (nF + 1) 8 [l1, k] B = fC_choose_c8 (fC_choose_L nF) l1 k B := (congrFun (congrFun (congrFun (fC_choose_L.eq_2 nF) 8) [l1, k]) B).trans (qL1 rfl rfl)
def fC_choose (x : Int) (A : qA) : Int × qA := qlet (qu A 63 (fd 6) 0) fun A1 => qlet (qu A1 63 (fd 7) (-1)) fun A6 => (fC_choose_L 100000) 8 [x, 0] A6
def sC_choose : qS := fun as A K => ∃ x : Int, as = [rf 63, nl x] ∧ (iva IC A ∧ ivf JC A) ∧ (∀ A' : qA, iva IC A' → ivf JC A' → frm [64, 65, 66, 67] [(63, 6), (63, 7)] A A' → ∀ r : Int, 0 ≤ r → r ≤ 1 → (r = (fC_choose x A).1) → (A' = (fC_choose x A).2) → K (some (ni r)) A')
theorem okC_choose : okM LC 7 38 sC_choose := by
  refine qmeth [] true [(39, sC_tryCell0), (21, sC_hangs), (30, sC_ripeLoadOf), (142, sC_isTold)] 71 rfl ⟨okC_tryCell0.le (by decide), ⟨okC_hangs.le (by decide), ⟨okC_ripeLoadOf.le (by decide), ⟨okC_isTold.le (by decide), trivial⟩⟩⟩⟩ ?_
  rintro _ A K hA has ⟨x, rfl, ⟨i0, j0⟩, hK⟩
  have rg_x : rngL x := has (nl x) (by simp)
  have f0 := frm_0 [64, 65, 66, 67] [(63, 6), (63, 7)] A
  have hT : _ = fC_choose x A := (fC_choose.eq_1 x A).symm
  refine ⟨Nat.le_of_ble_eq_true rfl, [(8, [(0, 2, 63), (1, 1, 0), (3, 0, 0)], fun zs B nn => match zs with | [l1, k] => iva IC B ∧ ivf JC B ∧ frm [64, 65, 66, 67] [(63, 6), (63, 7)] A B ∧ nn = (48 - k : Int).toNat ∧ (l1 = x) ∧ (0 ≤ k) ∧ (k ≤ 48) ∧ (∃ nf : Nat, nn < nf ∧ fC_choose_L nf 8 [l1, k] B = fC_choose x A) | _ => False)], ?_, ?_⟩
  · refine ⟨⟨rfl, ?_⟩, trivial⟩
    · refine fun l1 k B mm hB hz hI => ?_
      obtain ⟨i1, j1, f1, hm, c0, c1, c2, ⟨nf, hnf, hT⟩⟩ := hI
      obtain ⟨hz_l1, hz_k, _⟩ := hz
      obtain ⟨ng, rfl⟩ : ∃ k, nf = k + 1 := ⟨nf - 1, by omega⟩
      replace hT := (fC_choose_c8.eq_1 (fC_choose_L ng) l1 k B).symm.trans ((fC_choose_L8 ng l1 k B).symm.trans hT)
      refine And.intro (fun h11 => ?_) (fun h11 => ?_)
      · replace hT := (if_neg (Int.not_lt.mpr h11)).symm.trans hT
        refine Exists.intro 0 (Exists.intro 0 (And.intro rfl (And.intro (And.intro i1 (And.intro j1 (And.intro (by (first | (clear hm hnf; omega) | omega)) (by (first | (clear hm hnf; omega) | omega))))) (fun A12 i13 j14 f15 g16 => ?_))))
        replace hT := qlc g16 hT
        have f17 := frm_c f1 f15 rfl
        exact And.intro (by (first | (clear hm hnf; omega) | omega)) (hK _ i13 j14 f17 _ (by (first | (clear hm hnf; omega) | omega)) (by (first | (clear hm hnf; omega) | omega)) (congrArg Prod.fst hT) (congrArg Prod.snd hT))
      · replace hT := (if_pos h11).symm.trans hT
        refine Exists.intro k (And.intro rfl (And.intro (fun h18 => ?_) (fun h18 => ?_)))
        · replace hT := (if_pos h18).symm.trans hT
          refine And.intro (fun h19 => by exfalso; omega) (fun h19 => ?_)
          refine And.intro (by (first | (clear hm hnf; omega) | omega)) (fun v20 gv20 e21 => ?_)
          replace hT := qlc e21 hT
          have b22 := iva_at i1 0 rfl (i := k) (by (first | (clear hm hnf; omega) | omega)) (by (first | (clear hm hnf; omega) | omega))
          refine Exists.intro k (And.intro rfl (And.intro (And.intro i1 (And.intro j1 (And.intro (by (first | (clear hm hnf; omega) | omega)) (by (first | (clear hm hnf; omega) | omega))))) (fun r23 g25 g24 => ?_)))
          replace hT := qlc g24 hT
          clear g24
          refine fun v26 e27 => ?_
          replace hT := qlc e27 hT
          have w30 := wI_rng v26
          refine And.intro (by (first | (clear hm hnf; omega) | omega)) (fun A28 e29 => ?_)
          replace hT := qlc e29 hT
          have i31 := iva_st i1 e29 trivial
          have j32 := ivf_sa j1 e29 rfl
          have f33 := frm_s f1 e29 rfl
          refine And.intro (by (first | (clear hm hnf; omega) | omega)) (fun v34 gv34 e35 => ?_)
          replace hT := qlc e35 hT
          have q36 : (wI v26) = v34 := (e35.trans (st_v e29)).symm
          subst q36
          refine And.intro (fun h37 => ?_) (fun h37 => ?_)
          · replace hT := (if_neg (Int.not_lt.mpr h37)).symm.trans hT
            refine Exists.intro l1 (Exists.intro k (And.intro rfl (fun r38 g40 g41 g39 => ?_)))
            replace hT := qlc g39 hT
            clear g39
            refine And.intro (fun h42 => ?_) (fun h42 => ?_)
            · replace hT := (if_pos h42).symm.trans hT
              refine fun v43 e44 => ?_
              replace hT := qlc e44 hT
              have w45 := wI_rng v43
              have w46 : wI v43 = v43 := wI_id (by (first | (clear hm hnf; omega) | omega))
              exact Exists.intro (48 - ((wI v43)) : Int).toNat (And.intro (by first | exact qtn hm (by (try clear hm hnf); omega) | omega) (And.intro i31 (And.intro j32 (And.intro f33 (And.intro rfl (And.intro (by (first | (clear hm hnf; omega) | omega)) (And.intro (by (first | (clear hm hnf; omega) | omega)) (And.intro (by (first | (clear hm hnf; omega) | omega)) (Exists.intro ng (And.intro (by first | exact qtm hm hnf (by (try clear hm hnf); omega) | omega) hT))))))))))
            · replace hT := (if_neg h42).symm.trans hT
              refine fun v47 gv47 e48 => ?_
              replace hT := qlc e48 hT
              have b49 := ivf_at j32 6 rfl
              refine And.intro (fun h50 => ?_) (fun h50 => ?_)
              · replace hT := (if_neg (Int.not_lt.mpr h50)).symm.trans hT
                refine fun v51 e52 => ?_
                replace hT := qlc e52 hT
                have w53 := wI_rng v51
                have w54 : wI v51 = v51 := wI_id (by (first | (clear hm hnf; omega) | omega))
                exact Exists.intro (48 - ((wI v51)) : Int).toNat (And.intro (by first | exact qtn hm (by (try clear hm hnf); omega) | omega) (And.intro i31 (And.intro j32 (And.intro f33 (And.intro rfl (And.intro (by (first | (clear hm hnf; omega) | omega)) (And.intro (by (first | (clear hm hnf; omega) | omega)) (And.intro (by (first | (clear hm hnf; omega) | omega)) (Exists.intro ng (And.intro (by first | exact qtm hm hnf (by (try clear hm hnf); omega) | omega) hT))))))))))
              · replace hT := (if_pos h50).symm.trans hT
                refine fun v55 gv55 e56 => ?_
                replace hT := qlc e56 hT
                have b57 := ivf_at j32 6 rfl
                have q58 : v47 = v55 := (e56.trans e48.symm).symm
                subst q58
                refine And.intro (by (first | (clear hm hnf; omega) | omega)) (fun A59 e60 => ?_)
                replace hT := qlc e60 hT
                have i61 := iva_st i31 e60 (And.intro (by (first | (clear hm hnf; omega) | omega)) trivial)
                have j62 := ivf_sa j32 e60 rfl
                have f63 := frm_s f33 e60 rfl
                refine fun v64 gv64 e65 => ?_
                replace hT := qlc e65 hT
                have b66 := ivf_at j62 6 rfl
                have q67 : v47 = v64 := (e65.trans ((congrFun (st_a e60 rfl) _).trans e56.symm)).symm
                subst q67
                refine fun v68 e69 => ?_
                replace hT := qlc e69 hT
                have w72 := wI_rng v68
                have w73 : wI v68 = v68 := wI_id (by (first | (clear hm hnf; omega) | omega))
                refine fun A70 e71 => ?_
                replace hT := qlc e71 hT
                have i74 := iva_sf i61 e71 rfl
                have j75 := ivf_st j62 e71 (And.intro (by (first | (clear hm hnf; omega) | omega)) trivial)
                have f76 := frm_sf f63 e71 rfl
                refine fun v77 e78 => ?_
                replace hT := qlc e78 hT
                have w79 := wI_rng v77
                have w80 : wI v77 = v77 := wI_id (by (first | (clear hm hnf; omega) | omega))
                exact Exists.intro (48 - ((wI v77)) : Int).toNat (And.intro (by first | exact qtn hm (by (try clear hm hnf); omega) | omega) (And.intro i74 (And.intro j75 (And.intro f76 (And.intro rfl (And.intro (by (first | (clear hm hnf; omega) | omega)) (And.intro (by (first | (clear hm hnf; omega) | omega)) (And.intro (by (first | (clear hm hnf; omega) | omega)) (Exists.intro ng (And.intro (by first | exact qtm hm hnf (by (try clear hm hnf); omega) | omega) hT))))))))))
          · replace hT := (if_pos h37).symm.trans hT
            exact And.intro (by (first | (clear hm hnf; omega) | omega)) (hK _ i31 j32 f33 _ (by (first | (clear hm hnf; omega) | omega)) (by (first | (clear hm hnf; omega) | omega)) (congrArg Prod.fst hT) (congrArg Prod.snd hT))
        · replace hT := (if_neg h18).symm.trans hT
          refine And.intro (fun h81 => ?_) (fun h81 => by exfalso; omega)
          refine Exists.intro l1 (Exists.intro k (And.intro rfl (fun r82 g84 g85 g83 => ?_)))
          replace hT := qlc g83 hT
          clear g83
          refine And.intro (fun h86 => ?_) (fun h86 => ?_)
          · replace hT := (if_pos h86).symm.trans hT
            refine fun v87 e88 => ?_
            replace hT := qlc e88 hT
            have w89 := wI_rng v87
            have w90 : wI v87 = v87 := wI_id (by (first | (clear hm hnf; omega) | omega))
            exact Exists.intro (48 - ((wI v87)) : Int).toNat (And.intro (by first | exact qtn hm (by (try clear hm hnf); omega) | omega) (And.intro i1 (And.intro j1 (And.intro f1 (And.intro rfl (And.intro (by (first | (clear hm hnf; omega) | omega)) (And.intro (by (first | (clear hm hnf; omega) | omega)) (And.intro (by (first | (clear hm hnf; omega) | omega)) (Exists.intro ng (And.intro (by first | exact qtm hm hnf (by (try clear hm hnf); omega) | omega) hT))))))))))
          · replace hT := (if_neg h86).symm.trans hT
            refine fun v91 gv91 e92 => ?_
            replace hT := qlc e92 hT
            have b93 := ivf_at j1 6 rfl
            refine And.intro (fun h94 => ?_) (fun h94 => ?_)
            · replace hT := (if_neg (Int.not_lt.mpr h94)).symm.trans hT
              refine fun v95 e96 => ?_
              replace hT := qlc e96 hT
              have w97 := wI_rng v95
              have w98 : wI v95 = v95 := wI_id (by (first | (clear hm hnf; omega) | omega))
              exact Exists.intro (48 - ((wI v95)) : Int).toNat (And.intro (by first | exact qtn hm (by (try clear hm hnf); omega) | omega) (And.intro i1 (And.intro j1 (And.intro f1 (And.intro rfl (And.intro (by (first | (clear hm hnf; omega) | omega)) (And.intro (by (first | (clear hm hnf; omega) | omega)) (And.intro (by (first | (clear hm hnf; omega) | omega)) (Exists.intro ng (And.intro (by first | exact qtm hm hnf (by (try clear hm hnf); omega) | omega) hT))))))))))
            · replace hT := (if_pos h94).symm.trans hT
              refine fun v99 gv99 e100 => ?_
              replace hT := qlc e100 hT
              have b101 := ivf_at j1 6 rfl
              have q102 : v91 = v99 := (e100.trans e92.symm).symm
              subst q102
              refine And.intro (by (first | (clear hm hnf; omega) | omega)) (fun A103 e104 => ?_)
              replace hT := qlc e104 hT
              have i105 := iva_st i1 e104 (And.intro (by (first | (clear hm hnf; omega) | omega)) trivial)
              have j106 := ivf_sa j1 e104 rfl
              have f107 := frm_s f1 e104 rfl
              refine fun v108 gv108 e109 => ?_
              replace hT := qlc e109 hT
              have b110 := ivf_at j106 6 rfl
              have q111 : v91 = v108 := (e109.trans ((congrFun (st_a e104 rfl) _).trans e100.symm)).symm
              subst q111
              refine fun v112 e113 => ?_
              replace hT := qlc e113 hT
              have w116 := wI_rng v112
              have w117 : wI v112 = v112 := wI_id (by (first | (clear hm hnf; omega) | omega))
              refine fun A114 e115 => ?_
              replace hT := qlc e115 hT
              have i118 := iva_sf i105 e115 rfl
              have j119 := ivf_st j106 e115 (And.intro (by (first | (clear hm hnf; omega) | omega)) trivial)
              have f120 := frm_sf f107 e115 rfl
              refine fun v121 e122 => ?_
              replace hT := qlc e122 hT
              have w123 := wI_rng v121
              have w124 : wI v121 = v121 := wI_id (by (first | (clear hm hnf; omega) | omega))
              exact Exists.intro (48 - ((wI v121)) : Int).toNat (And.intro (by first | exact qtn hm (by (try clear hm hnf); omega) | omega) (And.intro i118 (And.intro j119 (And.intro f120 (And.intro rfl (And.intro (by (first | (clear hm hnf; omega) | omega)) (And.intro (by (first | (clear hm hnf; omega) | omega)) (And.intro (by (first | (clear hm hnf; omega) | omega)) (Exists.intro ng (And.intro (by first | exact qtm hm hnf (by (try clear hm hnf); omega) | omega) hT))))))))))
  · refine fun A1 e2 => ?_
    replace hT := qlc e2 hT
    have i3 := iva_sf i0 e2 rfl
    have j4 := ivf_st j0 e2 (And.intro (by (first | (clear hm hnf; omega) | omega)) trivial)
    have f5 := frm_sf f0 e2 rfl
    refine fun A6 e7 => ?_
    replace hT := qlc e7 hT
    have i8 := iva_sf i3 e7 rfl
    have j9 := ivf_st j4 e7 trivial
    have f10 := frm_sf f5 e7 rfl
    exact Exists.intro (48 - 0 : Int).toNat (And.intro i8 (And.intro j9 (And.intro f10 (And.intro rfl (And.intro (by (first | (clear hm hnf; omega) | omega)) (And.intro (by (first | (clear hm hnf; omega) | omega)) (And.intro (by (first | (clear hm hnf; omega) | omega)) (Exists.intro 100000 (And.intro (by (first | (clear hm hnf; omega) | omega)) hT)))))))))
theorem pC_choose {x : Int} {A : qA} (hA : qokA LC A) (rg_x : rngL x) (p0 : iva IC A) (p1 : ivf JC A) : qokA LC (fC_choose x A).2 ∧ iva IC (fC_choose x A).2 ∧ ivf JC (fC_choose x A).2 ∧ frm [64, 65, 66, 67] [(63, 6), (63, 7)] A (fC_choose x A).2 ∧ (0 ≤ (fC_choose x A).1 ∧ (fC_choose x A).1 ≤ 1) := by
  obtain ⟨r, B, hB, _, hk⟩ := okM_ex okC_choose (as := [rf 63, nl x]) (K := fun _ B => B = (fC_choose x A).2 ∧ iva IC (fC_choose x A).2 ∧ ivf JC (fC_choose x A).2 ∧ frm [64, 65, 66, 67] [(63, 6), (63, 7)] A (fC_choose x A).2 ∧ (0 ≤ (fC_choose x A).1 ∧ (fC_choose x A).1 ≤ 1)) hA (qoks_c (show qok (rf _) from trivial) (qoks_c (rg_x) qoks_n)) ⟨x, rfl, ⟨p0, p1⟩, fun A9 i9 j9 f9 r9 g8 g9 x0 x1 => (by rw [← x1]; (try rw [← x0]); exact ⟨rfl, i9, j9, f9, ⟨g8, g9⟩⟩)⟩
  exact ⟨hk.1 ▸ hB, hk.2⟩
def fC_carryOut_c2 (rec : Nat → List Int → qA → qA) (k : Int) (B : qA) : qA := qlet (B 63 (fd 6)) fun v1 => (if k < v1 then qlet (B 67 k) fun v5 => (if v5 = (-1) then qlet (k + 1) fun v9 => rec 2 [v9] B else qlet (B 65 k) fun v11 => qlet (B 67 k) fun v14 => qlet (fC_setCrop v11 v5 0 B) fun A18 => qlet (k + 1) fun v24 => rec 2 [v24] A18) else B)
def fC_carryOut_L : Nat → Nat → List Int → qA → qA
  | 0 => fun _ _ B => B
  | nF + 1 => fun k zs B => bif Nat.beq k 2 then (match zs with | [k] => fC_carryOut_c2 (fC_carryOut_L nF) k B | _ => B) else B
theorem fC_carryOut_L2 (nF : Nat) (k : Int) (B : qA) : fC_carryOut_L (nF + 1) 2 [k] B = fC_carryOut_c2 (fC_carryOut_L nF) k B := (congrFun (congrFun (congrFun (fC_carryOut_L.eq_2 nF) 2) [k]) B).trans (qL1 rfl rfl)
def fC_carryOut (A : qA) : qA := (fC_carryOut_L 100000) 2 [0] A
def sC_carryOut : qS := fun as A K => as = [rf 63] ∧ (iva IC A ∧ ivf JC A) ∧ (∀ A' : qA, iva IC A' → ivf JC A' → frm [6, 7, 10] [] A A' → (A' = fC_carryOut A) → K none A')
theorem okC_carryOut : okM LC 2 42 sC_carryOut := by
  refine qmeth [] false [(25, sC_setCrop)] 33 rfl ⟨okC_setCrop.le (by decide), trivial⟩ ?_
  rintro _ A K hA has ⟨rfl, ⟨i0, j0⟩, hK⟩
  have f0 := frm_0 [6, 7, 10] [] A
  have hT : _ = fC_carryOut A := (fC_carryOut.eq_1 A).symm
  refine ⟨Nat.le_of_ble_eq_true rfl, [(2, [(0, 2, 63), (1, 0, 0)], fun zs B nn => match zs with | [k] => iva IC B ∧ ivf JC B ∧ frm [6, 7, 10] [] A B ∧ nn = (5 - k : Int).toNat ∧ (0 ≤ k) ∧ (k ≤ 5) ∧ (∃ nf : Nat, nn < nf ∧ fC_carryOut_L nf 2 [k] B = fC_carryOut A) | _ => False)], ?_, ?_⟩
  · refine ⟨⟨rfl, ?_⟩, trivial⟩
    · refine fun k B mm hB hz hI => ?_
      obtain ⟨i1, j1, f1, hm, c0, c1, ⟨nf, hnf, hT⟩⟩ := hI
      obtain ⟨hz_k, _⟩ := hz
      obtain ⟨ng, rfl⟩ : ∃ k, nf = k + 1 := ⟨nf - 1, by omega⟩
      replace hT := (fC_carryOut_c2.eq_1 (fC_carryOut_L ng) k B).symm.trans ((fC_carryOut_L2 ng k B).symm.trans hT)
      refine fun v1 gv1 e2 => ?_
      replace hT := qlc e2 hT
      have b3 := ivf_at j1 6 rfl
      refine And.intro (fun h4 => ?_) (fun h4 => ?_)
      · replace hT := (if_neg (Int.not_lt.mpr h4)).symm.trans hT
        exact hK _ i1 j1 f1 hT
      · replace hT := (if_pos h4).symm.trans hT
        refine And.intro (by (first | (clear hm hnf; omega) | omega)) (fun v5 gv5 e6 => ?_)
        replace hT := qlc e6 hT
        have b7 := iva_at i1 33 rfl (i := k) (by (first | (clear hm hnf; omega) | omega)) (by (first | (clear hm hnf; omega) | omega))
        refine And.intro (fun h8 => ?_) (fun h8 => ?_)
        · replace hT := (if_pos h8).symm.trans hT
          refine fun v9 e10 => ?_
          replace hT := qlc e10 hT
          exact And.intro (by (first | (clear hm hnf; omega) | omega)) (Exists.intro (5 - v9 : Int).toNat (And.intro (by first | exact qtn hm (by (try clear hm hnf); omega) | omega) (And.intro i1 (And.intro j1 (And.intro f1 (And.intro rfl (And.intro (by (first | (clear hm hnf; omega) | omega)) (And.intro (by (first | (clear hm hnf; omega) | omega)) (Exists.intro ng (And.intro (by first | exact qtm hm hnf (by (try clear hm hnf); omega) | omega) hT))))))))))
        · replace hT := (if_neg h8).symm.trans hT
          refine And.intro (by (first | (clear hm hnf; omega) | omega)) (fun v11 gv11 e12 => ?_)
          replace hT := qlc e12 hT
          have b13 := iva_at i1 31 rfl (i := k) (by (first | (clear hm hnf; omega) | omega)) (by (first | (clear hm hnf; omega) | omega))
          refine And.intro (by (first | (clear hm hnf; omega) | omega)) (fun v14 gv14 e15 => ?_)
          replace hT := qlc e15 hT
          have b16 := iva_at i1 33 rfl (i := k) (by (first | (clear hm hnf; omega) | omega)) (by (first | (clear hm hnf; omega) | omega))
          have q17 : v5 = v14 := (e15.trans e6.symm).symm
          subst q17
          refine Exists.intro v11 (Exists.intro v5 (Exists.intro 0 (And.intro rfl (And.intro (And.intro i1 (And.intro j1 (And.intro (by (first | (clear hm hnf; omega) | omega)) (And.intro (by (first | (clear hm hnf; omega) | omega)) (And.intro (by (first | (clear hm hnf; omega) | omega)) (And.intro (by (first | (clear hm hnf; omega) | omega)) (And.intro (by (first | (clear hm hnf; omega) | omega)) (by (first | (clear hm hnf; omega) | omega))))))))) (fun A18 i19 j20 f21 g22 => ?_)))))
          replace hT := qlc g22 hT
          have f23 := frm_c f1 f21 rfl
          refine fun v24 e25 => ?_
          replace hT := qlc e25 hT
          exact And.intro (by (first | (clear hm hnf; omega) | omega)) (Exists.intro (5 - v24 : Int).toNat (And.intro (by first | exact qtn hm (by (try clear hm hnf); omega) | omega) (And.intro i19 (And.intro j20 (And.intro f23 (And.intro rfl (And.intro (by (first | (clear hm hnf; omega) | omega)) (And.intro (by (first | (clear hm hnf; omega) | omega)) (Exists.intro ng (And.intro (by first | exact qtm hm hnf (by (try clear hm hnf); omega) | omega) hT))))))))))
  · exact Exists.intro (5 - 0 : Int).toNat (And.intro i0 (And.intro j0 (And.intro f0 (And.intro rfl (And.intro (by (first | (clear hm hnf; omega) | omega)) (And.intro (by (first | (clear hm hnf; omega) | omega)) (Exists.intro 100000 (And.intro (by (first | (clear hm hnf; omega) | omega)) hT))))))))
theorem pC_carryOut {A : qA} (hA : qokA LC A) (p0 : iva IC A) (p1 : ivf JC A) : qokA LC (fC_carryOut A) ∧ iva IC (fC_carryOut A) ∧ ivf JC (fC_carryOut A) ∧ frm [6, 7, 10] [] A (fC_carryOut A) := by
  obtain ⟨r, B, hB, _, hk⟩ := okM_ex okC_carryOut (as := [rf 63]) (K := fun _ B => B = (fC_carryOut A) ∧ iva IC (fC_carryOut A) ∧ ivf JC (fC_carryOut A) ∧ frm [6, 7, 10] [] A (fC_carryOut A)) hA (qoks_c (show qok (rf _) from trivial) qoks_n) ⟨rfl, ⟨p0, p1⟩, fun A9 i9 j9 f9 x0 => (by rw [← x0]; exact ⟨rfl, i9, j9, f9⟩)⟩
  exact ⟨hk.1 ▸ hB, hk.2⟩
def fC_kindAt (p : Int) (A : qA) : Int := (if 0 ≤ p ∧ p ≤ 4 then qlet (A 67 p) fun v3 => v3 else (-1))
def sC_kindAt : qS := fun as A K => ∃ p : Int, as = [rf 63, ni p] ∧ (iva IC A ∧ ivf JC A) ∧ (∀ r : Int, (-1) ≤ r → r ≤ 5 → (r = fC_kindAt p A) → K (some (ni r)) A)
theorem okC_kindAt : okM LC 2 43 sC_kindAt := by
  refine qmeth [] false [(138, sC_within)] 17 rfl ⟨okC_within.le (by decide), trivial⟩ ?_
  rintro _ A K hA has ⟨p, rfl, ⟨i0, j0⟩, hK⟩
  have rg_p : rng p := has (ni p) (by simp)
  have f0 := frm_0 [] [] A
  have hT : _ = fC_kindAt p A := (fC_kindAt.eq_1 p A).symm
  refine ⟨Nat.le_of_ble_eq_true rfl, [], trivial, ?_⟩
  refine Exists.intro p (Exists.intro 4 (And.intro rfl (And.intro (fun h1 => ?_) (fun h1 => ?_))))
  · replace hT := (if_pos h1).symm.trans hT
    refine And.intro (fun h2 => by exfalso; omega) (fun h2 => ?_)
    refine And.intro (by (first | (clear hm hnf; omega) | omega)) (fun v3 gv3 e4 => ?_)
    replace hT := qlc e4 hT
    have b5 := iva_at i0 33 rfl (i := p) (by (first | (clear hm hnf; omega) | omega)) (by (first | (clear hm hnf; omega) | omega))
    exact hK _ (by (first | (clear hm hnf; omega) | omega)) (by (first | (clear hm hnf; omega) | omega)) hT
  · replace hT := (if_neg h1).symm.trans hT
    refine And.intro (fun h6 => ?_) (fun h6 => by exfalso; omega)
    exact hK _ (by (first | (clear hm hnf; omega) | omega)) (by (first | (clear hm hnf; omega) | omega)) hT
theorem pC_kindAt {p : Int} {A : qA} (hA : qokA LC A) (rg_p : rng p) (p0 : iva IC A) (p1 : ivf JC A) : ((-1) ≤ (fC_kindAt p A) ∧ (fC_kindAt p A) ≤ 5) := by
  obtain ⟨r, B, hB, _, hk⟩ := okM_ex okC_kindAt (as := [rf 63, ni p]) (K := fun _ B => B = A ∧ ((-1) ≤ (fC_kindAt p A) ∧ (fC_kindAt p A) ≤ 5)) hA (qoks_c (show qok (rf _) from trivial) (qoks_c (rg_p) qoks_n)) ⟨p, rfl, ⟨p0, p1⟩, fun r9 g8 g9 x0 => (by rw [← x0]; exact ⟨rfl, ⟨g8, g9⟩⟩)⟩
  exact hk.2
