/-- what lies in the kitchen is somebody's -/
def LZ (A : qA) : Prop := ∀ i, 0 ≤ i → i < 60 → A 41 i = 6 → 0 ≤ A 42 i
theorem LZ_k {A A' : qA} (h : LZ A) (e1 : A' 41 = A 41) (e2 : A' 42 = A 42) : LZ A' := by
  unfold LZ
  rw [e1, e2]
  exact h
theorem LZ_fr {W : List Nat} {V : List (Nat × Nat)} {A A' : qA} (h : LZ A) (f : frm W V A A') (c : ((noW 41 W && noV 41 V) && (noW 42 W && noV 42 V)) = true) : LZ A' := by
  simp only [Bool.and_eq_true] at c
  obtain ⟨⟨a1, a2⟩, ⟨b1, b2⟩⟩ := c
  exact LZ_k h (frm_a f (by rw [a1, a2]; rfl)) (frm_a f (by rw [b1, b2]; rfl))
theorem LZ_w42 {A A' : qA} {j v : Int} (h : LZ A) (e : A' = qu A 42 j v) (hv : 0 ≤ v) : LZ A' := by
  subst e
  intro i h0 h1 h2
  rw [qu_is] at h2 ⊢
  rw [if_neg (by (first | (clear hm hnf; omega) | omega))] at h2
  split
  · exact hv
  · exact h i h0 h1 h2
def fM_catcher_c4 (rec : Nat → List Int → qA → Int × qA) (l1 k : Int) (B : qA) : Int × qA := qlet (qd l1 6) fun v9 => qlet (v9 + 1) fun v12 => qlet (6 * v12) fun v14 => (if k < v14 then qlet (B 1 k) fun v17 => (if v17 = 0 then qlet (k + 1) fun v61 => rec 4 [l1, v61] B else qlet (k - l1) fun v21 => qlet (fM_feelsCell k v21 0 B) fun A23 => qlet (A23 7 l1) fun v29 => qlet (A23 8 l1) fun v32 => qlet (fM_isRipe l1 A23) fun r34 => qlet (A23 2 l1) fun v38 => qlet (fM_feelsCrop v29 v32 r34 v38 A23) fun A41 => qlp (fM_told 99 1 A41) fun r51 A47 => (if 0 < r51 then (k, A47) else qlet (k + 1) fun v59 => rec 4 [l1, v59] A47)) else ((-1), B))
def fM_catcher_L : Nat → Nat → List Int → qA → Int × qA
  | 0 => fun _ _ B => (0, B)
  | nF + 1 => fun k zs B => bif Nat.beq k 4 then (match zs with | [l1, k] => fM_catcher_c4 (fM_catcher_L nF) l1 k B | _ => (0, B)) else (0, B)
theorem fM_catcher_L4 (nF : Nat) (l1 k : Int) (B : qA) : fM_catcher_L (nF + 1) 4 [l1, k] B = fM_catcher_c4 (fM_catcher_L nF) l1 k B := (congrFun (congrFun (congrFun (fM_catcher_L.eq_2 nF) 4) [l1, k]) B).trans (qL1 rfl rfl)
def fM_catcher (c : Int) (A : qA) : Int × qA := qlet (c + 1) fun v7 => (fM_catcher_L 100000) 4 [c, v7] A
def sM_catcher : qS := fun as A K => ∃ c : Int, as = [rf 0, ni c] ∧ (iva IM A ∧ ivf JM A ∧ 0 ≤ c ∧ c ≤ 47 ∧ (0 ≤ A 7 c ∧ A 7 c ≤ 5) ∧ (WF A)) ∧ (∀ A' : qA, iva IM A' → ivf JM A' → frm [34, 35] [] A A' → ∀ r : Int, (-1) ≤ r → r ≤ 47 → (r = (fM_catcher c A).1) → (A' = (fM_catcher c A).2) → K (some (ni r)) A')
theorem okM_catcher : okM LM 4 200 sM_catcher := by
  refine qmeth [] false [(187, sM_feelsCell), (189, sM_isRipe), (188, sM_feelsCrop), (186, sM_told)] 60 rfl ⟨okM_feelsCell.le (by decide), ⟨okM_isRipe.le (by decide), ⟨okM_feelsCrop.le (by decide), ⟨okM_told.le (by decide), trivial⟩⟩⟩⟩ ?_
  rintro _ A K hA has ⟨c, rfl, ⟨i0, j0, p1, p2, p3, p4⟩, hK⟩
  have rg_c : rng c := has (ni c) (by simp)
  have f0 := frm_0 [34, 35] [] A
  obtain ⟨v5, e6⟩ : ∃ v, v = A 7 c := ⟨_, rfl⟩
  rw [← e6] at p3
  have hT : _ = fM_catcher c A := (fM_catcher.eq_1 c A).symm
  refine ⟨Nat.le_of_ble_eq_true rfl, [(4, [(0, 2, 0), (1, 0, 0), (2, 0, 0)], fun zs B nn => match zs with | [l1, k] => iva IM B ∧ ivf JM B ∧ frm [34, 35] [] A B ∧ nn = (48 - k : Int).toNat ∧ (l1 = c) ∧ (0 ≤ l1) ∧ (l1 ≤ 47) ∧ (0 ≤ k) ∧ (k ≤ 48) ∧ (∃ nf : Nat, nn < nf ∧ fM_catcher_L nf 4 [l1, k] B = fM_catcher c A) | _ => False)], ?_, ?_⟩
  · refine ⟨⟨rfl, ?_⟩, trivial⟩
    · refine fun l1 k B mm hB hz hI => ?_
      obtain ⟨i1, j1, f1, hm, c0, c1, c2, c3, c4, ⟨nf, hnf, hT⟩⟩ := hI
      obtain ⟨hz_l1, hz_k, _⟩ := hz
      obtain ⟨ng, rfl⟩ : ∃ k, nf = k + 1 := ⟨nf - 1, by omega⟩
      replace hT := (fM_catcher_c4.eq_1 (fM_catcher_L ng) l1 k B).symm.trans ((fM_catcher_L4 ng l1 k B).symm.trans hT)
      refine And.intro (by (first | (clear hm hnf; omega) | omega)) (fun v9 e10 => ?_)
      replace hT := qlc e10 hT
      have h11 := qd_nn (a := l1) (b := 6) (by (first | (clear hm hnf; omega) | omega))
      refine fun v12 e13 => ?_
      replace hT := qlc e13 hT
      refine fun v14 e15 => ?_
      replace hT := qlc e15 hT
      refine And.intro (by (first | (clear hm hnf; omega) | omega)) (And.intro (fun h16 => ?_) (fun h16 => ?_))
      · replace hT := (if_neg (Int.not_lt.mpr h16)).symm.trans hT
        exact hK _ i1 j1 f1 _ (by (first | (clear hm hnf; omega) | omega)) (by (first | (clear hm hnf; omega) | omega)) (congrArg Prod.fst hT) (congrArg Prod.snd hT)
      · replace hT := (if_pos h16).symm.trans hT
        refine And.intro (by (first | (clear hm hnf; omega) | omega)) (fun v17 gv17 e18 => ?_)
        replace hT := qlc e18 hT
        have b19 := iva_at i1 0 rfl (i := k) (by (first | (clear hm hnf; omega) | omega)) (by (first | (clear hm hnf; omega) | omega))
        refine And.intro (fun h20 => ?_) (fun h20 => ?_)
        · replace hT := (if_neg h20).symm.trans hT
          refine fun v21 e22 => ?_
          replace hT := qlc e22 hT
          refine And.intro (by (first | (clear hm hnf; omega) | omega)) (Exists.intro k (Exists.intro v21 (Exists.intro 0 (And.intro rfl (And.intro (And.intro i1 (And.intro j1 (And.intro (by (first | (clear hm hnf; omega) | omega)) (by (first | (clear hm hnf; omega) | omega))))) (fun A23 i24 j25 f26 g27 => ?_))))))
          replace hT := qlc g27 hT
          have f28 := frm_c f1 f26 rfl
          refine And.intro (by (first | (clear hm hnf; omega) | omega)) (fun v29 gv29 e30 => ?_)
          replace hT := qlc e30 hT
          have b31 := iva_at i24 2 rfl (i := l1) (by (first | (clear hm hnf; omega) | omega)) (by (first | (clear hm hnf; omega) | omega))
          refine And.intro (by (first | (clear hm hnf; omega) | omega)) (fun v32 gv32 e33 => ?_)
          replace hT := qlc e33 hT
          refine Exists.intro l1 (And.intro rfl (And.intro (And.intro i24 (And.intro j25 (And.intro (by (first | (clear hm hnf; omega) | omega)) (by (first | (clear hm hnf; omega) | omega))))) (fun r34 g36 g37 g35 => ?_)))
          replace hT := qlc g35 hT
          clear g35
          refine And.intro (by (first | (clear hm hnf; omega) | omega)) (fun v38 gv38 e39 => ?_)
          replace hT := qlc e39 hT
          have b40 := iva_at i24 1 rfl (i := l1) (by (first | (clear hm hnf; omega) | omega)) (by (first | (clear hm hnf; omega) | omega))
          refine Exists.intro v29 (Exists.intro v32 (Exists.intro r34 (Exists.intro v38 (And.intro rfl (And.intro (And.intro i24 (And.intro j25 (And.intro (by (first | (clear hm hnf; omega) | omega)) (And.intro (by (first | (clear hm hnf; omega) | omega)) (And.intro (by (first | (clear hm hnf; omega) | omega)) (by (first | (clear hm hnf; omega) | omega))))))) (fun A41 i42 j43 f44 g45 => ?_))))))
          replace hT := qlc g45 hT
          have f46 := frm_c f28 f44 rfl
          refine Exists.intro 99 (Exists.intro 1 (And.intro rfl (And.intro (And.intro i42 (And.intro j43 (And.intro (by (first | (clear hm hnf; omega) | omega)) (And.intro (by (first | (clear hm hnf; omega) | omega)) (WF_fr p4 f46 rfl))))) (fun A47 i48 j49 f50 r51 g55 g56 g52 g53 g54 => ?_))))
          replace hT := qlpc g53 g54 hT
          clear g53 g54
          have f57 := frm_c f46 f50 rfl
          refine And.intro (fun h58 => ?_) (fun h58 => ?_)
          · replace hT := (if_neg (Int.not_lt.mpr h58)).symm.trans hT
            refine fun v59 e60 => ?_
            replace hT := qlc e60 hT
            exact And.intro (by (first | (clear hm hnf; omega) | omega)) (Exists.intro (48 - v59 : Int).toNat (And.intro (by first | exact qtn hm (by (try clear hm hnf); omega) | omega) (And.intro i48 (And.intro j49 (And.intro f57 (And.intro rfl (And.intro (by (first | (clear hm hnf; omega) | omega)) (And.intro (by (first | (clear hm hnf; omega) | omega)) (And.intro (by (first | (clear hm hnf; omega) | omega)) (And.intro (by (first | (clear hm hnf; omega) | omega)) (And.intro (by (first | (clear hm hnf; omega) | omega)) (Exists.intro ng (And.intro (by first | exact qtm hm hnf (by (try clear hm hnf); omega) | omega) hT)))))))))))))
          · replace hT := (if_pos h58).symm.trans hT
            exact hK _ i48 j49 f57 _ (by (first | (clear hm hnf; omega) | omega)) (by (first | (clear hm hnf; omega) | omega)) (congrArg Prod.fst hT) (congrArg Prod.snd hT)
        · replace hT := (if_pos h20).symm.trans hT
          refine fun v61 e62 => ?_
          replace hT := qlc e62 hT
          exact And.intro (by (first | (clear hm hnf; omega) | omega)) (Exists.intro (48 - v61 : Int).toNat (And.intro (by first | exact qtn hm (by (try clear hm hnf); omega) | omega) (And.intro i1 (And.intro j1 (And.intro f1 (And.intro rfl (And.intro (by (first | (clear hm hnf; omega) | omega)) (And.intro (by (first | (clear hm hnf; omega) | omega)) (And.intro (by (first | (clear hm hnf; omega) | omega)) (And.intro (by (first | (clear hm hnf; omega) | omega)) (And.intro (by (first | (clear hm hnf; omega) | omega)) (Exists.intro ng (And.intro (by first | exact qtm hm hnf (by (try clear hm hnf); omega) | omega) hT)))))))))))))
  · refine fun v7 e8 => ?_
    replace hT := qlc e8 hT
    exact And.intro (by (first | (clear hm hnf; omega) | omega)) (Exists.intro (48 - v7 : Int).toNat (And.intro i0 (And.intro j0 (And.intro f0 (And.intro rfl (And.intro (by (first | (clear hm hnf; omega) | omega)) (And.intro (by (first | (clear hm hnf; omega) | omega)) (And.intro (by (first | (clear hm hnf; omega) | omega)) (And.intro (by (first | (clear hm hnf; omega) | omega)) (And.intro (by (first | (clear hm hnf; omega) | omega)) (Exists.intro 100000 (And.intro (by (first | (clear hm hnf; omega) | omega)) hT))))))))))))
theorem pM_catcher {c : Int} {A : qA} (hA : qokA LM A) (p0 : iva IM A) (p1 : ivf JM A) (p2 : 0 ≤ c) (p3 : c ≤ 47) (p4 : (0 ≤ A 7 c ∧ A 7 c ≤ 5)) (p5 : WF A) : qokA LM (fM_catcher c A).2 ∧ iva IM (fM_catcher c A).2 ∧ ivf JM (fM_catcher c A).2 ∧ frm [34, 35] [] A (fM_catcher c A).2 ∧ ((-1) ≤ (fM_catcher c A).1 ∧ (fM_catcher c A).1 ≤ 47) := by
  obtain ⟨r, B, hB, _, hk⟩ := okM_ex okM_catcher (as := [rf 0, ni c]) (K := fun _ B => B = (fM_catcher c A).2 ∧ iva IM (fM_catcher c A).2 ∧ ivf JM (fM_catcher c A).2 ∧ frm [34, 35] [] A (fM_catcher c A).2 ∧ ((-1) ≤ (fM_catcher c A).1 ∧ (fM_catcher c A).1 ≤ 47)) hA (qoks_c (show qok (rf _) from trivial) (qoks_c (show rng c from ⟨by (first | (clear hm hnf; omega) | omega), by (first | (clear hm hnf; omega) | omega)⟩) qoks_n)) ⟨c, rfl, ⟨p0, p1, p2, p3, p4, p5⟩, fun A9 i9 j9 f9 r9 g8 g9 x0 x1 => (by rw [← x1]; (try rw [← x0]); exact ⟨rfl, i9, j9, f9, ⟨g8, g9⟩⟩)⟩
  exact ⟨hk.1 ▸ hB, hk.2⟩
def fM_writes (c l w f : Int) (A : qA) : qA := qlet (A 0 (fd 2)) fun v9 => (if v9 = 60 then A else qlet (A 0 (fd 2)) fun v13 => qlet (qu A 38 v9 c) fun A17 => qlet (A17 0 (fd 2)) fun v22 => qlet (A17 7 c) fun v26 => qlet (qu A17 39 v9 v26) fun A29 => qlet (A29 0 (fd 2)) fun v34 => qlet (A29 8 c) fun v38 => qlet (qu A29 40 v9 v38) fun A40 => qlet (A40 0 (fd 2)) fun v45 => qlet (qu A40 41 v9 l) fun A49 => qlet (A49 0 (fd 2)) fun v54 => qlet (qu A49 42 v9 w) fun A58 => qlet (A58 0 (fd 2)) fun v63 => qlet (A58 0 (fd 0)) fun v67 => qlet (qu A58 43 v9 v67) fun A69 => qlet (A69 0 (fd 2)) fun v74 => qlet (qu A69 44 v9 f) fun A78 => qlet (A78 0 (fd 2)) fun v83 => qlet (fM_isRipe c A78) fun r87 => qlet (qu A78 45 v9 r87) fun A91 => qlet (A91 0 (fd 2)) fun v96 => qlet (A91 2 c) fun v100 => qlet (qu A91 46 v9 v100) fun A103 => qlet (A103 0 (fd 2)) fun v108 => qlet (v9 + 1) fun v112 => qlet (qu A103 0 (fd 2) v112) fun A114 => A114)
def sM_writes : qS := fun as A K => ∃ c l w f : Int, as = [rf 0, ni c, ni l, ni w, ni f] ∧ (iva IM A ∧ ivf JM A ∧ 0 ≤ c ∧ c ≤ 47 ∧ 0 ≤ l ∧ l ≤ 6 ∧ (-1) ≤ w ∧ w ≤ 7 ∧ (LZ A) ∧ (l = 6 → 0 ≤ w)) ∧ (∀ A' : qA, iva IM A' → ivf JM A' → frm [38, 39, 40, 41, 42, 43, 44, 45, 46] [(0, 2)] A A' → (LZ A') → (A' = fM_writes c l w f A) → K none A')
theorem okM_writes : okM LM 2 201 sM_writes := by
  refine qmeth [] false [(189, sM_isRipe)] 84 rfl ⟨okM_isRipe.le (by decide), trivial⟩ ?_
  rintro _ A K hA has ⟨c, l, w, f, rfl, ⟨i0, j0, p1, p2, p3, p4, p5, p6, p7, p8⟩, hK⟩
  have rg_c : rng c := has (ni c) (by simp)
  have rg_l : rng l := has (ni l) (by simp)
  have rg_w : rng w := has (ni w) (by simp)
  have rg_f : rng f := has (ni f) (by simp)
  have f0 := frm_0 [38, 39, 40, 41, 42, 43, 44, 45, 46] [(0, 2)] A
  have hT : _ = fM_writes c l w f A := (fM_writes.eq_1 c l w f A).symm
  refine ⟨Nat.le_of_ble_eq_true rfl, [], trivial, ?_⟩
  refine fun v9 gv9 e10 => ?_
  replace hT := qlc e10 hT
  have b11 := ivf_at j0 0 rfl
  refine And.intro (fun h12 => ?_) (fun h12 => ?_)
  · replace hT := (if_neg h12).symm.trans hT
    refine fun v13 gv13 e14 => ?_
    replace hT := qlc e14 hT
    have b15 := ivf_at j0 0 rfl
    have q16 : v9 = v13 := (e14.trans e10.symm).symm
    subst q16
    refine And.intro (by (first | (clear hm hnf; omega) | omega)) (fun A17 e18 => ?_)
    replace hT := qlc e18 hT
    have i19 := iva_st i0 e18 (And.intro (by (first | (clear hm hnf; omega) | omega)) trivial)
    have j20 := ivf_sa j0 e18 rfl
    have f21 := frm_s f0 e18 rfl
    refine fun v22 gv22 e23 => ?_
    replace hT := qlc e23 hT
    have b24 := ivf_at j20 0 rfl
    have q25 : v9 = v22 := (e23.trans ((congrFun (st_a e18 rfl) _).trans e14.symm)).symm
    subst q25
    refine And.intro (by (first | (clear hm hnf; omega) | omega)) (fun v26 gv26 e27 => ?_)
    replace hT := qlc e27 hT
    have b28 := iva_at i19 2 rfl (i := c) (by (first | (clear hm hnf; omega) | omega)) (by (first | (clear hm hnf; omega) | omega))
    refine And.intro (by (first | (clear hm hnf; omega) | omega)) (fun A29 e30 => ?_)
    replace hT := qlc e30 hT
    have i31 := iva_st i19 e30 (And.intro (by (first | (clear hm hnf; omega) | omega)) trivial)
    have j32 := ivf_sa j20 e30 rfl
    have f33 := frm_s f21 e30 rfl
    refine fun v34 gv34 e35 => ?_
    replace hT := qlc e35 hT
    have b36 := ivf_at j32 0 rfl
    have q37 : v9 = v34 := (e35.trans ((congrFun (st_a e30 rfl) _).trans e23.symm)).symm
    subst q37
    refine And.intro (by (first | (clear hm hnf; omega) | omega)) (fun v38 gv38 e39 => ?_)
    replace hT := qlc e39 hT
    refine And.intro (by (first | (clear hm hnf; omega) | omega)) (fun A40 e41 => ?_)
    replace hT := qlc e41 hT
    have i42 := iva_st i31 e41 trivial
    have j43 := ivf_sa j32 e41 rfl
    have f44 := frm_s f33 e41 rfl
    refine fun v45 gv45 e46 => ?_
    replace hT := qlc e46 hT
    have b47 := ivf_at j43 0 rfl
    have q48 : v9 = v45 := (e46.trans ((congrFun (st_a e41 rfl) _).trans e35.symm)).symm
    subst q48
    refine And.intro (by (first | (clear hm hnf; omega) | omega)) (fun A49 e50 => ?_)
    replace hT := qlc e50 hT
    have i51 := iva_st i42 e50 (And.intro (by (first | (clear hm hnf; omega) | omega)) trivial)
    have j52 := ivf_sa j43 e50 rfl
    have f53 := frm_s f44 e50 rfl
    refine fun v54 gv54 e55 => ?_
    replace hT := qlc e55 hT
    have b56 := ivf_at j52 0 rfl
    have q57 : v9 = v54 := (e55.trans ((congrFun (st_a e50 rfl) _).trans e46.symm)).symm
    subst q57
    refine And.intro (by (first | (clear hm hnf; omega) | omega)) (fun A58 e59 => ?_)
    replace hT := qlc e59 hT
    have i60 := iva_st i51 e59 (And.intro (by (first | (clear hm hnf; omega) | omega)) trivial)
    have j61 := ivf_sa j52 e59 rfl
    have f62 := frm_s f53 e59 rfl
    refine fun v63 gv63 e64 => ?_
    replace hT := qlc e64 hT
    have b65 := ivf_at j61 0 rfl
    have q66 : v9 = v63 := (e64.trans ((congrFun (st_a e59 rfl) _).trans e55.symm)).symm
    subst q66
    refine fun v67 gv67 e68 => ?_
    replace hT := qlc e68 hT
    refine And.intro (by (first | (clear hm hnf; omega) | omega)) (fun A69 e70 => ?_)
    replace hT := qlc e70 hT
    have i71 := iva_st i60 e70 trivial
    have j72 := ivf_sa j61 e70 rfl
    have f73 := frm_s f62 e70 rfl
    refine fun v74 gv74 e75 => ?_
    replace hT := qlc e75 hT
    have b76 := ivf_at j72 0 rfl
    have q77 : v9 = v74 := (e75.trans ((congrFun (st_a e70 rfl) _).trans e64.symm)).symm
    subst q77
    refine And.intro (by (first | (clear hm hnf; omega) | omega)) (fun A78 e79 => ?_)
    replace hT := qlc e79 hT
    have i80 := iva_st i71 e79 trivial
    have j81 := ivf_sa j72 e79 rfl
    have f82 := frm_s f73 e79 rfl
    refine fun v83 gv83 e84 => ?_
    replace hT := qlc e84 hT
    have b85 := ivf_at j81 0 rfl
    have q86 : v9 = v83 := (e84.trans ((congrFun (st_a e79 rfl) _).trans e75.symm)).symm
    subst q86
    refine Exists.intro c (And.intro rfl (And.intro (And.intro i80 (And.intro j81 (And.intro (by (first | (clear hm hnf; omega) | omega)) (by (first | (clear hm hnf; omega) | omega))))) (fun r87 g89 g90 g88 => ?_)))
    replace hT := qlc g88 hT
    clear g88
    refine And.intro (by (first | (clear hm hnf; omega) | omega)) (And.intro (by (first | (clear hm hnf; omega) | omega)) (fun A91 e92 => ?_))
    replace hT := qlc e92 hT
    have i93 := iva_st i80 e92 (And.intro (by (first | (clear hm hnf; omega) | omega)) trivial)
    have j94 := ivf_sa j81 e92 rfl
    have f95 := frm_s f82 e92 rfl
    refine fun v96 gv96 e97 => ?_
    replace hT := qlc e97 hT
    have b98 := ivf_at j94 0 rfl
    have q99 : v9 = v96 := (e97.trans ((congrFun (st_a e92 rfl) _).trans e84.symm)).symm
    subst q99
    refine And.intro (by (first | (clear hm hnf; omega) | omega)) (fun v100 gv100 e101 => ?_)
    replace hT := qlc e101 hT
    have b102 := iva_at i93 1 rfl (i := c) (by (first | (clear hm hnf; omega) | omega)) (by (first | (clear hm hnf; omega) | omega))
    refine And.intro (by (first | (clear hm hnf; omega) | omega)) (And.intro (by (first | (clear hm hnf; omega) | omega)) (fun A103 e104 => ?_))
    replace hT := qlc e104 hT
    have i105 := iva_st i93 e104 (And.intro (by (first | (clear hm hnf; omega) | omega)) trivial)
    have j106 := ivf_sa j94 e104 rfl
    have f107 := frm_s f95 e104 rfl
    refine fun v108 gv108 e109 => ?_
    replace hT := qlc e109 hT
    have b110 := ivf_at j106 0 rfl
    have q111 : v9 = v108 := (e109.trans ((congrFun (st_a e104 rfl) _).trans e97.symm)).symm
    subst q111
    refine fun v112 e113 => ?_
    replace hT := qlc e113 hT
    refine And.intro (by (first | (clear hm hnf; omega) | omega)) (fun A114 e115 => ?_)
    replace hT := qlc e115 hT
    have i116 := iva_sf i105 e115 rfl
    have j117 := ivf_st j106 e115 (And.intro (by (first | (clear hm hnf; omega) | omega)) trivial)
    have f118 := frm_sf f107 e115 rfl
    first
    | exact hK _ i0 j0 f0 (by assumption) hT
    | (refine hK _ i116 j117 f118 ?_ hT
       clear hT
       have hLZ : LZ A := by assumption
       subst_vars
       intro i h0 h1 h2
       simp only [qu_is] at h2 ⊢
       simp at h2 ⊢
       by_cases hi : i = A 0 (fd 2)
       · simp [hi] at h2 ⊢; omega
       · simp [hi] at h2 ⊢; exact hLZ i h0 h1 h2)
  · replace hT := (if_pos h12).symm.trans hT
    exact hK _ i0 j0 f0 (by assumption) hT
theorem pM_writes {c l w f : Int} {A : qA} (hA : qokA LM A) (rg_f : rng f) (p0 : iva IM A) (p1 : ivf JM A) (p2 : 0 ≤ c) (p3 : c ≤ 47) (p4 : 0 ≤ l) (p5 : l ≤ 6) (p6 : (-1) ≤ w) (p7 : w ≤ 7) (p8 : LZ A) (p9 : l = 6 → 0 ≤ w) : qokA LM (fM_writes c l w f A) ∧ iva IM (fM_writes c l w f A) ∧ ivf JM (fM_writes c l w f A) ∧ frm [38, 39, 40, 41, 42, 43, 44, 45, 46] [(0, 2)] A (fM_writes c l w f A) ∧ (LZ (fM_writes c l w f A)) := by
  obtain ⟨r, B, hB, _, hk⟩ := okM_ex okM_writes (as := [rf 0, ni c, ni l, ni w, ni f]) (K := fun _ B => B = (fM_writes c l w f A) ∧ iva IM (fM_writes c l w f A) ∧ ivf JM (fM_writes c l w f A) ∧ frm [38, 39, 40, 41, 42, 43, 44, 45, 46] [(0, 2)] A (fM_writes c l w f A) ∧ (LZ (fM_writes c l w f A))) hA (qoks_c (show qok (rf _) from trivial) (qoks_c (show rng c from ⟨by (first | (clear hm hnf; omega) | omega), by (first | (clear hm hnf; omega) | omega)⟩) (qoks_c (show rng l from ⟨by (first | (clear hm hnf; omega) | omega), by (first | (clear hm hnf; omega) | omega)⟩) (qoks_c (show rng w from ⟨by (first | (clear hm hnf; omega) | omega), by (first | (clear hm hnf; omega) | omega)⟩) (qoks_c (rg_f) qoks_n))))) ⟨c, l, w, f, rfl, ⟨p0, p1, p2, p3, p4, p5, p6, p7, p8, p9⟩, fun A9 i9 j9 f9 x0 x1 => (by rw [← x1]; exact ⟨rfl, i9, j9, f9, x0⟩)⟩
  exact ⟨hk.1 ▸ hB, hk.2⟩
def fM_falls (c b : Int) (A : qA) : Int × qA := qlet (A 0 (fd 3)) fun v10 => qlet (v10 + 1) fun v12 => qlet (qu A 0 (fd 3) (wI v12)) fun A14 => (if b = 0 then qlet (qm c 6) fun v23 => qlet (6 - v23) fun v26 => qlet (fM_feels c A14) fun A28 => qlet (qu A28 35 12 (wI v26)) fun A36 => qlp (fM_told 111 7 A36) fun r48 A44 => qlet (A44 8 c) fun v57 => qlet (A44 7 c) fun v59 => qlet (A44 13 v59) fun v63 => qlet (v57 * v63) fun v66 => qlet (A44 19 r48) fun v68 => qlet (v68 + v66) fun v70 => qlet (qu A44 19 r48 (wI v70)) fun A72 => qlet (A72 8 c) fun v79 => qlet (v57 * v26) fun v82 => qlet (qd c 6) fun v84 => qlet (A72 16 v84) fun v87 => (if v87 < (wI v82) then qlet (qd c 6) fun v109 => qlet (qd c 6) fun v112 => qlet (A72 18 v112) fun v115 => qlet (v115 + 1) fun v117 => qlet (qu A72 18 v109 (wI v117)) fun A119 => qlet (fM_writes c 6 r48 (wI v66) A119) fun A127 => qlet (fM_empties c A127) fun A135 => (6, A135) else qlet (fM_writes c 6 r48 (wI v66) A72) fun A93 => qlet (fM_empties c A93) fun A101 => (6, A101)) else qlp (fM_catcher c A14) fun r151 A147 => (if r151 = (-1) then qlet (qm c 6) fun v160 => qlet (6 - v160) fun v163 => qlet (fM_feels c A147) fun A165 => qlet (qu A165 35 12 (wI v163)) fun A173 => qlp (fM_told 111 7 A173) fun r185 A181 => qlet (A181 8 c) fun v194 => qlet (A181 7 c) fun v196 => qlet (A181 13 v196) fun v200 => qlet (v194 * v200) fun v203 => qlet (A181 19 r185) fun v205 => qlet (v205 + v203) fun v207 => qlet (qu A181 19 r185 (wI v207)) fun A209 => qlet (A209 8 c) fun v216 => qlet (v194 * v163) fun v219 => qlet (qd c 6) fun v221 => qlet (A209 16 v221) fun v224 => (if v224 < (wI v219) then qlet (qd c 6) fun v246 => qlet (qd c 6) fun v249 => qlet (A209 18 v249) fun v252 => qlet (v252 + 1) fun v254 => qlet (qu A209 18 v246 (wI v254)) fun A256 => qlet (fM_writes c 6 r185 (wI v203) A256) fun A264 => qlet (fM_empties c A264) fun A272 => (6, A272) else qlet (fM_writes c 6 r185 (wI v203) A209) fun A230 => qlet (fM_empties c A230) fun A238 => (6, A238)) else qlet (qm r151 6) fun v280 => qlet (fM_writes c v280 (-1) 0 A147) fun A283 => qlet (A283 9 r151) fun v291 => qlet (A283 8 c) fun v293 => qlet (v291 + v293) fun v295 => qlet (qu A283 9 r151 (wI v295)) fun A297 => qlet (fM_empties c A297) fun A304 => qlet (qm r151 6) fun v312 => (v312, A304)))
def sM_falls : qS := fun as A K => ∃ c b : Int, as = [rf 0, ni c, ni b] ∧ (iva IM A ∧ ivf JM A ∧ 0 ≤ c ∧ c ≤ 47 ∧ 0 ≤ b ∧ b ≤ 1 ∧ (0 ≤ A 7 c ∧ A 7 c ≤ 5) ∧ (WF A) ∧ (LZ A)) ∧ (∀ A' : qA, iva IM A' → ivf JM A' → frm [34, 35, 9, 19, 18, 7, 8, 2, 38, 39, 40, 41, 42, 43, 44, 45, 46] [(0, 2), (0, 3)] A A' → ∀ r : Int, 0 ≤ r → r ≤ 6 → (LZ A') → (r = (fM_falls c b A).1) → (A' = (fM_falls c b A).2) → K (some (ni r)) A')
theorem okM_falls : okM LM 5 202 sM_falls := by
  refine qmeth [] true [(190, sM_feels), (186, sM_told), (201, sM_writes), (152, sM_empties), (200, sM_catcher)] 131 rfl ⟨okM_feels.le (by decide), ⟨okM_told.le (by decide), ⟨okM_writes.le (by decide), ⟨okM_empties.le (by decide), ⟨okM_catcher.le (by decide), trivial⟩⟩⟩⟩⟩ ?_
  rintro _ A K hA has ⟨c, b, rfl, ⟨i0, j0, p1, p2, p3, p4, p5, p6, p7⟩, hK⟩
  have rg_c : rng c := has (ni c) (by simp)
  have rg_b : rng b := has (ni b) (by simp)
  have f0 := frm_0 [34, 35, 9, 19, 18, 7, 8, 2, 38, 39, 40, 41, 42, 43, 44, 45, 46] [(0, 2), (0, 3)] A
  obtain ⟨v8, e9⟩ : ∃ v, v = A 7 c := ⟨_, rfl⟩
  rw [← e9] at p5
  have hT : _ = fM_falls c b A := (fM_falls.eq_1 c b A).symm
  refine ⟨Nat.le_of_ble_eq_true rfl, [], trivial, ?_⟩
  refine fun v10 gv10 e11 => ?_
  replace hT := qlc e11 hT
  refine fun v12 e13 => ?_
  replace hT := qlc e13 hT
  have w16 := wI_rng v12
  refine fun A14 e15 => ?_
  replace hT := qlc e15 hT
  have i17 := iva_sf i0 e15 rfl
  have j18 := ivf_st j0 e15 trivial
  have f19 := frm_sf f0 e15 rfl
  have cz20 := LZ_k p7 (st_a e15 rfl) (st_a e15 rfl)
  refine And.intro (fun h21 => ?_) (fun h21 => ?_)
  · replace hT := (if_pos h21).symm.trans hT
    refine And.intro (fun h22 => ?_) (fun h22 => by exfalso; omega)
    refine And.intro (by (first | (clear hm hnf; omega) | omega)) (fun v23 e24 => ?_)
    replace hT := qlc e24 hT
    have h25 := qm_nn (a := c) (b := 6) (by (first | (clear hm hnf; omega) | omega))
    refine fun v26 e27 => ?_
    replace hT := qlc e27 hT
    refine Exists.intro c (And.intro rfl (And.intro (And.intro i17 (And.intro j18 (And.intro (by (first | (clear hm hnf; omega) | omega)) (by (first | (clear hm hnf; omega) | omega))))) (fun A28 i29 j30 f31 g32 => ?_)))
    replace hT := qlc g32 hT
    have f33 := frm_c f19 f31 rfl
    have cz35 := LZ_fr cz20 f31 rfl
    have w38 := wI_rng v26
    have w39 : wI v26 = v26 := wI_id (by (first | (clear hm hnf; omega) | omega))
    refine And.intro (by (first | (clear hm hnf; omega) | omega)) (fun A36 e37 => ?_)
    replace hT := qlc e37 hT
    have i40 := iva_st i29 e37 trivial
    have j41 := ivf_sa j30 e37 rfl
    have f42 := frm_s f33 e37 rfl
    have cz43 := LZ_k cz35 (st_a e37 rfl) (st_a e37 rfl)
    refine Exists.intro 111 (Exists.intro 7 (And.intro rfl (And.intro (And.intro i40 (And.intro j41 (And.intro (by (first | (clear hm hnf; omega) | omega)) (And.intro (by (first | (clear hm hnf; omega) | omega)) (WF_fr p6 f42 rfl))))) (fun A44 i45 j46 f47 r48 g52 g53 g49 g50 g51 => ?_))))
    replace hT := qlpc g50 g51 hT
    clear g50 g51
    have f54 := frm_c f42 f47 rfl
    have cz56 := LZ_fr cz43 f47 rfl
    refine And.intro (by (first | (clear hm hnf; omega) | omega)) (fun v57 gv57 e58 => ?_)
    replace hT := qlc e58 hT
    refine And.intro (by (first | (clear hm hnf; omega) | omega)) (fun v59 gv59 e60 => ?_)
    replace hT := qlc e60 hT
    have b61 := iva_at i45 2 rfl (i := c) (by (first | (clear hm hnf; omega) | omega)) (by (first | (clear hm hnf; omega) | omega))
    have q62 : v8 = v59 := (e60.trans ((congrFun (Eq.trans (Eq.trans (Eq.trans (frm_a f47 rfl) (st_a e37 rfl)) (frm_a f31 rfl)) (st_a e15 rfl)) _).trans e9.symm)).symm
    subst q62
    refine And.intro (by (first | (clear hm hnf; omega) | omega)) (fun v63 gv63 e64 => ?_)
    replace hT := qlc e64 hT
    have b65 := iva_at i45 5 rfl (i := v8) (by (first | (clear hm hnf; omega) | omega)) (by (first | (clear hm hnf; omega) | omega))
    refine fun v66 e67 => ?_
    replace hT := qlc e67 hT
    refine And.intro (by (first | (clear hm hnf; omega) | omega)) (fun v68 gv68 e69 => ?_)
    replace hT := qlc e69 hT
    refine fun v70 e71 => ?_
    replace hT := qlc e71 hT
    have w74 := wI_rng v70
    refine And.intro (by (first | (clear hm hnf; omega) | omega)) (fun A72 e73 => ?_)
    replace hT := qlc e73 hT
    have i75 := iva_st i45 e73 trivial
    have j76 := ivf_sa j46 e73 rfl
    have f77 := frm_s f54 e73 rfl
    have cz78 := LZ_k cz56 (st_a e73 rfl) (st_a e73 rfl)
    refine And.intro (by (first | (clear hm hnf; omega) | omega)) (fun v79 gv79 e80 => ?_)
    replace hT := qlc e80 hT
    have q81 : v57 = v79 := (e80.trans ((congrFun (st_a e73 rfl) _).trans e58.symm)).symm
    subst q81
    refine fun v82 e83 => ?_
    replace hT := qlc e83 hT
    refine And.intro (by (first | (clear hm hnf; omega) | omega)) (fun v84 e85 => ?_)
    replace hT := qlc e85 hT
    have h86 := qd_nn (a := c) (b := 6) (by (first | (clear hm hnf; omega) | omega))
    refine And.intro (by (first | (clear hm hnf; omega) | omega)) (fun v87 gv87 e88 => ?_)
    replace hT := qlc e88 hT
    have b89 := iva_at i75 7 rfl (i := v84) (by (first | (clear hm hnf; omega) | omega)) (by (first | (clear hm hnf; omega) | omega))
    have w91 := wI_rng v82
    refine And.intro (fun h90 => ?_) (fun h90 => ?_)
    · replace hT := (if_neg (Int.not_lt.mpr h90)).symm.trans hT
      have w92 := wI_rng v66
      refine Exists.intro c (Exists.intro 6 (Exists.intro r48 (Exists.intro (wI v66) (And.intro rfl (And.intro (And.intro i75 (And.intro j76 (And.intro (by (first | (clear hm hnf; omega) | omega)) (And.intro (by (first | (clear hm hnf; omega) | omega)) (And.intro (by (first | (clear hm hnf; omega) | omega)) (And.intro (by (first | (clear hm hnf; omega) | omega)) (And.intro (by (first | (clear hm hnf; omega) | omega)) (And.intro (by (first | (clear hm hnf; omega) | omega)) (And.intro cz78 (by first | assumption | omega | simp_all)))))))))) (fun A93 i94 j95 f96 g97 g98 => ?_))))))
      replace hT := qlc g98 hT
      have f99 := frm_c f77 f96 rfl
      refine Exists.intro c (And.intro rfl (And.intro (And.intro i94 (And.intro j95 (And.intro (by (first | (clear hm hnf; omega) | omega)) (by (first | (clear hm hnf; omega) | omega))))) (fun A101 i102 j103 f104 g105 => ?_)))
      replace hT := qlc g105 hT
      have f106 := frm_c f99 f104 rfl
      have cz108 := LZ_fr g97 f104 rfl
      exact hK _ i102 j103 f106 _ (by (first | (clear hm hnf; omega) | omega)) (by (first | (clear hm hnf; omega) | omega)) cz108 (congrArg Prod.fst hT) (congrArg Prod.snd hT)
    · replace hT := (if_pos h90).symm.trans hT
      refine And.intro (by (first | (clear hm hnf; omega) | omega)) (fun v109 e110 => ?_)
      replace hT := qlc e110 hT
      have h111 := qd_nn (a := c) (b := 6) (by (first | (clear hm hnf; omega) | omega))
      refine And.intro (by (first | (clear hm hnf; omega) | omega)) (fun v112 e113 => ?_)
      replace hT := qlc e113 hT
      have h114 := qd_nn (a := c) (b := 6) (by (first | (clear hm hnf; omega) | omega))
      refine And.intro (by (first | (clear hm hnf; omega) | omega)) (fun v115 gv115 e116 => ?_)
      replace hT := qlc e116 hT
      refine fun v117 e118 => ?_
      replace hT := qlc e118 hT
      have w121 := wI_rng v117
      refine And.intro (by (first | (clear hm hnf; omega) | omega)) (fun A119 e120 => ?_)
      replace hT := qlc e120 hT
      have i122 := iva_st i75 e120 trivial
      have j123 := ivf_sa j76 e120 rfl
      have f124 := frm_s f77 e120 rfl
      have cz125 := LZ_k cz78 (st_a e120 rfl) (st_a e120 rfl)
      have w126 := wI_rng v66
      refine Exists.intro c (Exists.intro 6 (Exists.intro r48 (Exists.intro (wI v66) (And.intro rfl (And.intro (And.intro i122 (And.intro j123 (And.intro (by (first | (clear hm hnf; omega) | omega)) (And.intro (by (first | (clear hm hnf; omega) | omega)) (And.intro (by (first | (clear hm hnf; omega) | omega)) (And.intro (by (first | (clear hm hnf; omega) | omega)) (And.intro (by (first | (clear hm hnf; omega) | omega)) (And.intro (by (first | (clear hm hnf; omega) | omega)) (And.intro cz125 (by first | assumption | omega | simp_all)))))))))) (fun A127 i128 j129 f130 g131 g132 => ?_))))))
      replace hT := qlc g132 hT
      have f133 := frm_c f124 f130 rfl
      refine Exists.intro c (And.intro rfl (And.intro (And.intro i128 (And.intro j129 (And.intro (by (first | (clear hm hnf; omega) | omega)) (by (first | (clear hm hnf; omega) | omega))))) (fun A135 i136 j137 f138 g139 => ?_)))
      replace hT := qlc g139 hT
      have f140 := frm_c f133 f138 rfl
      have cz142 := LZ_fr g131 f138 rfl
      exact hK _ i136 j137 f140 _ (by (first | (clear hm hnf; omega) | omega)) (by (first | (clear hm hnf; omega) | omega)) cz142 (congrArg Prod.fst hT) (congrArg Prod.snd hT)
  · replace hT := (if_neg h21).symm.trans hT
    obtain ⟨v143, e144⟩ : ∃ v, v = A14 7 c := ⟨_, rfl⟩
    have b145 := iva_at i17 2 rfl (i := c) (by (first | (clear hm hnf; omega) | omega)) (by (first | (clear hm hnf; omega) | omega))
    have q146 : v8 = v143 := (e144.trans ((congrFun (st_a e15 rfl) _).trans e9.symm)).symm
    subst q146
    refine Exists.intro c (And.intro rfl (And.intro (And.intro i17 (And.intro j18 (And.intro (by (first | (clear hm hnf; omega) | omega)) (And.intro (by (first | (clear hm hnf; omega) | omega)) (And.intro (by rw [← e144]; omega) (WF_fr p6 f19 rfl)))))) (fun A147 i148 j149 f150 r151 g154 g155 g152 g153 => ?_)))
    replace hT := qlpc g152 g153 hT
    clear g152 g153
    have f156 := frm_c f19 f150 rfl
    have cz158 := LZ_fr cz20 f150 rfl
    refine And.intro (fun h159 => ?_) (fun h159 => ?_)
    · replace hT := (if_pos h159).symm.trans hT
      refine And.intro (by (first | (clear hm hnf; omega) | omega)) (fun v160 e161 => ?_)
      replace hT := qlc e161 hT
      have h162 := qm_nn (a := c) (b := 6) (by (first | (clear hm hnf; omega) | omega))
      refine fun v163 e164 => ?_
      replace hT := qlc e164 hT
      refine Exists.intro c (And.intro rfl (And.intro (And.intro i148 (And.intro j149 (And.intro (by (first | (clear hm hnf; omega) | omega)) (by (first | (clear hm hnf; omega) | omega))))) (fun A165 i166 j167 f168 g169 => ?_)))
      replace hT := qlc g169 hT
      have f170 := frm_c f156 f168 rfl
      have cz172 := LZ_fr cz158 f168 rfl
      have w175 := wI_rng v163
      have w176 : wI v163 = v163 := wI_id (by (first | (clear hm hnf; omega) | omega))
      refine And.intro (by (first | (clear hm hnf; omega) | omega)) (fun A173 e174 => ?_)
      replace hT := qlc e174 hT
      have i177 := iva_st i166 e174 trivial
      have j178 := ivf_sa j167 e174 rfl
      have f179 := frm_s f170 e174 rfl
      have cz180 := LZ_k cz172 (st_a e174 rfl) (st_a e174 rfl)
      refine Exists.intro 111 (Exists.intro 7 (And.intro rfl (And.intro (And.intro i177 (And.intro j178 (And.intro (by (first | (clear hm hnf; omega) | omega)) (And.intro (by (first | (clear hm hnf; omega) | omega)) (WF_fr p6 f179 rfl))))) (fun A181 i182 j183 f184 r185 g189 g190 g186 g187 g188 => ?_))))
      replace hT := qlpc g187 g188 hT
      clear g187 g188
      have f191 := frm_c f179 f184 rfl
      have cz193 := LZ_fr cz180 f184 rfl
      refine And.intro (by (first | (clear hm hnf; omega) | omega)) (fun v194 gv194 e195 => ?_)
      replace hT := qlc e195 hT
      refine And.intro (by (first | (clear hm hnf; omega) | omega)) (fun v196 gv196 e197 => ?_)
      replace hT := qlc e197 hT
      have b198 := iva_at i182 2 rfl (i := c) (by (first | (clear hm hnf; omega) | omega)) (by (first | (clear hm hnf; omega) | omega))
      have q199 : v8 = v196 := (e197.trans ((congrFun (Eq.trans (Eq.trans (Eq.trans (frm_a f184 rfl) (st_a e174 rfl)) (frm_a f168 rfl)) (frm_a f150 rfl)) _).trans e144.symm)).symm
      subst q199
      refine And.intro (by (first | (clear hm hnf; omega) | omega)) (fun v200 gv200 e201 => ?_)
      replace hT := qlc e201 hT
      have b202 := iva_at i182 5 rfl (i := v8) (by (first | (clear hm hnf; omega) | omega)) (by (first | (clear hm hnf; omega) | omega))
      refine fun v203 e204 => ?_
      replace hT := qlc e204 hT
      refine And.intro (by (first | (clear hm hnf; omega) | omega)) (fun v205 gv205 e206 => ?_)
      replace hT := qlc e206 hT
      refine fun v207 e208 => ?_
      replace hT := qlc e208 hT
      have w211 := wI_rng v207
      refine And.intro (by (first | (clear hm hnf; omega) | omega)) (fun A209 e210 => ?_)
      replace hT := qlc e210 hT
      have i212 := iva_st i182 e210 trivial
      have j213 := ivf_sa j183 e210 rfl
      have f214 := frm_s f191 e210 rfl
      have cz215 := LZ_k cz193 (st_a e210 rfl) (st_a e210 rfl)
      refine And.intro (by (first | (clear hm hnf; omega) | omega)) (fun v216 gv216 e217 => ?_)
      replace hT := qlc e217 hT
      have q218 : v194 = v216 := (e217.trans ((congrFun (st_a e210 rfl) _).trans e195.symm)).symm
      subst q218
      refine fun v219 e220 => ?_
      replace hT := qlc e220 hT
      refine And.intro (by (first | (clear hm hnf; omega) | omega)) (fun v221 e222 => ?_)
      replace hT := qlc e222 hT
      have h223 := qd_nn (a := c) (b := 6) (by (first | (clear hm hnf; omega) | omega))
      refine And.intro (by (first | (clear hm hnf; omega) | omega)) (fun v224 gv224 e225 => ?_)
      replace hT := qlc e225 hT
      have b226 := iva_at i212 7 rfl (i := v221) (by (first | (clear hm hnf; omega) | omega)) (by (first | (clear hm hnf; omega) | omega))
      have w228 := wI_rng v219
      refine And.intro (fun h227 => ?_) (fun h227 => ?_)
      · replace hT := (if_neg (Int.not_lt.mpr h227)).symm.trans hT
        have w229 := wI_rng v203
        refine Exists.intro c (Exists.intro 6 (Exists.intro r185 (Exists.intro (wI v203) (And.intro rfl (And.intro (And.intro i212 (And.intro j213 (And.intro (by (first | (clear hm hnf; omega) | omega)) (And.intro (by (first | (clear hm hnf; omega) | omega)) (And.intro (by (first | (clear hm hnf; omega) | omega)) (And.intro (by (first | (clear hm hnf; omega) | omega)) (And.intro (by (first | (clear hm hnf; omega) | omega)) (And.intro (by (first | (clear hm hnf; omega) | omega)) (And.intro cz215 (by first | assumption | omega | simp_all)))))))))) (fun A230 i231 j232 f233 g234 g235 => ?_))))))
        replace hT := qlc g235 hT
        have f236 := frm_c f214 f233 rfl
        refine Exists.intro c (And.intro rfl (And.intro (And.intro i231 (And.intro j232 (And.intro (by (first | (clear hm hnf; omega) | omega)) (by (first | (clear hm hnf; omega) | omega))))) (fun A238 i239 j240 f241 g242 => ?_)))
        replace hT := qlc g242 hT
        have f243 := frm_c f236 f241 rfl
        have cz245 := LZ_fr g234 f241 rfl
        exact hK _ i239 j240 f243 _ (by (first | (clear hm hnf; omega) | omega)) (by (first | (clear hm hnf; omega) | omega)) cz245 (congrArg Prod.fst hT) (congrArg Prod.snd hT)
      · replace hT := (if_pos h227).symm.trans hT
        refine And.intro (by (first | (clear hm hnf; omega) | omega)) (fun v246 e247 => ?_)
        replace hT := qlc e247 hT
        have h248 := qd_nn (a := c) (b := 6) (by (first | (clear hm hnf; omega) | omega))
        refine And.intro (by (first | (clear hm hnf; omega) | omega)) (fun v249 e250 => ?_)
        replace hT := qlc e250 hT
        have h251 := qd_nn (a := c) (b := 6) (by (first | (clear hm hnf; omega) | omega))
        refine And.intro (by (first | (clear hm hnf; omega) | omega)) (fun v252 gv252 e253 => ?_)
        replace hT := qlc e253 hT
        refine fun v254 e255 => ?_
        replace hT := qlc e255 hT
        have w258 := wI_rng v254
        refine And.intro (by (first | (clear hm hnf; omega) | omega)) (fun A256 e257 => ?_)
        replace hT := qlc e257 hT
        have i259 := iva_st i212 e257 trivial
        have j260 := ivf_sa j213 e257 rfl
        have f261 := frm_s f214 e257 rfl
        have cz262 := LZ_k cz215 (st_a e257 rfl) (st_a e257 rfl)
        have w263 := wI_rng v203
        refine Exists.intro c (Exists.intro 6 (Exists.intro r185 (Exists.intro (wI v203) (And.intro rfl (And.intro (And.intro i259 (And.intro j260 (And.intro (by (first | (clear hm hnf; omega) | omega)) (And.intro (by (first | (clear hm hnf; omega) | omega)) (And.intro (by (first | (clear hm hnf; omega) | omega)) (And.intro (by (first | (clear hm hnf; omega) | omega)) (And.intro (by (first | (clear hm hnf; omega) | omega)) (And.intro (by (first | (clear hm hnf; omega) | omega)) (And.intro cz262 (by first | assumption | omega | simp_all)))))))))) (fun A264 i265 j266 f267 g268 g269 => ?_))))))
        replace hT := qlc g269 hT
        have f270 := frm_c f261 f267 rfl
        refine Exists.intro c (And.intro rfl (And.intro (And.intro i265 (And.intro j266 (And.intro (by (first | (clear hm hnf; omega) | omega)) (by (first | (clear hm hnf; omega) | omega))))) (fun A272 i273 j274 f275 g276 => ?_)))
        replace hT := qlc g276 hT
        have f277 := frm_c f270 f275 rfl
        have cz279 := LZ_fr g268 f275 rfl
        exact hK _ i273 j274 f277 _ (by (first | (clear hm hnf; omega) | omega)) (by (first | (clear hm hnf; omega) | omega)) cz279 (congrArg Prod.fst hT) (congrArg Prod.snd hT)
    · replace hT := (if_neg h159).symm.trans hT
      refine And.intro (by (first | (clear hm hnf; omega) | omega)) (fun v280 e281 => ?_)
      replace hT := qlc e281 hT
      have h282 := qm_nn (a := r151) (b := 6) (by (first | (clear hm hnf; omega) | omega))
      refine Exists.intro c (Exists.intro v280 (Exists.intro (-1) (Exists.intro 0 (And.intro rfl (And.intro (And.intro i148 (And.intro j149 (And.intro (by (first | (clear hm hnf; omega) | omega)) (And.intro (by (first | (clear hm hnf; omega) | omega)) (And.intro (by (first | (clear hm hnf; omega) | omega)) (And.intro (by (first | (clear hm hnf; omega) | omega)) (And.intro (by (first | (clear hm hnf; omega) | omega)) (And.intro (by (first | (clear hm hnf; omega) | omega)) (And.intro cz158 (by first | assumption | omega | simp_all)))))))))) (fun A283 i284 j285 f286 g287 g288 => ?_))))))
      replace hT := qlc g288 hT
      have f289 := frm_c f156 f286 rfl
      refine And.intro (by (first | (clear hm hnf; omega) | omega)) (fun v291 gv291 e292 => ?_)
      replace hT := qlc e292 hT
      refine And.intro (by (first | (clear hm hnf; omega) | omega)) (fun v293 gv293 e294 => ?_)
      replace hT := qlc e294 hT
      refine fun v295 e296 => ?_
      replace hT := qlc e296 hT
      have w299 := wI_rng v295
      refine And.intro (by (first | (clear hm hnf; omega) | omega)) (fun A297 e298 => ?_)
      replace hT := qlc e298 hT
      have i300 := iva_st i284 e298 trivial
      have j301 := ivf_sa j285 e298 rfl
      have f302 := frm_s f289 e298 rfl
      have cz303 := LZ_k g287 (st_a e298 rfl) (st_a e298 rfl)
      refine Exists.intro c (And.intro rfl (And.intro (And.intro i300 (And.intro j301 (And.intro (by (first | (clear hm hnf; omega) | omega)) (by (first | (clear hm hnf; omega) | omega))))) (fun A304 i305 j306 f307 g308 => ?_)))
      replace hT := qlc g308 hT
      have f309 := frm_c f302 f307 rfl
      have cz311 := LZ_fr cz303 f307 rfl
      refine And.intro (by (first | (clear hm hnf; omega) | omega)) (fun v312 e313 => ?_)
      replace hT := qlc e313 hT
      have h314 := qm_nn (a := r151) (b := 6) (by (first | (clear hm hnf; omega) | omega))
      exact hK _ i305 j306 f309 _ (by (first | (clear hm hnf; omega) | omega)) (by (first | (clear hm hnf; omega) | omega)) cz311 (congrArg Prod.fst hT) (congrArg Prod.snd hT)
theorem pM_falls {c b : Int} {A : qA} (hA : qokA LM A) (p0 : iva IM A) (p1 : ivf JM A) (p2 : 0 ≤ c) (p3 : c ≤ 47) (p4 : 0 ≤ b) (p5 : b ≤ 1) (p6 : (0 ≤ A 7 c ∧ A 7 c ≤ 5)) (p7 : WF A) (p8 : LZ A) : qokA LM (fM_falls c b A).2 ∧ iva IM (fM_falls c b A).2 ∧ ivf JM (fM_falls c b A).2 ∧ frm [34, 35, 9, 19, 18, 7, 8, 2, 38, 39, 40, 41, 42, 43, 44, 45, 46] [(0, 2), (0, 3)] A (fM_falls c b A).2 ∧ (0 ≤ (fM_falls c b A).1 ∧ (fM_falls c b A).1 ≤ 6) ∧ (LZ (fM_falls c b A).2) := by
  obtain ⟨r, B, hB, _, hk⟩ := okM_ex okM_falls (as := [rf 0, ni c, ni b]) (K := fun _ B => B = (fM_falls c b A).2 ∧ iva IM (fM_falls c b A).2 ∧ ivf JM (fM_falls c b A).2 ∧ frm [34, 35, 9, 19, 18, 7, 8, 2, 38, 39, 40, 41, 42, 43, 44, 45, 46] [(0, 2), (0, 3)] A (fM_falls c b A).2 ∧ (0 ≤ (fM_falls c b A).1 ∧ (fM_falls c b A).1 ≤ 6) ∧ (LZ (fM_falls c b A).2)) hA (qoks_c (show qok (rf _) from trivial) (qoks_c (show rng c from ⟨by (first | (clear hm hnf; omega) | omega), by (first | (clear hm hnf; omega) | omega)⟩) (qoks_c (show rng b from ⟨by (first | (clear hm hnf; omega) | omega), by (first | (clear hm hnf; omega) | omega)⟩) qoks_n))) ⟨c, b, rfl, ⟨p0, p1, p2, p3, p4, p5, p6, p7, p8⟩, fun A9 i9 j9 f9 r9 g8 g9 x0 x1 x2 => (by rw [← x2]; (try rw [← x1]); exact ⟨rfl, i9, j9, f9, ⟨g8, g9⟩, x0⟩)⟩
  exact ⟨hk.1 ▸ hB, hk.2⟩
def fM_fall (c l : Int) (A : qA) : Int × qA := (if ((0 ≤ c ∧ c ≤ 7) ∧ (0 ≤ l ∧ l ≤ 5)) ∧ A 1 (6 * c + l) ≠ 0 then qlet (A 7 (6 * c + l)) fun v5 => (if v5 = (-1) then ((-1), A) else qlp (fM_falls (6 * c + l) 1 A) fun r17 A13 => (r17, A13)) else ((-1), A))
def sM_fall : qS := fun as A K => ∃ c l : Int, as = [rf 0, ni c, ni l] ∧ (iva IM A ∧ ivf JM A ∧ (WF A) ∧ (LZ A)) ∧ (∀ A' : qA, iva IM A' → ivf JM A' → frm [34, 35, 9, 19, 18, 7, 8, 2, 38, 39, 40, 41, 42, 43, 44, 45, 46] [(0, 2), (0, 3)] A A' → ∀ r : Int, (-1) ≤ r → r ≤ 6 → (LZ A') → (r = (fM_fall c l A).1) → (A' = (fM_fall c l A).2) → K (some (ni r)) A')
theorem okM_fall : okM LM 6 203 sM_fall := by
  refine qmeth [] false [(150, sM_isHung), (149, sM_at), (202, sM_falls)] 28 rfl ⟨okM_isHung.le (by decide), ⟨okM_at.le (by decide), ⟨okM_falls.le (by decide), trivial⟩⟩⟩ ?_
  rintro _ A K hA has ⟨c, l, rfl, ⟨i0, j0, p1, p2⟩, hK⟩
  have rg_c : rng c := has (ni c) (by simp)
  have rg_l : rng l := has (ni l) (by simp)
  have f0 := frm_0 [34, 35, 9, 19, 18, 7, 8, 2, 38, 39, 40, 41, 42, 43, 44, 45, 46] [(0, 2), (0, 3)] A
  have hT : _ = fM_fall c l A := (fM_fall.eq_1 c l A).symm
  refine ⟨Nat.le_of_ble_eq_true rfl, [], trivial, ?_⟩
  refine Exists.intro c (Exists.intro l (And.intro rfl (And.intro (And.intro i0 j0) (And.intro (fun h3 => ?_) (fun h3 => ?_)))))
  · replace hT := (if_pos h3).symm.trans hT
    refine And.intro (fun h4 => by exfalso; omega) (fun h4 => ?_)
    refine Exists.intro c (Exists.intro l (And.intro rfl (And.intro (And.intro (by (first | (clear hm hnf; omega) | omega)) (And.intro (by (first | (clear hm hnf; omega) | omega)) (And.intro (by (first | (clear hm hnf; omega) | omega)) (by (first | (clear hm hnf; omega) | omega))))) ?_)))
    refine And.intro (by (first | (clear hm hnf; omega) | omega)) (fun v5 gv5 e6 => ?_)
    replace hT := qlc e6 hT
    have b7 := iva_at i0 2 rfl (i := (6 * c + l)) (by (first | (clear hm hnf; omega) | omega)) (by (first | (clear hm hnf; omega) | omega))
    refine And.intro (fun h8 => ?_) (fun h8 => ?_)
    · replace hT := (if_neg h8).symm.trans hT
      refine Exists.intro c (Exists.intro l (And.intro rfl (And.intro (And.intro (by (first | (clear hm hnf; omega) | omega)) (And.intro (by (first | (clear hm hnf; omega) | omega)) (And.intro (by (first | (clear hm hnf; omega) | omega)) (by (first | (clear hm hnf; omega) | omega))))) ?_)))
      obtain ⟨v9, e10⟩ : ∃ v, v = A 7 (6 * c + l) := ⟨_, rfl⟩
      have b11 := iva_at i0 2 rfl (i := (6 * c + l)) (by (first | (clear hm hnf; omega) | omega)) (by (first | (clear hm hnf; omega) | omega))
      have q12 : v5 = v9 := (e10.trans e6.symm).symm
      subst q12
      refine Exists.intro (6 * c + l) (Exists.intro 1 (And.intro rfl (And.intro (And.intro i0 (And.intro j0 (And.intro (by (first | (clear hm hnf; omega) | omega)) (And.intro (by (first | (clear hm hnf; omega) | omega)) (And.intro (by (first | (clear hm hnf; omega) | omega)) (And.intro (by (first | (clear hm hnf; omega) | omega)) (And.intro (by rw [← e10]; omega) (And.intro (WF_fr p1 f0 rfl) p2)))))))) (fun A13 i14 j15 f16 r17 g21 g22 g18 g19 g20 => ?_))))
      replace hT := qlpc g19 g20 hT
      clear g19 g20
      have f23 := frm_c f0 f16 rfl
      exact hK _ i14 j15 f23 _ (by (first | (clear hm hnf; omega) | omega)) (by (first | (clear hm hnf; omega) | omega)) g18 (congrArg Prod.fst hT) (congrArg Prod.snd hT)
    · replace hT := (if_pos h8).symm.trans hT
      exact hK _ i0 j0 f0 _ (by (first | (clear hm hnf; omega) | omega)) (by (first | (clear hm hnf; omega) | omega)) p2 (congrArg Prod.fst hT) (congrArg Prod.snd hT)
  · replace hT := (if_neg h3).symm.trans hT
    refine And.intro (fun h25 => ?_) (fun h25 => by exfalso; omega)
    exact hK _ i0 j0 f0 _ (by (first | (clear hm hnf; omega) | omega)) (by (first | (clear hm hnf; omega) | omega)) p2 (congrArg Prod.fst hT) (congrArg Prod.snd hT)
theorem pM_fall {c l : Int} {A : qA} (hA : qokA LM A) (rg_c : rng c) (rg_l : rng l) (p0 : iva IM A) (p1 : ivf JM A) (p2 : WF A) (p3 : LZ A) : qokA LM (fM_fall c l A).2 ∧ iva IM (fM_fall c l A).2 ∧ ivf JM (fM_fall c l A).2 ∧ frm [34, 35, 9, 19, 18, 7, 8, 2, 38, 39, 40, 41, 42, 43, 44, 45, 46] [(0, 2), (0, 3)] A (fM_fall c l A).2 ∧ ((-1) ≤ (fM_fall c l A).1 ∧ (fM_fall c l A).1 ≤ 6) ∧ (LZ (fM_fall c l A).2) := by
  obtain ⟨r, B, hB, _, hk⟩ := okM_ex okM_fall (as := [rf 0, ni c, ni l]) (K := fun _ B => B = (fM_fall c l A).2 ∧ iva IM (fM_fall c l A).2 ∧ ivf JM (fM_fall c l A).2 ∧ frm [34, 35, 9, 19, 18, 7, 8, 2, 38, 39, 40, 41, 42, 43, 44, 45, 46] [(0, 2), (0, 3)] A (fM_fall c l A).2 ∧ ((-1) ≤ (fM_fall c l A).1 ∧ (fM_fall c l A).1 ≤ 6) ∧ (LZ (fM_fall c l A).2)) hA (qoks_c (show qok (rf _) from trivial) (qoks_c (rg_c) (qoks_c (rg_l) qoks_n))) ⟨c, l, rfl, ⟨p0, p1, p2, p3⟩, fun A9 i9 j9 f9 r9 g8 g9 x0 x1 x2 => (by rw [← x2]; (try rw [← x1]); exact ⟨rfl, i9, j9, f9, ⟨g8, g9⟩, x0⟩)⟩
  exact ⟨hk.1 ▸ hB, hk.2⟩
def fM_firstGoing_c2 (rec : Nat → List Int → qA → Int) (k : Int) (A : qA) : Int := (if k < 48 then qlet (A 1 k) fun v2 => (if v2 = 0 then qlet (k + 1) fun v6 => rec 2 [((wI v6))] A else qlet (fM_loadOf k A) fun r10 => qlet (A 3 k) fun v13 => (if v13 < r10 then k else qlet (k + 1) fun v16 => rec 2 [((wI v16))] A)) else (-1))
def fM_firstGoing_L : Nat → Nat → List Int → qA → Int
  | 0 => fun _ _ B => 0
  | nF + 1 => fun k zs B => bif Nat.beq k 2 then (match zs with | [k] => fM_firstGoing_c2 (fM_firstGoing_L nF) k B | _ => 0) else 0
theorem fM_firstGoing_L2 (nF : Nat) (k : Int) (B : qA) : fM_firstGoing_L (nF + 1) 2 [k] B = fM_firstGoing_c2 (fM_firstGoing_L nF) k B := (congrFun (congrFun (congrFun (fM_firstGoing_L.eq_2 nF) 2) [k]) B).trans (qL1 rfl rfl)
def fM_firstGoing (A : qA) : Int := (fM_firstGoing_L 100000) 2 [0] A
def sM_firstGoing : qS := fun as A K => as = [rf 0] ∧ (iva IM A ∧ ivf JM A) ∧ (∀ r : Int, (-1) ≤ r → r ≤ 47 → (r < 0 ∨ A 1 r ≠ 0) → (r = fM_firstGoing A) → K (some (ni r)) A)
theorem okM_firstGoing : okM LM 3 204 sM_firstGoing := by
  refine qmeth [] true [(198, sM_loadOf)] 30 rfl ⟨okM_loadOf.le (by decide), trivial⟩ ?_
  rintro _ A K hA has ⟨rfl, ⟨i0, j0⟩, hK⟩
  have f0 := frm_0 [] [] A
  have hT : _ = fM_firstGoing A := (fM_firstGoing.eq_1 A).symm
  refine ⟨Nat.le_of_ble_eq_true rfl, [(2, [(0, 2, 0), (1, 0, 0)], fun zs B nn => match zs with | [k] => A = B ∧ nn = (48 - k : Int).toNat ∧ (0 ≤ k) ∧ (k ≤ 48) ∧ (∃ nf : Nat, nn < nf ∧ fM_firstGoing_L nf 2 [k] B = fM_firstGoing A) | _ => False)], ?_, ?_⟩
  · refine ⟨⟨rfl, ?_⟩, trivial⟩
    · refine fun k B mm hB hz hI => ?_
      obtain ⟨rfl, hm, c0, c1, ⟨nf, hnf, hT⟩⟩ := hI
      obtain ⟨hz_k, _⟩ := hz
      obtain ⟨ng, rfl⟩ : ∃ k, nf = k + 1 := ⟨nf - 1, by omega⟩
      replace hT := (fM_firstGoing_c2.eq_1 (fM_firstGoing_L ng) k A).symm.trans ((fM_firstGoing_L2 ng k A).symm.trans hT)
      refine And.intro (fun h1 => ?_) (fun h1 => ?_)
      · replace hT := (if_neg (Int.not_lt.mpr h1)).symm.trans hT
        exact hK _ (by (first | (clear hm hnf; omega) | omega)) (by (first | (clear hm hnf; omega) | omega)) (by first | omega | (subst_vars; omega)) hT
      · replace hT := (if_pos h1).symm.trans hT
        refine And.intro (by (first | (clear hm hnf; omega) | omega)) (fun v2 gv2 e3 => ?_)
        replace hT := qlc e3 hT
        have b4 := iva_at i0 0 rfl (i := k) (by (first | (clear hm hnf; omega) | omega)) (by (first | (clear hm hnf; omega) | omega))
        refine And.intro (fun h5 => ?_) (fun h5 => ?_)
        · replace hT := (if_pos h5).symm.trans hT
          refine fun v6 e7 => ?_
          replace hT := qlc e7 hT
          have w8 := wI_rng v6
          have w9 : wI v6 = v6 := wI_id (by (first | (clear hm hnf; omega) | omega))
          exact Exists.intro (48 - ((wI v6)) : Int).toNat (And.intro (by first | exact qtn hm (by (try clear hm hnf); omega) | omega) (And.intro rfl (And.intro rfl (And.intro (by (first | (clear hm hnf; omega) | omega)) (And.intro (by (first | (clear hm hnf; omega) | omega)) (Exists.intro ng (And.intro (by first | exact qtm hm hnf (by (try clear hm hnf); omega) | omega) hT)))))))
        · replace hT := (if_neg h5).symm.trans hT
          refine Exists.intro k (And.intro rfl (And.intro (And.intro i0 (And.intro j0 (And.intro (by (first | (clear hm hnf; omega) | omega)) (by (first | (clear hm hnf; omega) | omega))))) (fun r10 g12 g11 => ?_)))
          replace hT := qlc g11 hT
          clear g11
          refine And.intro (by (first | (clear hm hnf; omega) | omega)) (fun v13 gv13 e14 => ?_)
          replace hT := qlc e14 hT
          refine And.intro (fun h15 => ?_) (fun h15 => ?_)
          · replace hT := (if_neg (Int.not_lt.mpr h15)).symm.trans hT
            refine fun v16 e17 => ?_
            replace hT := qlc e17 hT
            have w18 := wI_rng v16
            have w19 : wI v16 = v16 := wI_id (by (first | (clear hm hnf; omega) | omega))
            exact Exists.intro (48 - ((wI v16)) : Int).toNat (And.intro (by first | exact qtn hm (by (try clear hm hnf); omega) | omega) (And.intro rfl (And.intro rfl (And.intro (by (first | (clear hm hnf; omega) | omega)) (And.intro (by (first | (clear hm hnf; omega) | omega)) (Exists.intro ng (And.intro (by first | exact qtm hm hnf (by (try clear hm hnf); omega) | omega) hT)))))))
          · replace hT := (if_pos h15).symm.trans hT
            exact hK _ (by (first | (clear hm hnf; omega) | omega)) (by (first | (clear hm hnf; omega) | omega)) (by first | omega | (subst_vars; omega)) hT
  · exact Exists.intro (48 - 0 : Int).toNat (And.intro rfl (And.intro rfl (And.intro (by (first | (clear hm hnf; omega) | omega)) (And.intro (by (first | (clear hm hnf; omega) | omega)) (Exists.intro 100000 (And.intro (by (first | (clear hm hnf; omega) | omega)) hT))))))
theorem pM_firstGoing {A : qA} (hA : qokA LM A) (p0 : iva IM A) (p1 : ivf JM A) : ((-1) ≤ (fM_firstGoing A) ∧ (fM_firstGoing A) ≤ 47) ∧ ((fM_firstGoing A) < 0 ∨ A 1 (fM_firstGoing A) ≠ 0) := by
  obtain ⟨r, B, hB, _, hk⟩ := okM_ex okM_firstGoing (as := [rf 0]) (K := fun _ B => B = A ∧ ((-1) ≤ (fM_firstGoing A) ∧ (fM_firstGoing A) ≤ 47) ∧ ((fM_firstGoing A) < 0 ∨ A 1 (fM_firstGoing A) ≠ 0)) hA (qoks_c (show qok (rf _) from trivial) qoks_n) ⟨rfl, ⟨p0, p1⟩, fun r9 g8 g9 x0 x1 => (by rw [← x1]; exact ⟨rfl, ⟨g8, g9⟩, x0⟩)⟩
  exact hk.2
def fM_tears (c l t : Int) (A : qA) : qA := (if 0 ≤ c ∧ c ≤ 47 then qlet (qm c 6) fun v5 => (if v5 = l then qlet (A 1 c) fun v9 => (if v9 = 0 then A else qlet (A 3 c) fun v13 => qlet (v13 - t) fun v15 => qlet (fM_more 0 (wI v15) A) fun r18 => qlet (qu A 3 c r18) fun A22 => A22) else A) else A)
def sM_tears : qS := fun as A K => ∃ c l t : Int, as = [rf 0, ni c, ni l, ni t] ∧ (iva IM A ∧ ivf JM A ∧ (-6) ≤ c ∧ c ≤ 53) ∧ (∀ A' : qA, iva IM A' → ivf JM A' → frm [3] [] A A' → (A' = fM_tears c l t A) → K none A')
theorem okM_tears : okM LM 2 205 sM_tears := by
  refine qmeth [] true [(145, sM_in), (147, sM_more)] 34 rfl ⟨okM_in.le (by decide), ⟨okM_more.le (by decide), trivial⟩⟩ ?_
  rintro _ A K hA has ⟨c, l, t, rfl, ⟨i0, j0, p1, p2⟩, hK⟩
  have rg_c : rng c := has (ni c) (by simp)
  have rg_l : rng l := has (ni l) (by simp)
  have rg_t : rng t := has (ni t) (by simp)
  have f0 := frm_0 [3] [] A
  have hT : _ = fM_tears c l t A := (fM_tears.eq_1 c l t A).symm
  refine ⟨Nat.le_of_ble_eq_true rfl, [], trivial, ?_⟩
  refine Exists.intro c (Exists.intro 0 (Exists.intro 47 (And.intro rfl (And.intro (fun h3 => ?_) (fun h3 => ?_)))))
  · replace hT := (if_pos h3).symm.trans hT
    refine And.intro (fun h4 => by exfalso; omega) (fun h4 => ?_)
    refine And.intro (by (first | (clear hm hnf; omega) | omega)) (fun v5 e6 => ?_)
    replace hT := qlc e6 hT
    have h7 := qm_nn (a := c) (b := 6) (by (first | (clear hm hnf; omega) | omega))
    refine And.intro (fun h8 => ?_) (fun h8 => ?_)
    · replace hT := (if_neg h8).symm.trans hT
      exact hK _ i0 j0 f0 hT
    · replace hT := (if_pos h8).symm.trans hT
      refine And.intro (by (first | (clear hm hnf; omega) | omega)) (fun v9 gv9 e10 => ?_)
      replace hT := qlc e10 hT
      have b11 := iva_at i0 0 rfl (i := c) (by (first | (clear hm hnf; omega) | omega)) (by (first | (clear hm hnf; omega) | omega))
      refine And.intro (fun h12 => ?_) (fun h12 => ?_)
      · replace hT := (if_pos h12).symm.trans hT
        exact hK _ i0 j0 f0 hT
      · replace hT := (if_neg h12).symm.trans hT
        refine And.intro (by (first | (clear hm hnf; omega) | omega)) (fun v13 gv13 e14 => ?_)
        replace hT := qlc e14 hT
        refine fun v15 e16 => ?_
        replace hT := qlc e16 hT
        have w17 := wI_rng v15
        refine Exists.intro 0 (Exists.intro (wI v15) (And.intro rfl (fun r18 g21 g19 g20 => ?_)))
        replace hT := qlc g20 hT
        clear g20
        refine And.intro (by (first | (clear hm hnf; omega) | omega)) (fun A22 e23 => ?_)
        replace hT := qlc e23 hT
        have i24 := iva_st i0 e23 trivial
        have j25 := ivf_sa j0 e23 rfl
        have f26 := frm_s f0 e23 rfl
        exact hK _ i24 j25 f26 hT
  · replace hT := (if_neg h3).symm.trans hT
    refine And.intro (fun h27 => ?_) (fun h27 => by exfalso; omega)
    exact hK _ i0 j0 f0 hT
theorem pM_tears {c l t : Int} {A : qA} (hA : qokA LM A) (rg_l : rng l) (rg_t : rng t) (p0 : iva IM A) (p1 : ivf JM A) (p2 : (-6) ≤ c) (p3 : c ≤ 53) : qokA LM (fM_tears c l t A) ∧ iva IM (fM_tears c l t A) ∧ ivf JM (fM_tears c l t A) ∧ frm [3] [] A (fM_tears c l t A) := by
  obtain ⟨r, B, hB, _, hk⟩ := okM_ex okM_tears (as := [rf 0, ni c, ni l, ni t]) (K := fun _ B => B = (fM_tears c l t A) ∧ iva IM (fM_tears c l t A) ∧ ivf JM (fM_tears c l t A) ∧ frm [3] [] A (fM_tears c l t A)) hA (qoks_c (show qok (rf _) from trivial) (qoks_c (show rng c from ⟨by (first | (clear hm hnf; omega) | omega), by (first | (clear hm hnf; omega) | omega)⟩) (qoks_c (rg_l) (qoks_c (rg_t) qoks_n)))) ⟨c, l, t, rfl, ⟨p0, p1, p2, p3⟩, fun A9 i9 j9 f9 x0 => (by rw [← x0]; exact ⟨rfl, i9, j9, f9⟩)⟩
  exact ⟨hk.1 ▸ hB, hk.2⟩
def sM_isFall : qS := fun as A K => ∃ i : Int, as = [rf 0, ni i] ∧ (iva IM A ∧ ivf JM A) ∧ ((0 ≤ i ∧ i ≤ 59 ∧ i < A 0 (fd 2) → K (some (ni 1)) A) ∧ (¬ (0 ≤ i ∧ i ≤ 59 ∧ i < A 0 (fd 2)) → K (some (ni 0)) A))
theorem okM_isFall : okM LM 1 210 sM_isFall := by
  refine qmeth [] false [] 16 rfl trivial ?_
  rintro _ A K hA has ⟨i, rfl, ⟨i0, j0⟩, hK⟩
  have rg_i : rng i := has (ni i) (by simp)
  have f0 := frm_0 [] [] A
  refine ⟨Nat.le_of_ble_eq_true rfl, [], trivial, ?_⟩
  refine And.intro (fun h1 => ?_) (fun h1 => ?_)
  · exact And.intro (by (first | (clear hm hnf; omega) | omega)) (hK.2 (by first | omega | (subst_vars; omega) | (simp_all; done) | (simp_all; omega)))
  · refine fun v2 gv2 e3 => ?_
    have b4 := ivf_at j0 0 rfl
    refine And.intro (fun h5 => ?_) (fun h5 => ?_)
    · exact And.intro (by (first | (clear hm hnf; omega) | omega)) (hK.2 (by first | omega | (subst_vars; omega) | (simp_all; done) | (simp_all; omega)))
    · exact And.intro (by (first | (clear hm hnf; omega) | omega)) (hK.1 (by first | omega | (subst_vars; omega) | (simp_all; done) | (simp_all; omega)))
def fM_fallIs (i w : Int) (A : qA) : Int := (if 0 ≤ i ∧ i ≤ 59 ∧ i < A 0 (fd 2) then (if w = 0 then qlet (A 38 i) fun v4 => qlet (qd v4 6) fun v7 => v7 else (if w = 1 then qlet (A 38 i) fun v10 => qlet (qm v10 6) fun v13 => v13 else (if w = 2 then qlet (A 39 i) fun v16 => v16 else (if w = 3 then qlet (A 40 i) fun v19 => v19 else (if w = 4 then qlet (A 41 i) fun v21 => v21 else (if w = 5 then qlet (A 42 i) fun v24 => v24 else (if w = 6 then qlet (A 43 i) fun v27 => v27 else (-1000)))))))) else (-1000))
def sM_fallIs : qS := fun as A K => ∃ i w : Int, as = [rf 0, ni i, ni w] ∧ (iva IM A ∧ ivf JM A) ∧ (∀ r : Int, rng r → (r = fM_fallIs i w A) → K (some (ni r)) A)
theorem okM_fallIs : okM LM 2 211 sM_fallIs := by
  refine qmeth [] false [(210, sM_isFall)] 55 rfl ⟨okM_isFall.le (by decide), trivial⟩ ?_
  rintro _ A K hA has ⟨i, w, rfl, ⟨i0, j0⟩, hK⟩
  have rg_i : rng i := has (ni i) (by simp)
  have rg_w : rng w := has (ni w) (by simp)
  have f0 := frm_0 [] [] A
  have hT : _ = fM_fallIs i w A := (fM_fallIs.eq_1 i w A).symm
  refine ⟨Nat.le_of_ble_eq_true rfl, [], trivial, ?_⟩
  refine Exists.intro i (And.intro rfl (And.intro (And.intro i0 j0) (And.intro (fun h1 => ?_) (fun h1 => ?_))))
  · replace hT := (if_pos h1).symm.trans hT
    refine And.intro (fun h2 => ?_) (fun h2 => by exfalso; omega)
    refine (And.intro (fun h3 => ?_) (And.intro (fun h3 => ?_) (And.intro (fun h3 => ?_) (And.intro (fun h3 => ?_) (And.intro (fun h3 => ?_) (And.intro (fun h3 => ?_) (And.intro (fun h3 => ?_) (And.intro (fun h3 => ?_) trivial))))))))
    · replace hT := (if_neg (show ¬ (w = 0) by (first | (clear hm hnf; omega) | omega))).symm.trans hT
      replace hT := (if_neg (show ¬ (w = 1) by (first | (clear hm hnf; omega) | omega))).symm.trans hT
      replace hT := (if_neg (show ¬ (w = 2) by (first | (clear hm hnf; omega) | omega))).symm.trans hT
      replace hT := (if_neg (show ¬ (w = 3) by (first | (clear hm hnf; omega) | omega))).symm.trans hT
      replace hT := (if_neg (show ¬ (w = 4) by (first | (clear hm hnf; omega) | omega))).symm.trans hT
      replace hT := (if_neg (show ¬ (w = 5) by (first | (clear hm hnf; omega) | omega))).symm.trans hT
      replace hT := (if_neg (show ¬ (w = 6) by (first | (clear hm hnf; omega) | omega))).symm.trans hT
      exact hK _ (by first | assumption | exact ⟨by (first | (clear hm hnf; omega) | omega), by (first | (clear hm hnf; omega) | omega)⟩ | exact wI_rng _ | exact i_rng _ | (subst_vars; exact i_rng _) | exact (hA _ _).2 rfl) hT
    · replace hT := (if_pos (show w = 0 by (first | (clear hm hnf; omega) | omega))).symm.trans hT
      refine And.intro (by (first | (clear hm hnf; omega) | omega)) (fun v4 gv4 e5 => ?_)
      replace hT := qlc e5 hT
      have b6 := iva_at i0 14 rfl (i := i) (by (first | (clear hm hnf; omega) | omega)) (by (first | (clear hm hnf; omega) | omega))
      refine And.intro (by (first | (clear hm hnf; omega) | omega)) (fun v7 e8 => ?_)
      replace hT := qlc e8 hT
      have h9 := qd_nn (a := v4) (b := 6) (by (first | (clear hm hnf; omega) | omega))
      exact And.intro (by (first | (clear hm hnf; omega) | omega)) (hK _ (by first | assumption | exact ⟨by (first | (clear hm hnf; omega) | omega), by (first | (clear hm hnf; omega) | omega)⟩ | exact wI_rng _ | exact i_rng _ | (subst_vars; exact i_rng _) | exact (hA _ _).2 rfl) hT)
    · replace hT := (if_neg (show ¬ (w = 0) by (first | (clear hm hnf; omega) | omega))).symm.trans hT
      replace hT := (if_pos (show w = 1 by (first | (clear hm hnf; omega) | omega))).symm.trans hT
      refine And.intro (by (first | (clear hm hnf; omega) | omega)) (fun v10 gv10 e11 => ?_)
      replace hT := qlc e11 hT
      have b12 := iva_at i0 14 rfl (i := i) (by (first | (clear hm hnf; omega) | omega)) (by (first | (clear hm hnf; omega) | omega))
      refine And.intro (by (first | (clear hm hnf; omega) | omega)) (fun v13 e14 => ?_)
      replace hT := qlc e14 hT
      have h15 := qm_nn (a := v10) (b := 6) (by (first | (clear hm hnf; omega) | omega))
      exact hK _ (by first | assumption | exact ⟨by (first | (clear hm hnf; omega) | omega), by (first | (clear hm hnf; omega) | omega)⟩ | exact wI_rng _ | exact i_rng _ | (subst_vars; exact i_rng _) | exact (hA _ _).2 rfl) hT
    · replace hT := (if_neg (show ¬ (w = 0) by (first | (clear hm hnf; omega) | omega))).symm.trans hT
      replace hT := (if_neg (show ¬ (w = 1) by (first | (clear hm hnf; omega) | omega))).symm.trans hT
      replace hT := (if_pos (show w = 2 by (first | (clear hm hnf; omega) | omega))).symm.trans hT
      refine And.intro (by (first | (clear hm hnf; omega) | omega)) (fun v16 gv16 e17 => ?_)
      replace hT := qlc e17 hT
      have b18 := iva_at i0 15 rfl (i := i) (by (first | (clear hm hnf; omega) | omega)) (by (first | (clear hm hnf; omega) | omega))
      exact hK _ (by first | assumption | exact ⟨by (first | (clear hm hnf; omega) | omega), by (first | (clear hm hnf; omega) | omega)⟩ | exact wI_rng _ | exact i_rng _ | (subst_vars; exact i_rng _) | exact (hA _ _).2 rfl) hT
    · replace hT := (if_neg (show ¬ (w = 0) by (first | (clear hm hnf; omega) | omega))).symm.trans hT
      replace hT := (if_neg (show ¬ (w = 1) by (first | (clear hm hnf; omega) | omega))).symm.trans hT
      replace hT := (if_neg (show ¬ (w = 2) by (first | (clear hm hnf; omega) | omega))).symm.trans hT
      replace hT := (if_pos (show w = 3 by (first | (clear hm hnf; omega) | omega))).symm.trans hT
      refine And.intro (by (first | (clear hm hnf; omega) | omega)) (fun v19 gv19 e20 => ?_)
      replace hT := qlc e20 hT
      exact hK _ (by first | assumption | exact ⟨by (first | (clear hm hnf; omega) | omega), by (first | (clear hm hnf; omega) | omega)⟩ | exact wI_rng _ | exact i_rng _ | (subst_vars; exact i_rng _) | exact (hA _ _).2 rfl) hT
    · replace hT := (if_neg (show ¬ (w = 0) by (first | (clear hm hnf; omega) | omega))).symm.trans hT
      replace hT := (if_neg (show ¬ (w = 1) by (first | (clear hm hnf; omega) | omega))).symm.trans hT
      replace hT := (if_neg (show ¬ (w = 2) by (first | (clear hm hnf; omega) | omega))).symm.trans hT
      replace hT := (if_neg (show ¬ (w = 3) by (first | (clear hm hnf; omega) | omega))).symm.trans hT
      replace hT := (if_pos (show w = 4 by (first | (clear hm hnf; omega) | omega))).symm.trans hT
      refine And.intro (by (first | (clear hm hnf; omega) | omega)) (fun v21 gv21 e22 => ?_)
      replace hT := qlc e22 hT
      have b23 := iva_at i0 16 rfl (i := i) (by (first | (clear hm hnf; omega) | omega)) (by (first | (clear hm hnf; omega) | omega))
      exact hK _ (by first | assumption | exact ⟨by (first | (clear hm hnf; omega) | omega), by (first | (clear hm hnf; omega) | omega)⟩ | exact wI_rng _ | exact i_rng _ | (subst_vars; exact i_rng _) | exact (hA _ _).2 rfl) hT
    · replace hT := (if_neg (show ¬ (w = 0) by (first | (clear hm hnf; omega) | omega))).symm.trans hT
      replace hT := (if_neg (show ¬ (w = 1) by (first | (clear hm hnf; omega) | omega))).symm.trans hT
      replace hT := (if_neg (show ¬ (w = 2) by (first | (clear hm hnf; omega) | omega))).symm.trans hT
      replace hT := (if_neg (show ¬ (w = 3) by (first | (clear hm hnf; omega) | omega))).symm.trans hT
      replace hT := (if_neg (show ¬ (w = 4) by (first | (clear hm hnf; omega) | omega))).symm.trans hT
      replace hT := (if_pos (show w = 5 by (first | (clear hm hnf; omega) | omega))).symm.trans hT
      refine And.intro (by (first | (clear hm hnf; omega) | omega)) (fun v24 gv24 e25 => ?_)
      replace hT := qlc e25 hT
      have b26 := iva_at i0 17 rfl (i := i) (by (first | (clear hm hnf; omega) | omega)) (by (first | (clear hm hnf; omega) | omega))
      exact hK _ (by first | assumption | exact ⟨by (first | (clear hm hnf; omega) | omega), by (first | (clear hm hnf; omega) | omega)⟩ | exact wI_rng _ | exact i_rng _ | (subst_vars; exact i_rng _) | exact (hA _ _).2 rfl) hT
    · replace hT := (if_neg (show ¬ (w = 0) by (first | (clear hm hnf; omega) | omega))).symm.trans hT
      replace hT := (if_neg (show ¬ (w = 1) by (first | (clear hm hnf; omega) | omega))).symm.trans hT
      replace hT := (if_neg (show ¬ (w = 2) by (first | (clear hm hnf; omega) | omega))).symm.trans hT
      replace hT := (if_neg (show ¬ (w = 3) by (first | (clear hm hnf; omega) | omega))).symm.trans hT
      replace hT := (if_neg (show ¬ (w = 4) by (first | (clear hm hnf; omega) | omega))).symm.trans hT
      replace hT := (if_neg (show ¬ (w = 5) by (first | (clear hm hnf; omega) | omega))).symm.trans hT
      replace hT := (if_pos (show w = 6 by (first | (clear hm hnf; omega) | omega))).symm.trans hT
      refine And.intro (by (first | (clear hm hnf; omega) | omega)) (fun v27 gv27 e28 => ?_)
      replace hT := qlc e28 hT
      exact hK _ (by first | assumption | exact ⟨by (first | (clear hm hnf; omega) | omega), by (first | (clear hm hnf; omega) | omega)⟩ | exact wI_rng _ | exact i_rng _ | (subst_vars; exact i_rng _) | exact (hA _ _).2 rfl) hT
  · replace hT := (if_neg h1).symm.trans hT
    refine And.intro (fun h29 => by exfalso; omega) (fun h29 => ?_)
    exact hK _ (by first | assumption | exact ⟨by (first | (clear hm hnf; omega) | omega), by (first | (clear hm hnf; omega) | omega)⟩ | exact wI_rng _ | exact i_rng _ | (subst_vars; exact i_rng _) | exact (hA _ _).2 rfl) hT
theorem pM_fallIs {i w : Int} {A : qA} (hA : qokA LM A) (rg_i : rng i) (rg_w : rng w) (p0 : iva IM A) (p1 : ivf JM A) : rng (fM_fallIs i w A) := by
  obtain ⟨r, B, hB, _, hk⟩ := okM_ex okM_fallIs (as := [rf 0, ni i, ni w]) (K := fun _ B => B = A ∧ rng (fM_fallIs i w A)) hA (qoks_c (show qok (rf _) from trivial) (qoks_c (rg_i) (qoks_c (rg_w) qoks_n))) ⟨i, w, rfl, ⟨p0, p1⟩, fun r9 g9 x0 => (by rw [← x0]; exact ⟨rfl, g9⟩)⟩
  exact hk.2
def fM_claimer_c6 (rec : Nat → List Int → qA → Int × qA) (l1 l2 w y k : Int) (B : qA) : Int × qA := (if k < 8 then qlet (sr l2 k) fun v5 => qlet (ia v5 1) fun v7 => (if v7 = 0 then qlet (k + 1) fun v65 => rec 6 [l1, l2, w, y, v65] B else qlet (B 38 l1) fun v11 => qlet (B 41 l1) fun v14 => qlet (B 38 l1) fun v17 => qlet (qm v11 6) fun v21 => qlet (v14 - v21) fun v24 => qlet (fM_feelsCell v11 v24 k B) fun A26 => qlet (A26 39 l1) fun v32 => qlet (A26 40 l1) fun v35 => qlet (A26 45 l1) fun v37 => qlet (A26 46 l1) fun v40 => qlet (fM_feelsCrop v32 v35 v37 v40 A26) fun A43 => qlp (fM_told 113 1000 A43) fun r53 A49 => (if y < r53 then qlet (k + 1) fun v61 => rec 6 [l1, l2, k, r53, v61] A49 else qlet (k + 1) fun v63 => rec 6 [l1, l2, w, y, v63] A49)) else (w, B))
def fM_claimer_L : Nat → Nat → List Int → qA → Int × qA
  | 0 => fun _ _ B => (0, B)
  | nF + 1 => fun k zs B => bif Nat.beq k 6 then (match zs with | [l1, l2, w, y, k] => fM_claimer_c6 (fM_claimer_L nF) l1 l2 w y k B | _ => (0, B)) else (0, B)
theorem fM_claimer_L6 (nF : Nat) (l1 l2 w y k : Int) (B : qA) : fM_claimer_L (nF + 1) 6 [l1, l2, w, y, k] B = fM_claimer_c6 (fM_claimer_L nF) l1 l2 w y k B := (congrFun (congrFun (congrFun (fM_claimer_L.eq_2 nF) 6) [l1, l2, w, y, k]) B).trans (qL1 rfl rfl)
def fM_claimer (i p : Int) (A : qA) : Int × qA := (fM_claimer_L 100000) 6 [i, p, (-2), 0, 0] A
def sM_claimer : qS := fun as A K => ∃ i p : Int, as = [rf 0, ni i, ni p] ∧ (iva IM A ∧ ivf JM A ∧ 0 ≤ i ∧ i ≤ 59 ∧ (WF A)) ∧ (∀ A' : qA, iva IM A' → ivf JM A' → frm [34, 35] [] A A' → ∀ r : Int, (-2) ≤ r → r ≤ 7 → (r ≠ -1) → (r = (fM_claimer i p A).1) → (A' = (fM_claimer i p A).2) → K (some (ni r)) A')
theorem okM_claimer : okM LM 4 212 sM_claimer := by
  refine qmeth [] false [(187, sM_feelsCell), (188, sM_feelsCrop), (186, sM_told)] 75 rfl ⟨okM_feelsCell.le (by decide), ⟨okM_feelsCrop.le (by decide), ⟨okM_told.le (by decide), trivial⟩⟩⟩ ?_
  rintro _ A K hA has ⟨i, p, rfl, ⟨i0, j0, p1, p2, p3⟩, hK⟩
  have rg_i : rng i := has (ni i) (by simp)
  have rg_p : rng p := has (ni p) (by simp)
  have f0 := frm_0 [34, 35] [] A
  have hT : _ = fM_claimer i p A := (fM_claimer.eq_1 i p A).symm
  refine ⟨Nat.le_of_ble_eq_true rfl, [(6, [(0, 2, 0), (1, 0, 0), (2, 0, 0), (3, 0, 0), (4, 0, 0), (5, 0, 0)], fun zs B nn => match zs with | [l1, l2, w, y, k] => iva IM B ∧ ivf JM B ∧ frm [34, 35] [] A B ∧ nn = (8 - k : Int).toNat ∧ (l1 = i) ∧ (l2 = p) ∧ (0 ≤ k) ∧ (k ≤ 8) ∧ (0 ≤ y) ∧ (y ≤ 1000) ∧ ((-2) ≤ w) ∧ (w ≤ 7) ∧ (w ≠ -1) ∧ (∃ nf : Nat, nn < nf ∧ fM_claimer_L nf 6 [l1, l2, w, y, k] B = fM_claimer i p A) | _ => False)], ?_, ?_⟩
  · refine ⟨⟨rfl, ?_⟩, trivial⟩
    · refine fun l1 l2 w y k B mm hB hz hI => ?_
      obtain ⟨i1, j1, f1, hm, c0, c1, c2, c3, c4, c5, c6, c7, c8, ⟨nf, hnf, hT⟩⟩ := hI
      obtain ⟨hz_l1, hz_l2, hz_w, hz_y, hz_k, _⟩ := hz
      obtain ⟨ng, rfl⟩ : ∃ k, nf = k + 1 := ⟨nf - 1, by omega⟩
      replace hT := (fM_claimer_c6.eq_1 (fM_claimer_L ng) l1 l2 w y k B).symm.trans ((fM_claimer_L6 ng l1 l2 w y k B).symm.trans hT)
      refine And.intro (fun h4 => ?_) (fun h4 => ?_)
      · replace hT := (if_neg (Int.not_lt.mpr h4)).symm.trans hT
        exact hK _ i1 j1 f1 _ (by (first | (clear hm hnf; omega) | omega)) (by (first | (clear hm hnf; omega) | omega)) (by first | assumption | omega | simp_all) (congrArg Prod.fst hT) (congrArg Prod.snd hT)
      · replace hT := (if_pos h4).symm.trans hT
        refine fun v5 e6 => ?_
        replace hT := qlc e6 hT
        refine fun v7 e8 => ?_
        replace hT := qlc e8 hT
        have h9 := ia_bd (a := v5) (b := 1) (by (first | (clear hm hnf; omega) | omega)) (by (first | (clear hm hnf; omega) | omega))
        refine And.intro (fun h10 => ?_) (fun h10 => ?_)
        · replace hT := (if_neg h10).symm.trans hT
          refine And.intro (by (first | (clear hm hnf; omega) | omega)) (fun v11 gv11 e12 => ?_)
          replace hT := qlc e12 hT
          have b13 := iva_at i1 14 rfl (i := l1) (by (first | (clear hm hnf; omega) | omega)) (by (first | (clear hm hnf; omega) | omega))
          refine And.intro (by (first | (clear hm hnf; omega) | omega)) (fun v14 gv14 e15 => ?_)
          replace hT := qlc e15 hT
          have b16 := iva_at i1 16 rfl (i := l1) (by (first | (clear hm hnf; omega) | omega)) (by (first | (clear hm hnf; omega) | omega))
          refine And.intro (by (first | (clear hm hnf; omega) | omega)) (fun v17 gv17 e18 => ?_)
          replace hT := qlc e18 hT
          have b19 := iva_at i1 14 rfl (i := l1) (by (first | (clear hm hnf; omega) | omega)) (by (first | (clear hm hnf; omega) | omega))
          have q20 : v11 = v17 := (e18.trans e12.symm).symm
          subst q20
          refine And.intro (by (first | (clear hm hnf; omega) | omega)) (fun v21 e22 => ?_)
          replace hT := qlc e22 hT
          have h23 := qm_nn (a := v11) (b := 6) (by (first | (clear hm hnf; omega) | omega))
          refine fun v24 e25 => ?_
          replace hT := qlc e25 hT
          refine And.intro (by (first | (clear hm hnf; omega) | omega)) (Exists.intro v11 (Exists.intro v24 (Exists.intro k (And.intro rfl (And.intro (And.intro i1 (And.intro j1 (And.intro (by (first | (clear hm hnf; omega) | omega)) (by (first | (clear hm hnf; omega) | omega))))) (fun A26 i27 j28 f29 g30 => ?_))))))
          replace hT := qlc g30 hT
          have f31 := frm_c f1 f29 rfl
          refine And.intro (by (first | (clear hm hnf; omega) | omega)) (fun v32 gv32 e33 => ?_)
          replace hT := qlc e33 hT
          have b34 := iva_at i27 15 rfl (i := l1) (by (first | (clear hm hnf; omega) | omega)) (by (first | (clear hm hnf; omega) | omega))
          refine And.intro (by (first | (clear hm hnf; omega) | omega)) (fun v35 gv35 e36 => ?_)
          replace hT := qlc e36 hT
          refine And.intro (by (first | (clear hm hnf; omega) | omega)) (fun v37 gv37 e38 => ?_)
          replace hT := qlc e38 hT
          have b39 := iva_at i27 18 rfl (i := l1) (by (first | (clear hm hnf; omega) | omega)) (by (first | (clear hm hnf; omega) | omega))
          refine And.intro (by (first | (clear hm hnf; omega) | omega)) (fun v40 gv40 e41 => ?_)
          replace hT := qlc e41 hT
          have b42 := iva_at i27 19 rfl (i := l1) (by (first | (clear hm hnf; omega) | omega)) (by (first | (clear hm hnf; omega) | omega))
          refine Exists.intro v32 (Exists.intro v35 (Exists.intro v37 (Exists.intro v40 (And.intro rfl (And.intro (And.intro i27 (And.intro j28 (And.intro (by (first | (clear hm hnf; omega) | omega)) (And.intro (by (first | (clear hm hnf; omega) | omega)) (And.intro (by (first | (clear hm hnf; omega) | omega)) (by (first | (clear hm hnf; omega) | omega))))))) (fun A43 i44 j45 f46 g47 => ?_))))))
          replace hT := qlc g47 hT
          have f48 := frm_c f31 f46 rfl
          refine Exists.intro 113 (Exists.intro 1000 (And.intro rfl (And.intro (And.intro i44 (And.intro j45 (And.intro (by (first | (clear hm hnf; omega) | omega)) (And.intro (by (first | (clear hm hnf; omega) | omega)) (WF_fr p3 f48 rfl))))) (fun A49 i50 j51 f52 r53 g57 g58 g54 g55 g56 => ?_))))
          replace hT := qlpc g55 g56 hT
          clear g55 g56
          have f59 := frm_c f48 f52 rfl
          refine And.intro (fun h60 => ?_) (fun h60 => ?_)
          · replace hT := (if_pos h60).symm.trans hT
            refine fun v61 e62 => ?_
            replace hT := qlc e62 hT
            exact And.intro (by (first | (clear hm hnf; omega) | omega)) (Exists.intro (8 - v61 : Int).toNat (And.intro (by first | exact qtn hm (by (try clear hm hnf); omega) | omega) (And.intro i50 (And.intro j51 (And.intro f59 (And.intro rfl (And.intro (by (first | (clear hm hnf; omega) | omega)) (And.intro (by (first | (clear hm hnf; omega) | omega)) (And.intro (by (first | (clear hm hnf; omega) | omega)) (And.intro (by (first | (clear hm hnf; omega) | omega)) (And.intro (by (first | (clear hm hnf; omega) | omega)) (And.intro (by (first | (clear hm hnf; omega) | omega)) (And.intro (by (first | (clear hm hnf; omega) | omega)) (And.intro (by (first | (clear hm hnf; omega) | omega)) (And.intro (by (first | (clear hm hnf; omega) | omega)) (Exists.intro ng (And.intro (by first | exact qtm hm hnf (by (try clear hm hnf); omega) | omega) hT)))))))))))))))))
          · replace hT := (if_neg (Int.not_lt.mpr h60)).symm.trans hT
            refine fun v63 e64 => ?_
            replace hT := qlc e64 hT
            exact And.intro (by (first | (clear hm hnf; omega) | omega)) (Exists.intro (8 - v63 : Int).toNat (And.intro (by first | exact qtn hm (by (try clear hm hnf); omega) | omega) (And.intro i50 (And.intro j51 (And.intro f59 (And.intro rfl (And.intro (by (first | (clear hm hnf; omega) | omega)) (And.intro (by (first | (clear hm hnf; omega) | omega)) (And.intro (by (first | (clear hm hnf; omega) | omega)) (And.intro (by (first | (clear hm hnf; omega) | omega)) (And.intro (by (first | (clear hm hnf; omega) | omega)) (And.intro (by (first | (clear hm hnf; omega) | omega)) (And.intro (by (first | (clear hm hnf; omega) | omega)) (And.intro (by (first | (clear hm hnf; omega) | omega)) (And.intro (by (first | (clear hm hnf; omega) | omega)) (Exists.intro ng (And.intro (by first | exact qtm hm hnf (by (try clear hm hnf); omega) | omega) hT)))))))))))))))))
        · replace hT := (if_pos h10).symm.trans hT
          refine fun v65 e66 => ?_
          replace hT := qlc e66 hT
          exact And.intro (by (first | (clear hm hnf; omega) | omega)) (Exists.intro (8 - v65 : Int).toNat (And.intro (by first | exact qtn hm (by (try clear hm hnf); omega) | omega) (And.intro i1 (And.intro j1 (And.intro f1 (And.intro rfl (And.intro (by (first | (clear hm hnf; omega) | omega)) (And.intro (by (first | (clear hm hnf; omega) | omega)) (And.intro (by (first | (clear hm hnf; omega) | omega)) (And.intro (by (first | (clear hm hnf; omega) | omega)) (And.intro (by (first | (clear hm hnf; omega) | omega)) (And.intro (by (first | (clear hm hnf; omega) | omega)) (And.intro (by (first | (clear hm hnf; omega) | omega)) (And.intro (by (first | (clear hm hnf; omega) | omega)) (And.intro (by (first | (clear hm hnf; omega) | omega)) (Exists.intro ng (And.intro (by first | exact qtm hm hnf (by (try clear hm hnf); omega) | omega) hT)))))))))))))))))
  · exact Exists.intro (8 - 0 : Int).toNat (And.intro i0 (And.intro j0 (And.intro f0 (And.intro rfl (And.intro (by (first | (clear hm hnf; omega) | omega)) (And.intro (by (first | (clear hm hnf; omega) | omega)) (And.intro (by (first | (clear hm hnf; omega) | omega)) (And.intro (by (first | (clear hm hnf; omega) | omega)) (And.intro (by (first | (clear hm hnf; omega) | omega)) (And.intro (by (first | (clear hm hnf; omega) | omega)) (And.intro (by (first | (clear hm hnf; omega) | omega)) (And.intro (by (first | (clear hm hnf; omega) | omega)) (And.intro (by (first | (clear hm hnf; omega) | omega)) (Exists.intro 100000 (And.intro (by (first | (clear hm hnf; omega) | omega)) hT)))))))))))))))
theorem pM_claimer {i p : Int} {A : qA} (hA : qokA LM A) (rg_p : rng p) (p0 : iva IM A) (p1 : ivf JM A) (p2 : 0 ≤ i) (p3 : i ≤ 59) (p4 : WF A) : qokA LM (fM_claimer i p A).2 ∧ iva IM (fM_claimer i p A).2 ∧ ivf JM (fM_claimer i p A).2 ∧ frm [34, 35] [] A (fM_claimer i p A).2 ∧ ((-2) ≤ (fM_claimer i p A).1 ∧ (fM_claimer i p A).1 ≤ 7) ∧ ((fM_claimer i p A).1 ≠ -1) := by
  obtain ⟨r, B, hB, _, hk⟩ := okM_ex okM_claimer (as := [rf 0, ni i, ni p]) (K := fun _ B => B = (fM_claimer i p A).2 ∧ iva IM (fM_claimer i p A).2 ∧ ivf JM (fM_claimer i p A).2 ∧ frm [34, 35] [] A (fM_claimer i p A).2 ∧ ((-2) ≤ (fM_claimer i p A).1 ∧ (fM_claimer i p A).1 ≤ 7) ∧ ((fM_claimer i p A).1 ≠ -1)) hA (qoks_c (show qok (rf _) from trivial) (qoks_c (show rng i from ⟨by (first | (clear hm hnf; omega) | omega), by (first | (clear hm hnf; omega) | omega)⟩) (qoks_c (rg_p) qoks_n))) ⟨i, p, rfl, ⟨p0, p1, p2, p3, p4⟩, fun A9 i9 j9 f9 r9 g8 g9 x0 x1 x2 => (by rw [← x2]; (try rw [← x1]); exact ⟨rfl, i9, j9, f9, ⟨g8, g9⟩, x0⟩)⟩
  exact ⟨hk.1 ▸ hB, hk.2⟩
def fM_claimed (i p : Int) (A : qA) : Int × qA := (if 0 ≤ i ∧ i ≤ 59 ∧ i < A 0 (fd 2) then (if 1 ≤ p ∧ p ≤ 255 then qlp (fM_claimer i p A) fun r10 A6 => (r10, A6) else ((-1), A)) else ((-1), A))
def sM_claimed : qS := fun as A K => ∃ i p : Int, as = [rf 0, ni i, ni p] ∧ (iva IM A ∧ ivf JM A ∧ (WF A)) ∧ (∀ A' : qA, iva IM A' → ivf JM A' → frm [34, 35] [] A A' → ∀ r : Int, (-2) ≤ r → r ≤ 7 → (r = (fM_claimed i p A).1) → (A' = (fM_claimed i p A).2) → K (some (ni r)) A')
theorem okM_claimed : okM LM 5 213 sM_claimed := by
  refine qmeth [] false [(210, sM_isFall), (145, sM_in), (212, sM_claimer)] 22 rfl ⟨okM_isFall.le (by decide), ⟨okM_in.le (by decide), ⟨okM_claimer.le (by decide), trivial⟩⟩⟩ ?_
  rintro _ A K hA has ⟨i, p, rfl, ⟨i0, j0, p1⟩, hK⟩
  have rg_i : rng i := has (ni i) (by simp)
  have rg_p : rng p := has (ni p) (by simp)
  have f0 := frm_0 [34, 35] [] A
  have hT : _ = fM_claimed i p A := (fM_claimed.eq_1 i p A).symm
  refine ⟨Nat.le_of_ble_eq_true rfl, [], trivial, ?_⟩
  refine Exists.intro i (And.intro rfl (And.intro (And.intro i0 j0) (And.intro (fun h2 => ?_) (fun h2 => ?_))))
  · replace hT := (if_pos h2).symm.trans hT
    refine And.intro (fun h3 => by exfalso; omega) (fun h3 => ?_)
    refine Exists.intro p (Exists.intro 1 (Exists.intro 255 (And.intro rfl (And.intro (fun h4 => ?_) (fun h4 => ?_)))))
    · replace hT := (if_pos h4).symm.trans hT
      refine And.intro (fun h5 => by exfalso; omega) (fun h5 => ?_)
      refine Exists.intro i (Exists.intro p (And.intro rfl (And.intro (And.intro i0 (And.intro j0 (And.intro (by (first | (clear hm hnf; omega) | omega)) (And.intro (by (first | (clear hm hnf; omega) | omega)) (WF_fr p1 f0 rfl))))) (fun A6 i7 j8 f9 r10 g14 g15 g11 g12 g13 => ?_))))
      replace hT := qlpc g12 g13 hT
      clear g12 g13
      have f16 := frm_c f0 f9 rfl
      exact hK _ i7 j8 f16 _ (by (first | (clear hm hnf; omega) | omega)) (by (first | (clear hm hnf; omega) | omega)) (congrArg Prod.fst hT) (congrArg Prod.snd hT)
    · replace hT := (if_neg h4).symm.trans hT
      refine And.intro (fun h17 => ?_) (fun h17 => by exfalso; omega)
      exact hK _ i0 j0 f0 _ (by (first | (clear hm hnf; omega) | omega)) (by (first | (clear hm hnf; omega) | omega)) (congrArg Prod.fst hT) (congrArg Prod.snd hT)
  · replace hT := (if_neg h2).symm.trans hT
    refine And.intro (fun h18 => ?_) (fun h18 => by exfalso; omega)
    exact hK _ i0 j0 f0 _ (by (first | (clear hm hnf; omega) | omega)) (by (first | (clear hm hnf; omega) | omega)) (congrArg Prod.fst hT) (congrArg Prod.snd hT)
theorem pM_claimed {i p : Int} {A : qA} (hA : qokA LM A) (rg_i : rng i) (rg_p : rng p) (p0 : iva IM A) (p1 : ivf JM A) (p2 : WF A) : qokA LM (fM_claimed i p A).2 ∧ iva IM (fM_claimed i p A).2 ∧ ivf JM (fM_claimed i p A).2 ∧ frm [34, 35] [] A (fM_claimed i p A).2 ∧ ((-2) ≤ (fM_claimed i p A).1 ∧ (fM_claimed i p A).1 ≤ 7) := by
  obtain ⟨r, B, hB, _, hk⟩ := okM_ex okM_claimed (as := [rf 0, ni i, ni p]) (K := fun _ B => B = (fM_claimed i p A).2 ∧ iva IM (fM_claimed i p A).2 ∧ ivf JM (fM_claimed i p A).2 ∧ frm [34, 35] [] A (fM_claimed i p A).2 ∧ ((-2) ≤ (fM_claimed i p A).1 ∧ (fM_claimed i p A).1 ≤ 7)) hA (qoks_c (show qok (rf _) from trivial) (qoks_c (rg_i) (qoks_c (rg_p) qoks_n))) ⟨i, p, rfl, ⟨p0, p1, p2⟩, fun A9 i9 j9 f9 r9 g8 g9 x0 x1 => (by rw [← x1]; (try rw [← x0]); exact ⟨rfl, i9, j9, f9, ⟨g8, g9⟩⟩)⟩
  exact ⟨hk.1 ▸ hB, hk.2⟩
def fM_right (i p : Int) (A : qA) : Int × qA := (if 0 ≤ i ∧ i ≤ 59 ∧ i < A 0 (fd 2) then (if 1 ≤ p ∧ p ≤ 255 then qlet (A 41 i) fun v7 => (if v7 = 6 then qlp (fM_claimer i p A) fun r15 A11 => (if r15 = (-2) then ((-1), A11) else qlet (A11 42 i) fun v25 => (if r15 = v25 then ((-1), A11) else qlet (A11 42 i) fun v29 => qlet (A11 42 i) fun v33 => qlet (A11 19 v25) fun v37 => qlet (A11 44 i) fun v39 => qlet (v37 - v39) fun v41 => qlet (qu A11 19 v25 (wI v41)) fun A43 => qlet (A43 19 r15) fun v50 => qlet (A43 44 i) fun v52 => qlet (v50 + v39) fun v55 => qlet (qu A43 19 r15 (wI v55)) fun A57 => qlet (qu A57 42 i r15) fun A64 => qlet (A64 44 i) fun v70 => (v39, A64))) else ((-1), A)) else ((-1), A)) else ((-1), A))
def sM_right : qS := fun as A K => ∃ i p : Int, as = [rf 0, ni i, ni p] ∧ (iva IM A ∧ ivf JM A ∧ (WF A) ∧ (LZ A)) ∧ (∀ A' : qA, iva IM A' → ivf JM A' → frm [34, 35, 19, 42] [] A A' → ∀ r : Int, rng r → (LZ A') → (r = (fM_right i p A).1) → (A' = (fM_right i p A).2) → K (some (ni r)) A')
theorem okM_right : okM LM 5 214 sM_right := by
  refine qmeth [] true [(210, sM_isFall), (145, sM_in), (212, sM_claimer)] 81 rfl ⟨okM_isFall.le (by decide), ⟨okM_in.le (by decide), ⟨okM_claimer.le (by decide), trivial⟩⟩⟩ ?_
  rintro _ A K hA has ⟨i, p, rfl, ⟨i0, j0, p1, p2⟩, hK⟩
  have rg_i : rng i := has (ni i) (by simp)
  have rg_p : rng p := has (ni p) (by simp)
  have f0 := frm_0 [34, 35, 19, 42] [] A
  have hT : _ = fM_right i p A := (fM_right.eq_1 i p A).symm
  refine ⟨Nat.le_of_ble_eq_true rfl, [], trivial, ?_⟩
  refine Exists.intro i (And.intro rfl (And.intro (And.intro i0 j0) (And.intro (fun h3 => ?_) (fun h3 => ?_))))
  · replace hT := (if_pos h3).symm.trans hT
    refine And.intro (fun h4 => by exfalso; omega) (fun h4 => ?_)
    refine Exists.intro p (Exists.intro 1 (Exists.intro 255 (And.intro rfl (And.intro (fun h5 => ?_) (fun h5 => ?_)))))
    · replace hT := (if_pos h5).symm.trans hT
      refine And.intro (fun h6 => by exfalso; omega) (fun h6 => ?_)
      refine And.intro (by (first | (clear hm hnf; omega) | omega)) (fun v7 gv7 e8 => ?_)
      replace hT := qlc e8 hT
      have b9 := iva_at i0 16 rfl (i := i) (by (first | (clear hm hnf; omega) | omega)) (by (first | (clear hm hnf; omega) | omega))
      refine And.intro (fun h10 => ?_) (fun h10 => ?_)
      · replace hT := (if_pos h10).symm.trans hT
        refine Exists.intro i (Exists.intro p (And.intro rfl (And.intro (And.intro i0 (And.intro j0 (And.intro (by (first | (clear hm hnf; omega) | omega)) (And.intro (by (first | (clear hm hnf; omega) | omega)) (WF_fr p1 f0 rfl))))) (fun A11 i12 j13 f14 r15 g19 g20 g16 g17 g18 => ?_))))
        replace hT := qlpc g17 g18 hT
        clear g17 g18
        have f21 := frm_c f0 f14 rfl
        have cz23 := LZ_fr p2 f14 rfl
        refine And.intro (fun h24 => ?_) (fun h24 => ?_)
        · replace hT := (if_pos h24).symm.trans hT
          exact hK _ i12 j13 f21 _ (by first | assumption | exact ⟨by (first | (clear hm hnf; omega) | omega), by (first | (clear hm hnf; omega) | omega)⟩ | exact wI_rng _ | exact i_rng _ | (subst_vars; exact i_rng _) | exact (hA _ _).2 rfl) cz23 (congrArg Prod.fst hT) (congrArg Prod.snd hT)
        · replace hT := (if_neg h24).symm.trans hT
          refine And.intro (by (first | (clear hm hnf; omega) | omega)) (fun v25 gv25 e26 => ?_)
          replace hT := qlc e26 hT
          have b27 := iva_at i12 17 rfl (i := i) (by (first | (clear hm hnf; omega) | omega)) (by (first | (clear hm hnf; omega) | omega))
          refine And.intro (fun h28 => ?_) (fun h28 => ?_)
          · replace hT := (if_neg h28).symm.trans hT
            have hz := cz23 i (by (first | (clear hm hnf; omega) | omega)) (by (first | (clear hm hnf; omega) | omega)) (by have q := congrFun (frm_a f14 (r := 41) rfl) i; omega)
            refine And.intro (by (first | (clear hm hnf; omega) | omega)) (fun v29 gv29 e30 => ?_)
            replace hT := qlc e30 hT
            have b31 := iva_at i12 17 rfl (i := i) (by (first | (clear hm hnf; omega) | omega)) (by (first | (clear hm hnf; omega) | omega))
            have q32 : v25 = v29 := (e30.trans e26.symm).symm
            subst q32
            refine And.intro (by (first | (clear hm hnf; omega) | omega)) (fun v33 gv33 e34 => ?_)
            replace hT := qlc e34 hT
            have b35 := iva_at i12 17 rfl (i := i) (by (first | (clear hm hnf; omega) | omega)) (by (first | (clear hm hnf; omega) | omega))
            have q36 : v25 = v33 := (e34.trans e30.symm).symm
            subst q36
            refine And.intro (by (first | (clear hm hnf; omega) | omega)) (fun v37 gv37 e38 => ?_)
            replace hT := qlc e38 hT
            refine And.intro (by (first | (clear hm hnf; omega) | omega)) (fun v39 gv39 e40 => ?_)
            replace hT := qlc e40 hT
            refine fun v41 e42 => ?_
            replace hT := qlc e42 hT
            have w45 := wI_rng v41
            refine And.intro (by (first | (clear hm hnf; omega) | omega)) (fun A43 e44 => ?_)
            replace hT := qlc e44 hT
            have i46 := iva_st i12 e44 trivial
            have j47 := ivf_sa j13 e44 rfl
            have f48 := frm_s f21 e44 rfl
            have cz49 := LZ_k cz23 (st_a e44 rfl) (st_a e44 rfl)
            refine And.intro (by (first | (clear hm hnf; omega) | omega)) (fun v50 gv50 e51 => ?_)
            replace hT := qlc e51 hT
            refine And.intro (by (first | (clear hm hnf; omega) | omega)) (fun v52 gv52 e53 => ?_)
            replace hT := qlc e53 hT
            have q54 : v39 = v52 := (e53.trans ((congrFun (st_a e44 rfl) _).trans e40.symm)).symm
            subst q54
            refine fun v55 e56 => ?_
            replace hT := qlc e56 hT
            have w59 := wI_rng v55
            refine And.intro (by (first | (clear hm hnf; omega) | omega)) (fun A57 e58 => ?_)
            replace hT := qlc e58 hT
            have i60 := iva_st i46 e58 trivial
            have j61 := ivf_sa j47 e58 rfl
            have f62 := frm_s f48 e58 rfl
            have cz63 := LZ_k cz49 (st_a e58 rfl) (st_a e58 rfl)
            refine And.intro (by (first | (clear hm hnf; omega) | omega)) (fun A64 e65 => ?_)
            replace hT := qlc e65 hT
            have i66 := iva_st i60 e65 (And.intro (by (first | (clear hm hnf; omega) | omega)) trivial)
            have j67 := ivf_sa j61 e65 rfl
            have f68 := frm_s f62 e65 rfl
            have cz69 := LZ_w42 cz63 e65 (by (first | (clear hm hnf; omega) | omega))
            refine And.intro (by (first | (clear hm hnf; omega) | omega)) (fun v70 gv70 e71 => ?_)
            replace hT := qlc e71 hT
            have q72 : v39 = v70 := (e71.trans ((congrFun (Eq.trans (st_a e65 rfl) (st_a e58 rfl)) _).trans e53.symm)).symm
            subst q72
            exact hK _ i66 j67 f68 _ (by first | assumption | exact ⟨by (first | (clear hm hnf; omega) | omega), by (first | (clear hm hnf; omega) | omega)⟩ | exact wI_rng _ | exact i_rng _ | (subst_vars; exact i_rng _) | exact (hA _ _).2 rfl) cz69 (congrArg Prod.fst hT) (congrArg Prod.snd hT)
          · replace hT := (if_pos h28).symm.trans hT
            exact hK _ i12 j13 f21 _ (by first | assumption | exact ⟨by (first | (clear hm hnf; omega) | omega), by (first | (clear hm hnf; omega) | omega)⟩ | exact wI_rng _ | exact i_rng _ | (subst_vars; exact i_rng _) | exact (hA _ _).2 rfl) cz23 (congrArg Prod.fst hT) (congrArg Prod.snd hT)
      · replace hT := (if_neg h10).symm.trans hT
        exact hK _ i0 j0 f0 _ (by first | assumption | exact ⟨by (first | (clear hm hnf; omega) | omega), by (first | (clear hm hnf; omega) | omega)⟩ | exact wI_rng _ | exact i_rng _ | (subst_vars; exact i_rng _) | exact (hA _ _).2 rfl) p2 (congrArg Prod.fst hT) (congrArg Prod.snd hT)
    · replace hT := (if_neg h5).symm.trans hT
      refine And.intro (fun h73 => ?_) (fun h73 => by exfalso; omega)
      exact hK _ i0 j0 f0 _ (by first | assumption | exact ⟨by (first | (clear hm hnf; omega) | omega), by (first | (clear hm hnf; omega) | omega)⟩ | exact wI_rng _ | exact i_rng _ | (subst_vars; exact i_rng _) | exact (hA _ _).2 rfl) p2 (congrArg Prod.fst hT) (congrArg Prod.snd hT)
  · replace hT := (if_neg h3).symm.trans hT
    refine And.intro (fun h74 => ?_) (fun h74 => by exfalso; omega)
    exact hK _ i0 j0 f0 _ (by first | assumption | exact ⟨by (first | (clear hm hnf; omega) | omega), by (first | (clear hm hnf; omega) | omega)⟩ | exact wI_rng _ | exact i_rng _ | (subst_vars; exact i_rng _) | exact (hA _ _).2 rfl) p2 (congrArg Prod.fst hT) (congrArg Prod.snd hT)
theorem pM_right {i p : Int} {A : qA} (hA : qokA LM A) (rg_i : rng i) (rg_p : rng p) (p0 : iva IM A) (p1 : ivf JM A) (p2 : WF A) (p3 : LZ A) : qokA LM (fM_right i p A).2 ∧ iva IM (fM_right i p A).2 ∧ ivf JM (fM_right i p A).2 ∧ frm [34, 35, 19, 42] [] A (fM_right i p A).2 ∧ rng (fM_right i p A).1 ∧ (LZ (fM_right i p A).2) := by
  obtain ⟨r, B, hB, _, hk⟩ := okM_ex okM_right (as := [rf 0, ni i, ni p]) (K := fun _ B => B = (fM_right i p A).2 ∧ iva IM (fM_right i p A).2 ∧ ivf JM (fM_right i p A).2 ∧ frm [34, 35, 19, 42] [] A (fM_right i p A).2 ∧ rng (fM_right i p A).1 ∧ (LZ (fM_right i p A).2)) hA (qoks_c (show qok (rf _) from trivial) (qoks_c (rg_i) (qoks_c (rg_p) qoks_n))) ⟨i, p, rfl, ⟨p0, p1, p2, p3⟩, fun A9 i9 j9 f9 r9 g9 x0 x1 x2 => (by rw [← x2]; (try rw [← x1]); exact ⟨rfl, i9, j9, f9, g9, x0⟩)⟩
  exact ⟨hk.1 ▸ hB, hk.2⟩
def fM_food (p : Int) (A : qA) : Int := (if 0 ≤ p ∧ p ≤ 7 then qlet (A 19 p) fun v3 => v3 else (-1))
def sM_food : qS := fun as A K => ∃ p : Int, as = [rf 0, ni p] ∧ (iva IM A ∧ ivf JM A) ∧ (∀ r : Int, rng r → (r = fM_food p A) → K (some (ni r)) A)
theorem okM_food : okM LM 2 215 sM_food := by
  refine qmeth [] false [(145, sM_in)] 18 rfl ⟨okM_in.le (by decide), trivial⟩ ?_
  rintro _ A K hA has ⟨p, rfl, ⟨i0, j0⟩, hK⟩
  have rg_p : rng p := has (ni p) (by simp)
  have f0 := frm_0 [] [] A
  have hT : _ = fM_food p A := (fM_food.eq_1 p A).symm
  refine ⟨Nat.le_of_ble_eq_true rfl, [], trivial, ?_⟩
  refine Exists.intro p (Exists.intro 0 (Exists.intro 7 (And.intro rfl (And.intro (fun h1 => ?_) (fun h1 => ?_)))))
  · replace hT := (if_pos h1).symm.trans hT
    refine And.intro (fun h2 => by exfalso; omega) (fun h2 => ?_)
    refine And.intro (by (first | (clear hm hnf; omega) | omega)) (fun v3 gv3 e4 => ?_)
    replace hT := qlc e4 hT
    exact hK _ (by first | assumption | exact ⟨by (first | (clear hm hnf; omega) | omega), by (first | (clear hm hnf; omega) | omega)⟩ | exact wI_rng _ | exact i_rng _ | (subst_vars; exact i_rng _) | exact (hA _ _).2 rfl) hT
  · replace hT := (if_neg h1).symm.trans hT
    refine And.intro (fun h5 => ?_) (fun h5 => by exfalso; omega)
    exact hK _ (by first | assumption | exact ⟨by (first | (clear hm hnf; omega) | omega), by (first | (clear hm hnf; omega) | omega)⟩ | exact wI_rng _ | exact i_rng _ | (subst_vars; exact i_rng _) | exact (hA _ _).2 rfl) hT
theorem pM_food {p : Int} {A : qA} (hA : qokA LM A) (rg_p : rng p) (p0 : iva IM A) (p1 : ivf JM A) : rng (fM_food p A) := by
  obtain ⟨r, B, hB, _, hk⟩ := okM_ex okM_food (as := [rf 0, ni p]) (K := fun _ B => B = A ∧ rng (fM_food p A)) hA (qoks_c (show qok (rf _) from trivial) (qoks_c (rg_p) qoks_n)) ⟨p, rfl, ⟨p0, p1⟩, fun r9 g9 x0 => (by rw [← x0]; exact ⟨rfl, g9⟩)⟩
  exact hk.2
def fM_kitchenIs (c w : Int) (A : qA) : Int := (if 0 ≤ c ∧ c ≤ 7 then (if w = 0 then qlet (A 15 c) fun v4 => v4 else (if w = 1 then qlet (A 16 c) fun v7 => v7 else (if w = 2 then qlet (A 17 c) fun v10 => v10 else (if w = 3 then qlet (A 18 c) fun v12 => v12 else (-1))))) else (-1))
def sM_kitchenIs : qS := fun as A K => ∃ c w : Int, as = [rf 0, ni c, ni w] ∧ (iva IM A ∧ ivf JM A) ∧ (∀ r : Int, rng r → (r = fM_kitchenIs c w A) → K (some (ni r)) A)
theorem okM_kitchenIs : okM LM 2 216 sM_kitchenIs := by
  refine qmeth [] false [(145, sM_in)] 37 rfl ⟨okM_in.le (by decide), trivial⟩ ?_
  rintro _ A K hA has ⟨c, w, rfl, ⟨i0, j0⟩, hK⟩
  have rg_c : rng c := has (ni c) (by simp)
  have rg_w : rng w := has (ni w) (by simp)
  have f0 := frm_0 [] [] A
  have hT : _ = fM_kitchenIs c w A := (fM_kitchenIs.eq_1 c w A).symm
  refine ⟨Nat.le_of_ble_eq_true rfl, [], trivial, ?_⟩
  refine Exists.intro c (Exists.intro 0 (Exists.intro 7 (And.intro rfl (And.intro (fun h1 => ?_) (fun h1 => ?_)))))
  · replace hT := (if_pos h1).symm.trans hT
    refine And.intro (fun h2 => ?_) (fun h2 => by exfalso; omega)
    refine (And.intro (fun h3 => ?_) (And.intro (fun h3 => ?_) (And.intro (fun h3 => ?_) (And.intro (fun h3 => ?_) (And.intro (fun h3 => ?_) trivial)))))
    · replace hT := (if_neg (show ¬ (w = 0) by (first | (clear hm hnf; omega) | omega))).symm.trans hT
      replace hT := (if_neg (show ¬ (w = 1) by (first | (clear hm hnf; omega) | omega))).symm.trans hT
      replace hT := (if_neg (show ¬ (w = 2) by (first | (clear hm hnf; omega) | omega))).symm.trans hT
      replace hT := (if_neg (show ¬ (w = 3) by (first | (clear hm hnf; omega) | omega))).symm.trans hT
      exact hK _ (by first | assumption | exact ⟨by (first | (clear hm hnf; omega) | omega), by (first | (clear hm hnf; omega) | omega)⟩ | exact wI_rng _ | exact i_rng _ | (subst_vars; exact i_rng _) | exact (hA _ _).2 rfl) hT
    · replace hT := (if_pos (show w = 0 by (first | (clear hm hnf; omega) | omega))).symm.trans hT
      refine And.intro (by (first | (clear hm hnf; omega) | omega)) (fun v4 gv4 e5 => ?_)
      replace hT := qlc e5 hT
      have b6 := iva_at i0 6 rfl (i := c) (by (first | (clear hm hnf; omega) | omega)) (by (first | (clear hm hnf; omega) | omega))
      exact hK _ (by first | assumption | exact ⟨by (first | (clear hm hnf; omega) | omega), by (first | (clear hm hnf; omega) | omega)⟩ | exact wI_rng _ | exact i_rng _ | (subst_vars; exact i_rng _) | exact (hA _ _).2 rfl) hT
    · replace hT := (if_neg (show ¬ (w = 0) by (first | (clear hm hnf; omega) | omega))).symm.trans hT
      replace hT := (if_pos (show w = 1 by (first | (clear hm hnf; omega) | omega))).symm.trans hT
      refine And.intro (by (first | (clear hm hnf; omega) | omega)) (fun v7 gv7 e8 => ?_)
      replace hT := qlc e8 hT
      have b9 := iva_at i0 7 rfl (i := c) (by (first | (clear hm hnf; omega) | omega)) (by (first | (clear hm hnf; omega) | omega))
      exact hK _ (by first | assumption | exact ⟨by (first | (clear hm hnf; omega) | omega), by (first | (clear hm hnf; omega) | omega)⟩ | exact wI_rng _ | exact i_rng _ | (subst_vars; exact i_rng _) | exact (hA _ _).2 rfl) hT
    · replace hT := (if_neg (show ¬ (w = 0) by (first | (clear hm hnf; omega) | omega))).symm.trans hT
      replace hT := (if_neg (show ¬ (w = 1) by (first | (clear hm hnf; omega) | omega))).symm.trans hT
      replace hT := (if_pos (show w = 2 by (first | (clear hm hnf; omega) | omega))).symm.trans hT
      refine And.intro (by (first | (clear hm hnf; omega) | omega)) (fun v10 gv10 e11 => ?_)
      replace hT := qlc e11 hT
      exact hK _ (by first | assumption | exact ⟨by (first | (clear hm hnf; omega) | omega), by (first | (clear hm hnf; omega) | omega)⟩ | exact wI_rng _ | exact i_rng _ | (subst_vars; exact i_rng _) | exact (hA _ _).2 rfl) hT
    · replace hT := (if_neg (show ¬ (w = 0) by (first | (clear hm hnf; omega) | omega))).symm.trans hT
      replace hT := (if_neg (show ¬ (w = 1) by (first | (clear hm hnf; omega) | omega))).symm.trans hT
      replace hT := (if_neg (show ¬ (w = 2) by (first | (clear hm hnf; omega) | omega))).symm.trans hT
      replace hT := (if_pos (show w = 3 by (first | (clear hm hnf; omega) | omega))).symm.trans hT
      refine And.intro (by (first | (clear hm hnf; omega) | omega)) (fun v12 gv12 e13 => ?_)
      replace hT := qlc e13 hT
      exact hK _ (by first | assumption | exact ⟨by (first | (clear hm hnf; omega) | omega), by (first | (clear hm hnf; omega) | omega)⟩ | exact wI_rng _ | exact i_rng _ | (subst_vars; exact i_rng _) | exact (hA _ _).2 rfl) hT
  · replace hT := (if_neg h1).symm.trans hT
    refine And.intro (fun h14 => by exfalso; omega) (fun h14 => ?_)
    exact hK _ (by first | assumption | exact ⟨by (first | (clear hm hnf; omega) | omega), by (first | (clear hm hnf; omega) | omega)⟩ | exact wI_rng _ | exact i_rng _ | (subst_vars; exact i_rng _) | exact (hA _ _).2 rfl) hT
theorem pM_kitchenIs {c w : Int} {A : qA} (hA : qokA LM A) (rg_c : rng c) (rg_w : rng w) (p0 : iva IM A) (p1 : ivf JM A) : rng (fM_kitchenIs c w A) := by
  obtain ⟨r, B, hB, _, hk⟩ := okM_ex okM_kitchenIs (as := [rf 0, ni c, ni w]) (K := fun _ B => B = A ∧ rng (fM_kitchenIs c w A)) hA (qoks_c (show qok (rf _) from trivial) (qoks_c (rg_c) (qoks_c (rg_w) qoks_n))) ⟨c, w, rfl, ⟨p0, p1⟩, fun r9 g9 x0 => (by rw [← x0]; exact ⟨rfl, g9⟩)⟩
  exact hk.2
def fM_lays_c15 (rec : Nat → List Int → qA → Int × qA) (l1 l3 k : Int) (B : qA) : Int × qA := (if k < 48 then qlet (jsr l1 k) fun v18 => qlet ((1 : Int)) fun v20 => qlet (ja v18 v20) fun v22 => qlet ((0 : Int)) fun v24 => qlet (jc v22 v24) fun v26 => (if v26 = 0 then qlet (k + 1) fun v57 => rec 15 [l1, l3, v57] B else qlet (B 0 (fd 63)) fun v29 => (if v29 = l3 then (0, B) else qlet (B 0 (fd 63)) fun v33 => qlet (qu B 50 v29 k) fun A37 => qlet (A37 0 (fd 63)) fun v43 => qlet (v29 + 1) fun v47 => qlet (qu A37 0 (fd 63) v47) fun A49 => qlet (k + 1) fun v55 => rec 15 [l1, l3, v55] A49)) else (1, B))
def fM_lays_L : Nat → Nat → List Int → qA → Int × qA
  | 0 => fun _ _ B => (0, B)
  | nF + 1 => fun k zs B => bif Nat.beq k 15 then (match zs with | [l1, l3, k] => fM_lays_c15 (fM_lays_L nF) l1 l3 k B | _ => (0, B)) else (0, B)
theorem fM_lays_L15 (nF : Nat) (l1 l3 k : Int) (B : qA) : fM_lays_L (nF + 1) 15 [l1, l3, k] B = fM_lays_c15 (fM_lays_L nF) l1 l3 k B := (congrFun (congrFun (congrFun (fM_lays_L.eq_2 nF) 15) [l1, l3, k]) B).trans (qL1 rfl rfl)
def fM_lays (x t : Int) (A : qA) : Int × qA := qlet ((0 : Int)) fun v3 => qlet (jc x v3) fun v5 => (if 0 < v5 then qlet (jc x (qnL 281474976710656)) fun v8 => (if v8 < 0 then qlet (qu A 0 (fd 63) 0) fun A11 => (fM_lays_L 100000) 15 [x, t, 0] A11 else (0, A)) else (0, A))
def sM_lays : qS := fun as A K => ∃ x t : Int, as = [rf 0, nl x, ni t] ∧ (iva IM A ∧ ivf JM A ∧ 0 ≤ t ∧ t ≤ 8) ∧ (∀ A' : qA, iva IM A' → ivf JM A' → frm [50] [(0, 63)] A A' → ∀ r : Int, 0 ≤ r → r ≤ 1 → (r = 0 ∨ A' 0 (fd 63) ≤ t) → (r = (fM_lays x t A).1) → (A' = (fM_lays x t A).2) → K (some (ni r)) A')
theorem okM_lays : okM LM 1 217 sM_lays := by
  refine qmeth [] false [] 55 rfl trivial ?_
  rintro _ A K hA has ⟨x, t, rfl, ⟨i0, j0, p1, p2⟩, hK⟩
  have rg_x : rngL x := has (nl x) (by simp)
  have rg_t : rng t := has (ni t) (by simp)
  have f0 := frm_0 [50] [(0, 63)] A
  have hb_0_63 := ivf_at j0 2 rfl
  have hT : _ = fM_lays x t A := (fM_lays.eq_1 x t A).symm
  refine ⟨Nat.le_of_ble_eq_true rfl, [(15, [(0, 2, 0), (1, 1, 0), (3, 0, 0), (4, 0, 0)], fun zs B nn => match zs with | [l1, l3, k] => iva IM B ∧ ivf JM B ∧ frm [50] [(0, 63)] A B ∧ nn = (48 - k : Int).toNat ∧ (l1 = x) ∧ (l3 = t) ∧ (0 ≤ k) ∧ (k ≤ 48) ∧ (B 0 (fd 63) ≤ t) ∧ (∃ nf : Nat, nn < nf ∧ fM_lays_L nf 15 [l1, l3, k] B = fM_lays x t A) | _ => False)], ?_, ?_⟩
  · refine ⟨⟨rfl, ?_⟩, trivial⟩
    · refine fun l1 l3 k B mm hB hz hI => ?_
      obtain ⟨i1, j1, f1, hm, c0, c1, c2, c3, c4, ⟨nf, hnf, hT⟩⟩ := hI
      obtain ⟨hz_l1, hz_l3, hz_k, _⟩ := hz
      obtain ⟨ng, rfl⟩ : ∃ k, nf = k + 1 := ⟨nf - 1, by omega⟩
      replace hT := (fM_lays_c15.eq_1 (fM_lays_L ng) l1 l3 k B).symm.trans ((fM_lays_L15 ng l1 l3 k B).symm.trans hT)
      have hc_0_63 := ivf_at j1 2 rfl
      refine And.intro (fun h17 => ?_) (fun h17 => ?_)
      · replace hT := (if_neg (Int.not_lt.mpr h17)).symm.trans hT
        exact And.intro (by (first | (clear hm hnf; omega) | omega)) (hK _ i1 j1 f1 _ (by (first | (clear hm hnf; omega) | omega)) (by (first | (clear hm hnf; omega) | omega)) (by first | assumption | omega | simp_all) (congrArg Prod.fst hT) (congrArg Prod.snd hT))
      · replace hT := (if_pos h17).symm.trans hT
        refine fun v18 e19 => ?_
        replace hT := qlc e19 hT
        refine fun (v20 : Int) (e21 : v20 = 1) => ?_
        replace hT := qlc e21 hT
        refine fun v22 e23 => ?_
        replace hT := qlc e23 hT
        refine fun (v24 : Int) (e25 : v24 = 0) => ?_
        replace hT := qlc e25 hT
        refine fun v26 e27 => ?_
        replace hT := qlc e27 hT
        refine And.intro (fun h28 => ?_) (fun h28 => ?_)
        · replace hT := (if_neg h28).symm.trans hT
          refine fun v29 gv29 e30 => ?_
          replace hT := qlc e30 hT
          have b31 := ivf_at j1 2 rfl
          refine And.intro (fun h32 => ?_) (fun h32 => ?_)
          · replace hT := (if_neg h32).symm.trans hT
            refine fun v33 gv33 e34 => ?_
            replace hT := qlc e34 hT
            have b35 := ivf_at j1 2 rfl
            have q36 : v29 = v33 := (e34.trans e30.symm).symm
            subst q36
            refine And.intro (by (first | (clear hm hnf; omega) | omega)) (fun A37 e38 => ?_)
            replace hT := qlc e38 hT
            have i39 := iva_st i1 e38 (And.intro (by (first | (clear hm hnf; omega) | omega)) trivial)
            have j40 := ivf_sa j1 e38 rfl
            have f41 := frm_s f1 e38 rfl
            have t42 : A37 0 (fd 63) = B 0 (fd 63) := (congrFun (st_a e38 rfl) _)
            refine fun v43 gv43 e44 => ?_
            replace hT := qlc e44 hT
            have b45 := ivf_at j40 2 rfl
            have q46 : v29 = v43 := (e44.trans ((congrFun (st_a e38 rfl) _).trans e34.symm)).symm
            subst q46
            refine fun v47 e48 => ?_
            replace hT := qlc e48 hT
            refine And.intro (by (first | (clear hm hnf; omega) | omega)) (fun A49 e50 => ?_)
            replace hT := qlc e50 hT
            have i51 := iva_sf i39 e50 rfl
            have j52 := ivf_st j40 e50 (And.intro (by (first | (clear hm hnf; omega) | omega)) trivial)
            have f53 := frm_sf f41 e50 rfl
            have t54 := st_v e50
            refine fun v55 e56 => ?_
            replace hT := qlc e56 hT
            exact And.intro (by (first | (clear hm hnf; omega) | omega)) (Exists.intro (48 - v55 : Int).toNat (And.intro (by first | exact qtn hm (by (try clear hm hnf); omega) | omega) (And.intro i51 (And.intro j52 (And.intro f53 (And.intro rfl (And.intro (by (first | (clear hm hnf; omega) | omega)) (And.intro (by (first | (clear hm hnf; omega) | omega)) (And.intro (by (first | (clear hm hnf; omega) | omega)) (And.intro (by (first | (clear hm hnf; omega) | omega)) (And.intro (by (first | (clear hm hnf; omega) | omega)) (Exists.intro ng (And.intro (by first | exact qtm hm hnf (by (try clear hm hnf); omega) | omega) hT)))))))))))))
          · replace hT := (if_pos h32).symm.trans hT
            exact And.intro (by (first | (clear hm hnf; omega) | omega)) (hK _ i1 j1 f1 _ (by (first | (clear hm hnf; omega) | omega)) (by (first | (clear hm hnf; omega) | omega)) (by first | assumption | omega | simp_all) (congrArg Prod.fst hT) (congrArg Prod.snd hT))
        · replace hT := (if_pos h28).symm.trans hT
          refine fun v57 e58 => ?_
          replace hT := qlc e58 hT
          exact And.intro (by (first | (clear hm hnf; omega) | omega)) (Exists.intro (48 - v57 : Int).toNat (And.intro (by first | exact qtn hm (by (try clear hm hnf); omega) | omega) (And.intro i1 (And.intro j1 (And.intro f1 (And.intro rfl (And.intro (by (first | (clear hm hnf; omega) | omega)) (And.intro (by (first | (clear hm hnf; omega) | omega)) (And.intro (by (first | (clear hm hnf; omega) | omega)) (And.intro (by (first | (clear hm hnf; omega) | omega)) (And.intro (by (first | (clear hm hnf; omega) | omega)) (Exists.intro ng (And.intro (by first | exact qtm hm hnf (by (try clear hm hnf); omega) | omega) hT)))))))))))))
  · refine fun (v3 : Int) (e4 : v3 = 0) => ?_
    replace hT := qlc e4 hT
    refine fun v5 e6 => ?_
    replace hT := qlc e6 hT
    refine And.intro (fun h7 => ?_) (fun h7 => ?_)
    · replace hT := (if_neg (Int.not_lt.mpr h7)).symm.trans hT
      exact And.intro (by (first | (clear hm hnf; omega) | omega)) (hK _ i0 j0 f0 _ (by (first | (clear hm hnf; omega) | omega)) (by (first | (clear hm hnf; omega) | omega)) (by first | assumption | omega | simp_all) (congrArg Prod.fst hT) (congrArg Prod.snd hT))
    · replace hT := (if_pos h7).symm.trans hT
      refine fun v8 e9 => ?_
      replace hT := qlc e9 hT
      refine And.intro (fun h10 => ?_) (fun h10 => ?_)
      · replace hT := (if_pos h10).symm.trans hT
        refine fun A11 e12 => ?_
        replace hT := qlc e12 hT
        have i13 := iva_sf i0 e12 rfl
        have j14 := ivf_st j0 e12 (And.intro (by (first | (clear hm hnf; omega) | omega)) trivial)
        have f15 := frm_sf f0 e12 rfl
        have t16 := st_v e12
        exact Exists.intro (48 - 0 : Int).toNat (And.intro i13 (And.intro j14 (And.intro f15 (And.intro rfl (And.intro (by (first | (clear hm hnf; omega) | omega)) (And.intro (by (first | (clear hm hnf; omega) | omega)) (And.intro (by (first | (clear hm hnf; omega) | omega)) (And.intro (by (first | (clear hm hnf; omega) | omega)) (And.intro (by (first | (clear hm hnf; omega) | omega)) (Exists.intro 100000 (And.intro (by (first | (clear hm hnf; omega) | omega)) hT)))))))))))
      · replace hT := (if_neg (Int.not_lt.mpr h10)).symm.trans hT
        exact And.intro (by (first | (clear hm hnf; omega) | omega)) (hK _ i0 j0 f0 _ (by (first | (clear hm hnf; omega) | omega)) (by (first | (clear hm hnf; omega) | omega)) (by first | assumption | omega | simp_all) (congrArg Prod.fst hT) (congrArg Prod.snd hT))
theorem pM_lays {x t : Int} {A : qA} (hA : qokA LM A) (rg_x : rngL x) (p0 : iva IM A) (p1 : ivf JM A) (p2 : 0 ≤ t) (p3 : t ≤ 8) : qokA LM (fM_lays x t A).2 ∧ iva IM (fM_lays x t A).2 ∧ ivf JM (fM_lays x t A).2 ∧ frm [50] [(0, 63)] A (fM_lays x t A).2 ∧ (0 ≤ (fM_lays x t A).1 ∧ (fM_lays x t A).1 ≤ 1) ∧ ((fM_lays x t A).1 = 0 ∨ (fM_lays x t A).2 0 (fd 63) ≤ t) := by
  obtain ⟨r, B, hB, _, hk⟩ := okM_ex okM_lays (as := [rf 0, nl x, ni t]) (K := fun _ B => B = (fM_lays x t A).2 ∧ iva IM (fM_lays x t A).2 ∧ ivf JM (fM_lays x t A).2 ∧ frm [50] [(0, 63)] A (fM_lays x t A).2 ∧ (0 ≤ (fM_lays x t A).1 ∧ (fM_lays x t A).1 ≤ 1) ∧ ((fM_lays x t A).1 = 0 ∨ (fM_lays x t A).2 0 (fd 63) ≤ t)) hA (qoks_c (show qok (rf _) from trivial) (qoks_c (rg_x) (qoks_c (show rng t from ⟨by (first | (clear hm hnf; omega) | omega), by (first | (clear hm hnf; omega) | omega)⟩) qoks_n))) ⟨x, t, rfl, ⟨p0, p1, p2, p3⟩, fun A9 i9 j9 f9 r9 g8 g9 x0 x1 x2 => (by rw [← x2]; (try rw [← x1]); exact ⟨rfl, i9, j9, f9, ⟨g8, g9⟩, x0⟩)⟩
  exact ⟨hk.1 ▸ hB, hk.2⟩
def fM_mayBe (w c : Int) (A : qA) : Int := qlet (qm c 6) fun v5 => qlet (5 * v5) fun v8 => qlet (w + v8) fun v10 => qlet (qd c 6) fun v12 => qlet (A 20 v12) fun v15 => (if v15 < v10 then 0 else 1)
def sM_mayBe : qS := fun as A K => ∃ w c : Int, as = [rf 0, ni w, ni c] ∧ (iva IM A ∧ ivf JM A ∧ 1 ≤ w ∧ w ≤ 99 ∧ 0 ≤ c ∧ c ≤ 47) ∧ (∀ r : Int, 0 ≤ r → r ≤ 1 → (r = fM_mayBe w c A) → K (some (ni r)) A)
theorem okM_mayBe : okM LM 1 218 sM_mayBe := by
  refine qmeth [] false [] 24 rfl trivial ?_
  rintro _ A K hA has ⟨w, c, rfl, ⟨i0, j0, p1, p2, p3, p4⟩, hK⟩
  have rg_w : rng w := has (ni w) (by simp)
  have rg_c : rng c := has (ni c) (by simp)
  have f0 := frm_0 [] [] A
  have hT : _ = fM_mayBe w c A := (fM_mayBe.eq_1 w c A).symm
  refine ⟨Nat.le_of_ble_eq_true rfl, [], trivial, ?_⟩
  refine And.intro (by (first | (clear hm hnf; omega) | omega)) (fun v5 e6 => ?_)
  replace hT := qlc e6 hT
  have h7 := qm_nn (a := c) (b := 6) (by (first | (clear hm hnf; omega) | omega))
  refine fun v8 e9 => ?_
  replace hT := qlc e9 hT
  refine fun v10 e11 => ?_
  replace hT := qlc e11 hT
  refine And.intro (by (first | (clear hm hnf; omega) | omega)) (fun v12 e13 => ?_)
  replace hT := qlc e13 hT
  have h14 := qd_nn (a := c) (b := 6) (by (first | (clear hm hnf; omega) | omega))
  refine And.intro (by (first | (clear hm hnf; omega) | omega)) (fun v15 gv15 e16 => ?_)
  replace hT := qlc e16 hT
  have b17 := iva_at i0 8 rfl (i := v12) (by (first | (clear hm hnf; omega) | omega)) (by (first | (clear hm hnf; omega) | omega))
  refine And.intro (by (first | (clear hm hnf; omega) | omega)) (And.intro (fun h18 => ?_) (fun h18 => ?_))
  · replace hT := (if_pos h18).symm.trans hT
    exact And.intro (by (first | (clear hm hnf; omega) | omega)) (hK _ (by (first | (clear hm hnf; omega) | omega)) (by (first | (clear hm hnf; omega) | omega)) hT)
  · replace hT := (if_neg (Int.not_lt.mpr h18)).symm.trans hT
    exact And.intro (by (first | (clear hm hnf; omega) | omega)) (hK _ (by (first | (clear hm hnf; omega) | omega)) (by (first | (clear hm hnf; omega) | omega)) hT)
theorem pM_mayBe {w c : Int} {A : qA} (hA : qokA LM A) (p0 : iva IM A) (p1 : ivf JM A) (p2 : 1 ≤ w) (p3 : w ≤ 99) (p4 : 0 ≤ c) (p5 : c ≤ 47) : (0 ≤ (fM_mayBe w c A) ∧ (fM_mayBe w c A) ≤ 1) := by
  obtain ⟨r, B, hB, _, hk⟩ := okM_ex okM_mayBe (as := [rf 0, ni w, ni c]) (K := fun _ B => B = A ∧ (0 ≤ (fM_mayBe w c A) ∧ (fM_mayBe w c A) ≤ 1)) hA (qoks_c (show qok (rf _) from trivial) (qoks_c (show rng w from ⟨by (first | (clear hm hnf; omega) | omega), by (first | (clear hm hnf; omega) | omega)⟩) (qoks_c (show rng c from ⟨by (first | (clear hm hnf; omega) | omega), by (first | (clear hm hnf; omega) | omega)⟩) qoks_n))) ⟨w, c, rfl, ⟨p0, p1, p2, p3, p4, p5⟩, fun r9 g8 g9 x0 => (by rw [← x0]; exact ⟨rfl, ⟨g8, g9⟩⟩)⟩
  exact hk.2
def fM_mayWork (w c l : Int) (A : qA) : Int := (if 1 ≤ w ∧ w ≤ 99 then (if (0 ≤ c ∧ c ≤ 7) ∧ (0 ≤ l ∧ l ≤ 5) then qlet (fM_mayBe w (6 * c + l) A) fun r5 => (if r5 = 0 then 0 else 1) else (-1)) else (-1))
def sM_mayWork : qS := fun as A K => ∃ w c l : Int, as = [rf 0, ni w, ni c, ni l] ∧ (iva IM A ∧ ivf JM A) ∧ (∀ r : Int, (-1) ≤ r → r ≤ 1 → (r = fM_mayWork w c l A) → K (some (ni r)) A)
theorem okM_mayWork : okM LM 3 219 sM_mayWork := by
  refine qmeth [] false [(145, sM_in), (148, sM_isCell), (149, sM_at), (218, sM_mayBe)] 28 rfl ⟨okM_in.le (by decide), ⟨okM_isCell.le (by decide), ⟨okM_at.le (by decide), ⟨okM_mayBe.le (by decide), trivial⟩⟩⟩⟩ ?_
  rintro _ A K hA has ⟨w, c, l, rfl, ⟨i0, j0⟩, hK⟩
  have rg_w : rng w := has (ni w) (by simp)
  have rg_c : rng c := has (ni c) (by simp)
  have rg_l : rng l := has (ni l) (by simp)
  have f0 := frm_0 [] [] A
  have hT : _ = fM_mayWork w c l A := (fM_mayWork.eq_1 w c l A).symm
  refine ⟨Nat.le_of_ble_eq_true rfl, [], trivial, ?_⟩
  refine Exists.intro w (Exists.intro 1 (Exists.intro 99 (And.intro rfl (And.intro (fun h1 => ?_) (fun h1 => ?_)))))
  · replace hT := (if_pos h1).symm.trans hT
    refine And.intro (fun h2 => by exfalso; omega) (fun h2 => ?_)
    refine Exists.intro c (Exists.intro l (And.intro rfl (And.intro (fun h3 => ?_) (fun h3 => ?_))))
    · replace hT := (if_pos h3).symm.trans hT
      refine And.intro (fun h4 => ?_) (fun h4 => by exfalso; omega)
      refine Exists.intro c (Exists.intro l (And.intro rfl (And.intro (And.intro (by (first | (clear hm hnf; omega) | omega)) (And.intro (by (first | (clear hm hnf; omega) | omega)) (And.intro (by (first | (clear hm hnf; omega) | omega)) (by (first | (clear hm hnf; omega) | omega))))) ?_)))
      refine Exists.intro w (Exists.intro (6 * c + l) (And.intro rfl (And.intro (And.intro i0 (And.intro j0 (And.intro (by (first | (clear hm hnf; omega) | omega)) (And.intro (by (first | (clear hm hnf; omega) | omega)) (And.intro (by (first | (clear hm hnf; omega) | omega)) (by (first | (clear hm hnf; omega) | omega))))))) (fun r5 g7 g8 g6 => ?_))))
      replace hT := qlc g6 hT
      clear g6
      refine And.intro (fun h9 => ?_) (fun h9 => ?_)
      · replace hT := (if_pos h9).symm.trans hT
        exact hK _ (by (first | (clear hm hnf; omega) | omega)) (by (first | (clear hm hnf; omega) | omega)) hT
      · replace hT := (if_neg h9).symm.trans hT
        exact hK _ (by (first | (clear hm hnf; omega) | omega)) (by (first | (clear hm hnf; omega) | omega)) hT
    · replace hT := (if_neg h3).symm.trans hT
      refine And.intro (fun h10 => by exfalso; omega) (fun h10 => ?_)
      exact hK _ (by (first | (clear hm hnf; omega) | omega)) (by (first | (clear hm hnf; omega) | omega)) hT
  · replace hT := (if_neg h1).symm.trans hT
    refine And.intro (fun h11 => ?_) (fun h11 => by exfalso; omega)
    exact hK _ (by (first | (clear hm hnf; omega) | omega)) (by (first | (clear hm hnf; omega) | omega)) hT
theorem pM_mayWork {w c l : Int} {A : qA} (hA : qokA LM A) (rg_w : rng w) (rg_c : rng c) (rg_l : rng l) (p0 : iva IM A) (p1 : ivf JM A) : ((-1) ≤ (fM_mayWork w c l A) ∧ (fM_mayWork w c l A) ≤ 1) := by
  obtain ⟨r, B, hB, _, hk⟩ := okM_ex okM_mayWork (as := [rf 0, ni w, ni c, ni l]) (K := fun _ B => B = A ∧ ((-1) ≤ (fM_mayWork w c l A) ∧ (fM_mayWork w c l A) ≤ 1)) hA (qoks_c (show qok (rf _) from trivial) (qoks_c (rg_w) (qoks_c (rg_c) (qoks_c (rg_l) qoks_n)))) ⟨w, c, l, rfl, ⟨p0, p1⟩, fun r9 g8 g9 x0 => (by rw [← x0]; exact ⟨rfl, ⟨g8, g9⟩⟩)⟩
  exact hk.2
def fM_apart (a b : Int) (A : qA) : Int := (if a < b then qlet (b - a) fun v8 => v8 else qlet (a - b) fun v6 => v6)
def sM_apart : qS := fun as A K => ∃ a b : Int, as = [ni a, ni b] ∧ (0 ≤ a ∧ a ≤ 47 ∧ 0 ≤ b ∧ b ≤ 47) ∧ (∀ r : Int, 0 ≤ r → r ≤ 47 → (r = fM_apart a b A) → K (some (ni r)) A)
theorem okM_apart : okM LM 1 220 sM_apart := by
  refine qmeth [] false [] 17 rfl trivial ?_
  rintro _ A K hA has ⟨a, b, rfl, ⟨p1, p2, p3, p4⟩, hK⟩
  have rg_a : rng a := has (ni a) (by simp)
  have rg_b : rng b := has (ni b) (by simp)
  have hT : _ = fM_apart a b A := (fM_apart.eq_1 a b A).symm
  refine ⟨Nat.le_of_ble_eq_true rfl, [], trivial, ?_⟩
  refine And.intro (fun h5 => ?_) (fun h5 => ?_)
  · replace hT := (if_neg (Int.not_lt.mpr h5)).symm.trans hT
    refine fun v6 e7 => ?_
    replace hT := qlc e7 hT
    exact And.intro (by (first | (clear hm hnf; omega) | omega)) (hK _ (by (first | (clear hm hnf; omega) | omega)) (by (first | (clear hm hnf; omega) | omega)) hT)
  · replace hT := (if_pos h5).symm.trans hT
    refine fun v8 e9 => ?_
    replace hT := qlc e9 hT
    exact And.intro (by (first | (clear hm hnf; omega) | omega)) (hK _ (by (first | (clear hm hnf; omega) | omega)) (by (first | (clear hm hnf; omega) | omega)) hT)
theorem pM_apart {a b : Int} {A : qA} (hA : qokA LM A) (p0 : 0 ≤ a) (p1 : a ≤ 47) (p2 : 0 ≤ b) (p3 : b ≤ 47) : (0 ≤ (fM_apart a b A) ∧ (fM_apart a b A) ≤ 47) := by
  obtain ⟨r, B, hB, _, hk⟩ := okM_ex okM_apart (as := [ni a, ni b]) (K := fun _ B => B = A ∧ (0 ≤ (fM_apart a b A) ∧ (fM_apart a b A) ≤ 47)) hA (qoks_c (show rng a from ⟨by (first | (clear hm hnf; omega) | omega), by (first | (clear hm hnf; omega) | omega)⟩) (qoks_c (show rng b from ⟨by (first | (clear hm hnf; omega) | omega), by (first | (clear hm hnf; omega) | omega)⟩) qoks_n)) ⟨a, b, rfl, ⟨p0, p1, p2, p3⟩, fun r9 g8 g9 x0 => (by rw [← x0]; exact ⟨rfl, ⟨g8, g9⟩⟩)⟩
  exact hk.2
def fM_way (a b : Int) (A : qA) : Int := qlet (qd a 6) fun v5 => qlet (qd b 6) fun v8 => qlet (fM_apart v5 v8 A) fun r11 => qlet (2 * r11) fun v15 => qlet (qm a 6) fun v17 => qlet (qm b 6) fun v20 => qlet (fM_apart v17 v20 A) fun r23 => qlet (v15 + r23) fun v27 => qlet (v27 + 1) fun v29 => v29
def sM_way : qS := fun as A K => ∃ a b : Int, as = [ni a, ni b] ∧ (0 ≤ a ∧ a ≤ 47 ∧ 0 ≤ b ∧ b ≤ 47) ∧ (∀ r : Int, 0 ≤ r → r ≤ 300 → (r = fM_way a b A) → K (some (ni r)) A)
theorem okM_way : okM LM 2 221 sM_way := by
  refine qmeth [] false [(220, sM_apart)] 26 rfl ⟨okM_apart.le (by decide), trivial⟩ ?_
  rintro _ A K hA has ⟨a, b, rfl, ⟨p1, p2, p3, p4⟩, hK⟩
  have rg_a : rng a := has (ni a) (by simp)
  have rg_b : rng b := has (ni b) (by simp)
  have hT : _ = fM_way a b A := (fM_way.eq_1 a b A).symm
  refine ⟨Nat.le_of_ble_eq_true rfl, [], trivial, ?_⟩
  refine And.intro (by (first | (clear hm hnf; omega) | omega)) (fun v5 e6 => ?_)
  replace hT := qlc e6 hT
  have h7 := qd_nn (a := a) (b := 6) (by (first | (clear hm hnf; omega) | omega))
  refine And.intro (by (first | (clear hm hnf; omega) | omega)) (fun v8 e9 => ?_)
  replace hT := qlc e9 hT
  have h10 := qd_nn (a := b) (b := 6) (by (first | (clear hm hnf; omega) | omega))
  refine And.intro (by (first | (clear hm hnf; omega) | omega)) (And.intro (by (first | (clear hm hnf; omega) | omega)) (Exists.intro v5 (Exists.intro v8 (And.intro rfl (And.intro (And.intro (by (first | (clear hm hnf; omega) | omega)) (And.intro (by (first | (clear hm hnf; omega) | omega)) (And.intro (by (first | (clear hm hnf; omega) | omega)) (by (first | (clear hm hnf; omega) | omega))))) (fun r11 g13 g14 g12 => ?_))))))
  replace hT := qlc g12 hT
  clear g12
  refine fun v15 e16 => ?_
  replace hT := qlc e16 hT
  refine And.intro (by (first | (clear hm hnf; omega) | omega)) (fun v17 e18 => ?_)
  replace hT := qlc e18 hT
  have h19 := qm_nn (a := a) (b := 6) (by (first | (clear hm hnf; omega) | omega))
  refine And.intro (by (first | (clear hm hnf; omega) | omega)) (fun v20 e21 => ?_)
  replace hT := qlc e21 hT
  have h22 := qm_nn (a := b) (b := 6) (by (first | (clear hm hnf; omega) | omega))
  refine Exists.intro v17 (Exists.intro v20 (And.intro rfl (And.intro (And.intro (by (first | (clear hm hnf; omega) | omega)) (And.intro (by (first | (clear hm hnf; omega) | omega)) (And.intro (by (first | (clear hm hnf; omega) | omega)) (by (first | (clear hm hnf; omega) | omega))))) (fun r23 g25 g26 g24 => ?_))))
  replace hT := qlc g24 hT
  clear g24
  refine fun v27 e28 => ?_
  replace hT := qlc e28 hT
  refine fun v29 e30 => ?_
  replace hT := qlc e30 hT
  exact And.intro (by (first | (clear hm hnf; omega) | omega)) (hK _ (by (first | (clear hm hnf; omega) | omega)) (by (first | (clear hm hnf; omega) | omega)) hT)
theorem pM_way {a b : Int} {A : qA} (hA : qokA LM A) (p0 : 0 ≤ a) (p1 : a ≤ 47) (p2 : 0 ≤ b) (p3 : b ≤ 47) : (0 ≤ (fM_way a b A) ∧ (fM_way a b A) ≤ 300) := by
  obtain ⟨r, B, hB, _, hk⟩ := okM_ex okM_way (as := [ni a, ni b]) (K := fun _ B => B = A ∧ (0 ≤ (fM_way a b A) ∧ (fM_way a b A) ≤ 300)) hA (qoks_c (show rng a from ⟨by (first | (clear hm hnf; omega) | omega), by (first | (clear hm hnf; omega) | omega)⟩) (qoks_c (show rng b from ⟨by (first | (clear hm hnf; omega) | omega), by (first | (clear hm hnf; omega) | omega)⟩) qoks_n)) ⟨a, b, rfl, ⟨p0, p1, p2, p3⟩, fun r9 g8 g9 x0 => (by rw [← x0]; exact ⟨rfl, ⟨g8, g9⟩⟩)⟩
  exact hk.2
