def fM_hasKind_c4 (rec : Nat → List Int → qA → Int) (l1 l2 j : Int) (A : qA) : Int := qlet (l1 + 1) fun v5 => qlet (6 * v5) fun v7 => (if j < v7 then qlet (A 1 j) fun v10 => (if v10 = 0 then qlet (j + 1) fun v14 => rec 4 [l1, l2, v14] A else qlet (A 7 j) fun v16 => (if v16 = l2 then 1 else qlet (j + 1) fun v20 => rec 4 [l1, l2, v20] A)) else 0)
def fM_hasKind_L : Nat → Nat → List Int → qA → Int
  | 0 => fun _ _ B => 0
  | nF + 1 => fun k zs B => bif Nat.beq k 4 then (match zs with | [l1, l2, j] => fM_hasKind_c4 (fM_hasKind_L nF) l1 l2 j B | _ => 0) else 0
theorem fM_hasKind_L4 (nF : Nat) (l1 l2 j : Int) (B : qA) : fM_hasKind_L (nF + 1) 4 [l1, l2, j] B = fM_hasKind_c4 (fM_hasKind_L nF) l1 l2 j B := (congrFun (congrFun (congrFun (fM_hasKind_L.eq_2 nF) 4) [l1, l2, j]) B).trans (qL1 rfl rfl)
def fM_hasKind (c k : Int) (A : qA) : Int := qlet (6 * c) fun v3 => (fM_hasKind_L 100000) 4 [c, k, v3] A
def sM_hasKind : qS := fun as A K => ∃ c k : Int, as = [rf 0, ni c, ni k] ∧ (iva IM A ∧ ivf JM A ∧ 0 ≤ c ∧ c ≤ 7) ∧ (∀ r : Int, 0 ≤ r → r ≤ 1 → (r = fM_hasKind c k A) → K (some (ni r)) A)
theorem okM_hasKind : okM LM 1 224 sM_hasKind := by
  refine qmeth [] false [] 34 rfl trivial ?_
  rintro _ A K hA has ⟨c, k, rfl, ⟨i0, j0, p1, p2⟩, hK⟩
  have rg_c : rng c := has (ni c) (by simp)
  have rg_k : rng k := has (ni k) (by simp)
  have f0 := frm_0 [] [] A
  have hT : _ = fM_hasKind c k A := (fM_hasKind.eq_1 c k A).symm
  refine ⟨Nat.le_of_ble_eq_true rfl, [(4, [(0, 2, 0), (1, 0, 0), (2, 0, 0), (3, 0, 0)], fun zs B nn => match zs with | [l1, l2, j] => A = B ∧ nn = (48 - j : Int).toNat ∧ (l1 = c) ∧ (l2 = k) ∧ (0 ≤ l1) ∧ (l1 ≤ 7) ∧ (0 ≤ j) ∧ (j ≤ 48) ∧ (∃ nf : Nat, nn < nf ∧ fM_hasKind_L nf 4 [l1, l2, j] B = fM_hasKind c k A) | _ => False)], ?_, ?_⟩
  · refine ⟨⟨rfl, ?_⟩, trivial⟩
    · refine fun l1 l2 j B mm hB hz hI => ?_
      obtain ⟨rfl, hm, c0, c1, c2, c3, c4, c5, ⟨nf, hnf, hT⟩⟩ := hI
      obtain ⟨hz_l1, hz_l2, hz_j, _⟩ := hz
      obtain ⟨ng, rfl⟩ : ∃ k, nf = k + 1 := ⟨nf - 1, by omega⟩
      replace hT := (fM_hasKind_c4.eq_1 (fM_hasKind_L ng) l1 l2 j A).symm.trans ((fM_hasKind_L4 ng l1 l2 j A).symm.trans hT)
      refine fun v5 e6 => ?_
      replace hT := qlc e6 hT
      refine fun v7 e8 => ?_
      replace hT := qlc e8 hT
      refine And.intro (by (first | (clear hm hnf; omega) | omega)) (And.intro (fun h9 => ?_) (fun h9 => ?_))
      · replace hT := (if_neg (Int.not_lt.mpr h9)).symm.trans hT
        exact And.intro (by (first | (clear hm hnf; omega) | omega)) (hK _ (by (first | (clear hm hnf; omega) | omega)) (by (first | (clear hm hnf; omega) | omega)) hT)
      · replace hT := (if_pos h9).symm.trans hT
        refine And.intro (by (first | (clear hm hnf; omega) | omega)) (fun v10 gv10 e11 => ?_)
        replace hT := qlc e11 hT
        have b12 := iva_at i0 0 rfl (i := j) (by (first | (clear hm hnf; omega) | omega)) (by (first | (clear hm hnf; omega) | omega))
        refine And.intro (fun h13 => ?_) (fun h13 => ?_)
        · replace hT := (if_pos h13).symm.trans hT
          refine fun v14 e15 => ?_
          replace hT := qlc e15 hT
          exact And.intro (by (first | (clear hm hnf; omega) | omega)) (Exists.intro (48 - v14 : Int).toNat (And.intro (by first | exact qtn hm (by (try clear hm hnf); omega) | omega) (And.intro rfl (And.intro rfl (And.intro (by (first | (clear hm hnf; omega) | omega)) (And.intro (by (first | (clear hm hnf; omega) | omega)) (And.intro (by (first | (clear hm hnf; omega) | omega)) (And.intro (by (first | (clear hm hnf; omega) | omega)) (And.intro (by (first | (clear hm hnf; omega) | omega)) (And.intro (by (first | (clear hm hnf; omega) | omega)) (Exists.intro ng (And.intro (by first | exact qtm hm hnf (by (try clear hm hnf); omega) | omega) hT))))))))))))
        · replace hT := (if_neg h13).symm.trans hT
          refine And.intro (by (first | (clear hm hnf; omega) | omega)) (fun v16 gv16 e17 => ?_)
          replace hT := qlc e17 hT
          have b18 := iva_at i0 2 rfl (i := j) (by (first | (clear hm hnf; omega) | omega)) (by (first | (clear hm hnf; omega) | omega))
          refine And.intro (fun h19 => ?_) (fun h19 => ?_)
          · replace hT := (if_neg h19).symm.trans hT
            refine fun v20 e21 => ?_
            replace hT := qlc e21 hT
            exact And.intro (by (first | (clear hm hnf; omega) | omega)) (Exists.intro (48 - v20 : Int).toNat (And.intro (by first | exact qtn hm (by (try clear hm hnf); omega) | omega) (And.intro rfl (And.intro rfl (And.intro (by (first | (clear hm hnf; omega) | omega)) (And.intro (by (first | (clear hm hnf; omega) | omega)) (And.intro (by (first | (clear hm hnf; omega) | omega)) (And.intro (by (first | (clear hm hnf; omega) | omega)) (And.intro (by (first | (clear hm hnf; omega) | omega)) (And.intro (by (first | (clear hm hnf; omega) | omega)) (Exists.intro ng (And.intro (by first | exact qtm hm hnf (by (try clear hm hnf); omega) | omega) hT))))))))))))
          · replace hT := (if_pos h19).symm.trans hT
            exact And.intro (by (first | (clear hm hnf; omega) | omega)) (hK _ (by (first | (clear hm hnf; omega) | omega)) (by (first | (clear hm hnf; omega) | omega)) hT)
  · refine fun v3 e4 => ?_
    replace hT := qlc e4 hT
    exact And.intro (by (first | (clear hm hnf; omega) | omega)) (Exists.intro (48 - v3 : Int).toNat (And.intro rfl (And.intro rfl (And.intro (by (first | (clear hm hnf; omega) | omega)) (And.intro (by (first | (clear hm hnf; omega) | omega)) (And.intro (by (first | (clear hm hnf; omega) | omega)) (And.intro (by (first | (clear hm hnf; omega) | omega)) (And.intro (by (first | (clear hm hnf; omega) | omega)) (And.intro (by (first | (clear hm hnf; omega) | omega)) (Exists.intro 100000 (And.intro (by (first | (clear hm hnf; omega) | omega)) hT)))))))))))
theorem pM_hasKind {c k : Int} {A : qA} (hA : qokA LM A) (rg_k : rng k) (p0 : iva IM A) (p1 : ivf JM A) (p2 : 0 ≤ c) (p3 : c ≤ 7) : (0 ≤ (fM_hasKind c k A) ∧ (fM_hasKind c k A) ≤ 1) := by
  obtain ⟨r, B, hB, _, hk⟩ := okM_ex okM_hasKind (as := [rf 0, ni c, ni k]) (K := fun _ B => B = A ∧ (0 ≤ (fM_hasKind c k A) ∧ (fM_hasKind c k A) ≤ 1)) hA (qoks_c (show qok (rf _) from trivial) (qoks_c (show rng c from ⟨by (first | (clear hm hnf; omega) | omega), by (first | (clear hm hnf; omega) | omega)⟩) (qoks_c (rg_k) qoks_n))) ⟨c, k, rfl, ⟨p0, p1, p2, p3⟩, fun r9 g8 g9 x0 => (by rw [← x0]; exact ⟨rfl, ⟨g8, g9⟩⟩)⟩
  exact hk.2
def fM_takesUp_c2 (rec : Nat → List Int → qA → Int × qA) (l1 l2 x : Int) (B : qA) : Int × qA := (if x < 8 then qlet (fM_hasKind x l2 B) fun r13 => (if r13 = 0 then qlet (x + 1) fun v38 => rec 2 [l1, l2, v38] B else qlet (B 55 x) fun v18 => qlet (B 54 x) fun v20 => qlet (jadd v18 v20) fun v22 => qlet (qu B 55 x v22) fun A24 => qlet ((0 : Int)) fun v29 => qlet (qu A24 54 x v29) fun A31 => qlet (x + 1) fun v36 => rec 2 [l1, l2, v36] A31) else qlet (B 55 l1) fun v4 => qlet ((0 : Int)) fun v6 => qlet (qu B 55 l1 v6) fun A8 => (v4, A8))
def fM_takesUp_L : Nat → Nat → List Int → qA → Int × qA
  | 0 => fun _ _ B => (0, B)
  | nF + 1 => fun k zs B => bif Nat.beq k 2 then (match zs with | [l1, l2, x] => fM_takesUp_c2 (fM_takesUp_L nF) l1 l2 x B | _ => (0, B)) else (0, B)
theorem fM_takesUp_L2 (nF : Nat) (l1 l2 x : Int) (B : qA) : fM_takesUp_L (nF + 1) 2 [l1, l2, x] B = fM_takesUp_c2 (fM_takesUp_L nF) l1 l2 x B := (congrFun (congrFun (congrFun (fM_takesUp_L.eq_2 nF) 2) [l1, l2, x]) B).trans (qL1 rfl rfl)
def fM_takesUp (t k : Int) (A : qA) : Int × qA := (fM_takesUp_L 100000) 2 [t, k, 0] A
def sM_takesUp : qS := fun as A K => ∃ t k : Int, as = [rf 0, ni t, ni k] ∧ (iva IM A ∧ ivf JM A ∧ 0 ≤ t ∧ t ≤ 7) ∧ (∀ A' : qA, iva IM A' → ivf JM A' → frm [54, 55] [] A A' → ∀ r : Int, rngL r → (r = (fM_takesUp t k A).1) → (A' = (fM_takesUp t k A).2) → K (some (nl r)) A')
theorem okM_takesUp : okM LM 2 225 sM_takesUp := by
  refine qmeth [] false [(224, sM_hasKind)] 49 rfl ⟨okM_hasKind.le (by decide), trivial⟩ ?_
  rintro _ A K hA has ⟨t, k, rfl, ⟨i0, j0, p1, p2⟩, hK⟩
  have rg_t : rng t := has (ni t) (by simp)
  have rg_k : rng k := has (ni k) (by simp)
  have f0 := frm_0 [54, 55] [] A
  have hT : _ = fM_takesUp t k A := (fM_takesUp.eq_1 t k A).symm
  refine ⟨Nat.le_of_ble_eq_true rfl, [(2, [(0, 2, 0), (1, 0, 0), (2, 0, 0), (3, 0, 0)], fun zs B nn => match zs with | [l1, l2, x] => iva IM B ∧ ivf JM B ∧ frm [54, 55] [] A B ∧ nn = (8 - x : Int).toNat ∧ (l1 = t) ∧ (l2 = k) ∧ (0 ≤ x) ∧ (x ≤ 8) ∧ (∃ nf : Nat, nn < nf ∧ fM_takesUp_L nf 2 [l1, l2, x] B = fM_takesUp t k A) | _ => False)], ?_, ?_⟩
  · refine ⟨⟨rfl, ?_⟩, trivial⟩
    · refine fun l1 l2 x B mm hB hz hI => ?_
      obtain ⟨i1, j1, f1, hm, c0, c1, c2, c3, ⟨nf, hnf, hT⟩⟩ := hI
      obtain ⟨hz_l1, hz_l2, hz_x, _⟩ := hz
      obtain ⟨ng, rfl⟩ : ∃ k, nf = k + 1 := ⟨nf - 1, by omega⟩
      replace hT := (fM_takesUp_c2.eq_1 (fM_takesUp_L ng) l1 l2 x B).symm.trans ((fM_takesUp_L2 ng l1 l2 x B).symm.trans hT)
      refine And.intro (fun h3 => ?_) (fun h3 => ?_)
      · replace hT := (if_neg (Int.not_lt.mpr h3)).symm.trans hT
        refine And.intro (by (first | (clear hm hnf; omega) | omega)) (fun v4 e5 => ?_)
        replace hT := qlc e5 hT
        refine fun (v6 : Int) (e7 : v6 = 0) => ?_
        replace hT := qlc e7 hT
        refine And.intro (by (first | (clear hm hnf; omega) | omega)) (fun A8 e9 => ?_)
        replace hT := qlc e9 hT
        have i10 := iva_st i1 e9 trivial
        have j11 := ivf_sa j1 e9 rfl
        have f12 := frm_s f1 e9 rfl
        exact hK _ i10 j11 f12 _ (by first | assumption | omega | (subst_vars; exact l_rng _) | (subst_vars; exact (hB _ _).1) | exact qnL_rng (by decide)) (congrArg Prod.fst hT) (congrArg Prod.snd hT)
      · replace hT := (if_pos h3).symm.trans hT
        refine Exists.intro x (Exists.intro l2 (And.intro rfl (And.intro (And.intro i1 (And.intro j1 (And.intro (by (first | (clear hm hnf; omega) | omega)) (by (first | (clear hm hnf; omega) | omega))))) (fun r13 g15 g16 g14 => ?_))))
        replace hT := qlc g14 hT
        clear g14
        refine And.intro (fun h17 => ?_) (fun h17 => ?_)
        · replace hT := (if_neg h17).symm.trans hT
          refine And.intro (by (first | (clear hm hnf; omega) | omega)) (fun v18 e19 => ?_)
          replace hT := qlc e19 hT
          refine And.intro (by (first | (clear hm hnf; omega) | omega)) (fun v20 e21 => ?_)
          replace hT := qlc e21 hT
          refine fun v22 e23 => ?_
          replace hT := qlc e23 hT
          refine And.intro (by (first | (clear hm hnf; omega) | omega)) (fun A24 e25 => ?_)
          replace hT := qlc e25 hT
          have i26 := iva_st i1 e25 trivial
          have j27 := ivf_sa j1 e25 rfl
          have f28 := frm_s f1 e25 rfl
          refine fun (v29 : Int) (e30 : v29 = 0) => ?_
          replace hT := qlc e30 hT
          refine And.intro (by (first | (clear hm hnf; omega) | omega)) (fun A31 e32 => ?_)
          replace hT := qlc e32 hT
          have i33 := iva_st i26 e32 trivial
          have j34 := ivf_sa j27 e32 rfl
          have f35 := frm_s f28 e32 rfl
          refine fun v36 e37 => ?_
          replace hT := qlc e37 hT
          exact And.intro (by (first | (clear hm hnf; omega) | omega)) (Exists.intro (8 - v36 : Int).toNat (And.intro (by first | exact qtn hm (by (try clear hm hnf); omega) | omega) (And.intro i33 (And.intro j34 (And.intro f35 (And.intro rfl (And.intro (by (first | (clear hm hnf; omega) | omega)) (And.intro (by (first | (clear hm hnf; omega) | omega)) (And.intro (by (first | (clear hm hnf; omega) | omega)) (And.intro (by (first | (clear hm hnf; omega) | omega)) (Exists.intro ng (And.intro (by first | exact qtm hm hnf (by (try clear hm hnf); omega) | omega) hT))))))))))))
        · replace hT := (if_pos h17).symm.trans hT
          refine fun v38 e39 => ?_
          replace hT := qlc e39 hT
          exact And.intro (by (first | (clear hm hnf; omega) | omega)) (Exists.intro (8 - v38 : Int).toNat (And.intro (by first | exact qtn hm (by (try clear hm hnf); omega) | omega) (And.intro i1 (And.intro j1 (And.intro f1 (And.intro rfl (And.intro (by (first | (clear hm hnf; omega) | omega)) (And.intro (by (first | (clear hm hnf; omega) | omega)) (And.intro (by (first | (clear hm hnf; omega) | omega)) (And.intro (by (first | (clear hm hnf; omega) | omega)) (Exists.intro ng (And.intro (by first | exact qtm hm hnf (by (try clear hm hnf); omega) | omega) hT))))))))))))
  · exact Exists.intro (8 - 0 : Int).toNat (And.intro i0 (And.intro j0 (And.intro f0 (And.intro rfl (And.intro (by (first | (clear hm hnf; omega) | omega)) (And.intro (by (first | (clear hm hnf; omega) | omega)) (And.intro (by (first | (clear hm hnf; omega) | omega)) (And.intro (by (first | (clear hm hnf; omega) | omega)) (Exists.intro 100000 (And.intro (by (first | (clear hm hnf; omega) | omega)) hT))))))))))
theorem pM_takesUp {t k : Int} {A : qA} (hA : qokA LM A) (rg_k : rng k) (p0 : iva IM A) (p1 : ivf JM A) (p2 : 0 ≤ t) (p3 : t ≤ 7) : qokA LM (fM_takesUp t k A).2 ∧ iva IM (fM_takesUp t k A).2 ∧ ivf JM (fM_takesUp t k A).2 ∧ frm [54, 55] [] A (fM_takesUp t k A).2 ∧ rngL (fM_takesUp t k A).1 := by
  obtain ⟨r, B, hB, _, hk⟩ := okM_ex okM_takesUp (as := [rf 0, ni t, ni k]) (K := fun _ B => B = (fM_takesUp t k A).2 ∧ iva IM (fM_takesUp t k A).2 ∧ ivf JM (fM_takesUp t k A).2 ∧ frm [54, 55] [] A (fM_takesUp t k A).2 ∧ rngL (fM_takesUp t k A).1) hA (qoks_c (show qok (rf _) from trivial) (qoks_c (show rng t from ⟨by (first | (clear hm hnf; omega) | omega), by (first | (clear hm hnf; omega) | omega)⟩) (qoks_c (rg_k) qoks_n))) ⟨t, k, rfl, ⟨p0, p1, p2, p3⟩, fun A9 i9 j9 f9 r9 g9 x0 x1 => (by rw [← x1]; (try rw [← x0]); exact ⟨rfl, i9, j9, f9, g9⟩)⟩
  exact ⟨hk.1 ▸ hB, hk.2⟩
def fM_moved (x b : Int) (A : qA) : Int := qlet (x + b) fun v5 => (if v5 < 0 then x else qlet (x + b) fun v8 => (if 7 < v8 then x else qlet (x + b) fun v11 => v11))
def sM_moved : qS := fun as A K => ∃ x b : Int, as = [ni x, ni b] ∧ (0 ≤ x ∧ x ≤ 7 ∧ (-1) ≤ b ∧ b ≤ 1) ∧ (∀ r : Int, 0 ≤ r → r ≤ 7 → (r = fM_moved x b A) → K (some (ni r)) A)
theorem okM_moved : okM LM 1 226 sM_moved := by
  refine qmeth [] false [] 21 rfl trivial ?_
  rintro _ A K hA has ⟨x, b, rfl, ⟨p1, p2, p3, p4⟩, hK⟩
  have rg_x : rng x := has (ni x) (by simp)
  have rg_b : rng b := has (ni b) (by simp)
  have hT : _ = fM_moved x b A := (fM_moved.eq_1 x b A).symm
  refine ⟨Nat.le_of_ble_eq_true rfl, [], trivial, ?_⟩
  refine fun v5 e6 => ?_
  replace hT := qlc e6 hT
  refine And.intro (by (first | (clear hm hnf; omega) | omega)) (And.intro (fun h7 => ?_) (fun h7 => ?_))
  · replace hT := (if_pos h7).symm.trans hT
    exact hK _ (by (first | (clear hm hnf; omega) | omega)) (by (first | (clear hm hnf; omega) | omega)) hT
  · replace hT := (if_neg (Int.not_lt.mpr h7)).symm.trans hT
    refine fun v8 e9 => ?_
    replace hT := qlc e9 hT
    refine And.intro (by (first | (clear hm hnf; omega) | omega)) (And.intro (fun h10 => ?_) (fun h10 => ?_))
    · replace hT := (if_neg (Int.not_lt.mpr h10)).symm.trans hT
      refine fun v11 e12 => ?_
      replace hT := qlc e12 hT
      exact And.intro (by (first | (clear hm hnf; omega) | omega)) (hK _ (by (first | (clear hm hnf; omega) | omega)) (by (first | (clear hm hnf; omega) | omega)) hT)
    · replace hT := (if_pos h10).symm.trans hT
      exact hK _ (by (first | (clear hm hnf; omega) | omega)) (by (first | (clear hm hnf; omega) | omega)) hT
theorem pM_moved {x b : Int} {A : qA} (hA : qokA LM A) (p0 : 0 ≤ x) (p1 : x ≤ 7) (p2 : (-1) ≤ b) (p3 : b ≤ 1) : (0 ≤ (fM_moved x b A) ∧ (fM_moved x b A) ≤ 7) := by
  obtain ⟨r, B, hB, _, hk⟩ := okM_ex okM_moved (as := [ni x, ni b]) (K := fun _ B => B = A ∧ (0 ≤ (fM_moved x b A) ∧ (fM_moved x b A) ≤ 7)) hA (qoks_c (show rng x from ⟨by (first | (clear hm hnf; omega) | omega), by (first | (clear hm hnf; omega) | omega)⟩) (qoks_c (show rng b from ⟨by (first | (clear hm hnf; omega) | omega), by (first | (clear hm hnf; omega) | omega)⟩) qoks_n)) ⟨x, b, rfl, ⟨p0, p1, p2, p3⟩, fun r9 g8 g9 x0 => (by rw [← x0]; exact ⟨rfl, ⟨g8, g9⟩⟩)⟩
  exact hk.2
def fM_flies_c2 (rec : Nat → List Int → qA → qA) (x : Int) (B : qA) : qA := (if x < 8 then qlet ((0 : Int)) fun v2 => qlet (qu B 56 x v2) fun A4 => qlet ((0 : Int)) fun v9 => qlet (qu A4 57 x v9) fun A11 => qlet (x + 1) fun v16 => rec 2 [v16] A11 else rec 19 [0] B)
def fM_flies_c19 (rec : Nat → List Int → qA → qA) (x : Int) (B : qA) : qA := (if x < 8 then rec 24 [x, (-1)] B else rec 63 [0] B)
def fM_flies_c63 (rec : Nat → List Int → qA → qA) (x : Int) (B : qA) : qA := (if x < 8 then qlet (B 56 x) fun v20 => qlet (qu B 54 x v20) fun A22 => qlet (A22 57 x) fun v27 => qlet (qu A22 55 x v27) fun A29 => qlet (x + 1) fun v34 => rec 63 [v34] A29 else B)
def fM_flies_c24 (rec : Nat → List Int → qA → qA) (x b : Int) (B : qA) : qA := (if b < 2 then qlet (fM_moved x b B) fun r39 => qlet (B 56 r39) fun v43 => qlet (B 54 x) fun v45 => qlet (jadd v43 v45) fun v47 => qlet (qu B 56 r39 v47) fun A49 => qlet (A49 57 r39) fun v54 => qlet (A49 55 x) fun v56 => qlet (jadd v54 v56) fun v58 => qlet (qu A49 57 r39 v58) fun A60 => qlet (b + 1) fun v65 => rec 24 [x, v65] A60 else qlet (x + 1) fun v37 => rec 19 [v37] B)
def fM_flies_L : Nat → Nat → List Int → qA → qA
  | 0 => fun _ _ B => B
  | nF + 1 => fun k zs B => bif Nat.beq k 2 then (match zs with | [x] => fM_flies_c2 (fM_flies_L nF) x B | _ => B) else bif Nat.beq k 19 then (match zs with | [x] => fM_flies_c19 (fM_flies_L nF) x B | _ => B) else bif Nat.beq k 63 then (match zs with | [x] => fM_flies_c63 (fM_flies_L nF) x B | _ => B) else bif Nat.beq k 24 then (match zs with | [x, b] => fM_flies_c24 (fM_flies_L nF) x b B | _ => B) else B
theorem fM_flies_L2 (nF : Nat) (x : Int) (B : qA) : fM_flies_L (nF + 1) 2 [x] B = fM_flies_c2 (fM_flies_L nF) x B := (congrFun (congrFun (congrFun (fM_flies_L.eq_2 nF) 2) [x]) B).trans (qL1 rfl rfl)
theorem fM_flies_L19 (nF : Nat) (x : Int) (B : qA) : fM_flies_L (nF + 1) 19 [x] B = fM_flies_c19 (fM_flies_L nF) x B := (congrFun (congrFun (congrFun (fM_flies_L.eq_2 nF) 19) [x]) B).trans (qL0 rfl (qL1 rfl rfl))
theorem fM_flies_L63 (nF : Nat) (x : Int) (B : qA) : fM_flies_L (nF + 1) 63 [x] B = fM_flies_c63 (fM_flies_L nF) x B := (congrFun (congrFun (congrFun (fM_flies_L.eq_2 nF) 63) [x]) B).trans (qL0 rfl (qL0 rfl (qL1 rfl rfl)))
theorem fM_flies_L24 (nF : Nat) (x b : Int) (B : qA) : fM_flies_L (nF + 1) 24 [x, b] B = fM_flies_c24 (fM_flies_L nF) x b B := (congrFun (congrFun (congrFun (fM_flies_L.eq_2 nF) 24) [x, b]) B).trans (qL0 rfl (qL0 rfl (qL0 rfl (qL1 rfl rfl))))
def fM_flies (A : qA) : qA := (fM_flies_L 100000) 2 [0] A
def sM_flies : qS := fun as A K => as = [rf 0] ∧ (iva IM A ∧ ivf JM A) ∧ (∀ A' : qA, iva IM A' → ivf JM A' → frm [54, 55, 56, 57] [] A A' → (A' = fM_flies A) → K none A')
theorem okM_flies : okM LM 2 227 sM_flies := by
  refine qmeth [] false [(226, sM_moved)] 91 rfl ⟨okM_moved.le (by decide), trivial⟩ ?_
  rintro _ A K hA has ⟨rfl, ⟨i0, j0⟩, hK⟩
  have f0 := frm_0 [54, 55, 56, 57] [] A
  have hT : _ = fM_flies A := (fM_flies.eq_1 A).symm
  refine ⟨Nat.le_of_ble_eq_true rfl, [(2, [(0, 2, 0), (1, 0, 0)], fun zs B nn => match zs with | [x] => iva IM B ∧ ivf JM B ∧ frm [54, 55, 56, 57] [] A B ∧ nn = (3000 - x : Int).toNat ∧ (0 ≤ x) ∧ (x ≤ 8) ∧ (∃ nf : Nat, nn < nf ∧ fM_flies_L nf 2 [x] B = fM_flies A) | _ => False), (19, [(0, 2, 0), (1, 0, 0)], fun zs B nn => match zs with | [x] => iva IM B ∧ ivf JM B ∧ frm [54, 55, 56, 57] [] A B ∧ nn = (2000 - x * 10 : Int).toNat ∧ (0 ≤ x) ∧ (x ≤ 8) ∧ (∃ nf : Nat, nn < nf ∧ fM_flies_L nf 19 [x] B = fM_flies A) | _ => False), (63, [(0, 2, 0), (1, 0, 0)], fun zs B nn => match zs with | [x] => iva IM B ∧ ivf JM B ∧ frm [54, 55, 56, 57] [] A B ∧ nn = (8 - x : Int).toNat ∧ (0 ≤ x) ∧ (x ≤ 8) ∧ (∃ nf : Nat, nn < nf ∧ fM_flies_L nf 63 [x] B = fM_flies A) | _ => False), (24, [(0, 2, 0), (1, 0, 0), (2, 0, 0)], fun zs B nn => match zs with | [x, b] => iva IM B ∧ ivf JM B ∧ frm [54, 55, 56, 57] [] A B ∧ nn = (2000 - x * 10 - 3 - b : Int).toNat ∧ (0 ≤ x) ∧ (x ≤ 7) ∧ ((-1) ≤ b) ∧ (b ≤ 2) ∧ (∃ nf : Nat, nn < nf ∧ fM_flies_L nf 24 [x, b] B = fM_flies A) | _ => False)], ?_, ?_⟩
  · refine ⟨⟨rfl, ?_⟩, ⟨rfl, ?_⟩, ⟨rfl, ?_⟩, ⟨rfl, ?_⟩, trivial⟩
    · refine fun x B mm hB hz hI => ?_
      obtain ⟨i1, j1, f1, hm, c0, c1, ⟨nf, hnf, hT⟩⟩ := hI
      obtain ⟨hz_x, _⟩ := hz
      obtain ⟨ng, rfl⟩ : ∃ k, nf = k + 1 := ⟨nf - 1, by omega⟩
      replace hT := (fM_flies_c2.eq_1 (fM_flies_L ng) x B).symm.trans ((fM_flies_L2 ng x B).symm.trans hT)
      refine And.intro (fun h1 => ?_) (fun h1 => ?_)
      · replace hT := (if_neg (Int.not_lt.mpr h1)).symm.trans hT
        exact Exists.intro (2000 - 0 * 10 : Int).toNat (And.intro (by first | exact qtn hm (by (try clear hm hnf); omega) | omega) (And.intro i1 (And.intro j1 (And.intro f1 (And.intro rfl (And.intro (by (first | (clear hm hnf; omega) | omega)) (And.intro (by (first | (clear hm hnf; omega) | omega)) (Exists.intro ng (And.intro (by first | exact qtm hm hnf (by (try clear hm hnf); omega) | omega) hT)))))))))
      · replace hT := (if_pos h1).symm.trans hT
        refine fun (v2 : Int) (e3 : v2 = 0) => ?_
        replace hT := qlc e3 hT
        refine And.intro (by (first | (clear hm hnf; omega) | omega)) (fun A4 e5 => ?_)
        replace hT := qlc e5 hT
        have i6 := iva_st i1 e5 trivial
        have j7 := ivf_sa j1 e5 rfl
        have f8 := frm_s f1 e5 rfl
        refine fun (v9 : Int) (e10 : v9 = 0) => ?_
        replace hT := qlc e10 hT
        refine And.intro (by (first | (clear hm hnf; omega) | omega)) (fun A11 e12 => ?_)
        replace hT := qlc e12 hT
        have i13 := iva_st i6 e12 trivial
        have j14 := ivf_sa j7 e12 rfl
        have f15 := frm_s f8 e12 rfl
        refine fun v16 e17 => ?_
        replace hT := qlc e17 hT
        exact And.intro (by (first | (clear hm hnf; omega) | omega)) (Exists.intro (3000 - v16 : Int).toNat (And.intro (by first | exact qtn hm (by (try clear hm hnf); omega) | omega) (And.intro i13 (And.intro j14 (And.intro f15 (And.intro rfl (And.intro (by (first | (clear hm hnf; omega) | omega)) (And.intro (by (first | (clear hm hnf; omega) | omega)) (Exists.intro ng (And.intro (by first | exact qtm hm hnf (by (try clear hm hnf); omega) | omega) hT))))))))))
    · refine fun x B mm hB hz hI => ?_
      obtain ⟨i1, j1, f1, hm, c0, c1, ⟨nf, hnf, hT⟩⟩ := hI
      obtain ⟨hz_x, _⟩ := hz
      obtain ⟨ng, rfl⟩ : ∃ k, nf = k + 1 := ⟨nf - 1, by omega⟩
      replace hT := (fM_flies_c19.eq_1 (fM_flies_L ng) x B).symm.trans ((fM_flies_L19 ng x B).symm.trans hT)
      refine And.intro (fun h18 => ?_) (fun h18 => ?_)
      · replace hT := (if_neg (Int.not_lt.mpr h18)).symm.trans hT
        exact Exists.intro (8 - 0 : Int).toNat (And.intro (by first | exact qtn hm (by (try clear hm hnf); omega) | omega) (And.intro i1 (And.intro j1 (And.intro f1 (And.intro rfl (And.intro (by (first | (clear hm hnf; omega) | omega)) (And.intro (by (first | (clear hm hnf; omega) | omega)) (Exists.intro ng (And.intro (by first | exact qtm hm hnf (by (try clear hm hnf); omega) | omega) hT)))))))))
      · replace hT := (if_pos h18).symm.trans hT
        exact Exists.intro (2000 - x * 10 - 3 - (-1) : Int).toNat (And.intro (by first | exact qtn hm (by (try clear hm hnf); omega) | omega) (And.intro i1 (And.intro j1 (And.intro f1 (And.intro rfl (And.intro (by (first | (clear hm hnf; omega) | omega)) (And.intro (by (first | (clear hm hnf; omega) | omega)) (And.intro (by (first | (clear hm hnf; omega) | omega)) (And.intro (by (first | (clear hm hnf; omega) | omega)) (Exists.intro ng (And.intro (by first | exact qtm hm hnf (by (try clear hm hnf); omega) | omega) hT)))))))))))
    · refine fun x B mm hB hz hI => ?_
      obtain ⟨i1, j1, f1, hm, c0, c1, ⟨nf, hnf, hT⟩⟩ := hI
      obtain ⟨hz_x, _⟩ := hz
      obtain ⟨ng, rfl⟩ : ∃ k, nf = k + 1 := ⟨nf - 1, by omega⟩
      replace hT := (fM_flies_c63.eq_1 (fM_flies_L ng) x B).symm.trans ((fM_flies_L63 ng x B).symm.trans hT)
      refine And.intro (fun h19 => ?_) (fun h19 => ?_)
      · replace hT := (if_neg (Int.not_lt.mpr h19)).symm.trans hT
        exact hK _ i1 j1 f1 hT
      · replace hT := (if_pos h19).symm.trans hT
        refine And.intro (by (first | (clear hm hnf; omega) | omega)) (fun v20 e21 => ?_)
        replace hT := qlc e21 hT
        refine And.intro (by (first | (clear hm hnf; omega) | omega)) (fun A22 e23 => ?_)
        replace hT := qlc e23 hT
        have i24 := iva_st i1 e23 trivial
        have j25 := ivf_sa j1 e23 rfl
        have f26 := frm_s f1 e23 rfl
        refine And.intro (by (first | (clear hm hnf; omega) | omega)) (fun v27 e28 => ?_)
        replace hT := qlc e28 hT
        refine And.intro (by (first | (clear hm hnf; omega) | omega)) (fun A29 e30 => ?_)
        replace hT := qlc e30 hT
        have i31 := iva_st i24 e30 trivial
        have j32 := ivf_sa j25 e30 rfl
        have f33 := frm_s f26 e30 rfl
        refine fun v34 e35 => ?_
        replace hT := qlc e35 hT
        exact And.intro (by (first | (clear hm hnf; omega) | omega)) (Exists.intro (8 - v34 : Int).toNat (And.intro (by first | exact qtn hm (by (try clear hm hnf); omega) | omega) (And.intro i31 (And.intro j32 (And.intro f33 (And.intro rfl (And.intro (by (first | (clear hm hnf; omega) | omega)) (And.intro (by (first | (clear hm hnf; omega) | omega)) (Exists.intro ng (And.intro (by first | exact qtm hm hnf (by (try clear hm hnf); omega) | omega) hT))))))))))
    · refine fun x b B mm hB hz hI => ?_
      obtain ⟨i1, j1, f1, hm, c0, c1, c2, c3, ⟨nf, hnf, hT⟩⟩ := hI
      obtain ⟨hz_x, hz_b, _⟩ := hz
      obtain ⟨ng, rfl⟩ : ∃ k, nf = k + 1 := ⟨nf - 1, by omega⟩
      replace hT := (fM_flies_c24.eq_1 (fM_flies_L ng) x b B).symm.trans ((fM_flies_L24 ng x b B).symm.trans hT)
      refine And.intro (fun h36 => ?_) (fun h36 => ?_)
      · replace hT := (if_neg (Int.not_lt.mpr h36)).symm.trans hT
        refine fun v37 e38 => ?_
        replace hT := qlc e38 hT
        exact And.intro (by (first | (clear hm hnf; omega) | omega)) (Exists.intro (2000 - v37 * 10 : Int).toNat (And.intro (by first | exact qtn hm (by (try clear hm hnf); omega) | omega) (And.intro i1 (And.intro j1 (And.intro f1 (And.intro rfl (And.intro (by (first | (clear hm hnf; omega) | omega)) (And.intro (by (first | (clear hm hnf; omega) | omega)) (Exists.intro ng (And.intro (by first | exact qtm hm hnf (by (try clear hm hnf); omega) | omega) hT))))))))))
      · replace hT := (if_pos h36).symm.trans hT
        refine Exists.intro x (Exists.intro b (And.intro rfl (And.intro (And.intro (by (first | (clear hm hnf; omega) | omega)) (And.intro (by (first | (clear hm hnf; omega) | omega)) (And.intro (by (first | (clear hm hnf; omega) | omega)) (by (first | (clear hm hnf; omega) | omega))))) (fun r39 g41 g42 g40 => ?_))))
        replace hT := qlc g40 hT
        clear g40
        refine And.intro (by (first | (clear hm hnf; omega) | omega)) (fun v43 e44 => ?_)
        replace hT := qlc e44 hT
        refine And.intro (by (first | (clear hm hnf; omega) | omega)) (fun v45 e46 => ?_)
        replace hT := qlc e46 hT
        refine fun v47 e48 => ?_
        replace hT := qlc e48 hT
        refine And.intro (by (first | (clear hm hnf; omega) | omega)) (fun A49 e50 => ?_)
        replace hT := qlc e50 hT
        have i51 := iva_st i1 e50 trivial
        have j52 := ivf_sa j1 e50 rfl
        have f53 := frm_s f1 e50 rfl
        refine And.intro (by (first | (clear hm hnf; omega) | omega)) (fun v54 e55 => ?_)
        replace hT := qlc e55 hT
        refine And.intro (by (first | (clear hm hnf; omega) | omega)) (fun v56 e57 => ?_)
        replace hT := qlc e57 hT
        refine fun v58 e59 => ?_
        replace hT := qlc e59 hT
        refine And.intro (by (first | (clear hm hnf; omega) | omega)) (fun A60 e61 => ?_)
        replace hT := qlc e61 hT
        have i62 := iva_st i51 e61 trivial
        have j63 := ivf_sa j52 e61 rfl
        have f64 := frm_s f53 e61 rfl
        refine fun v65 e66 => ?_
        replace hT := qlc e66 hT
        exact And.intro (by (first | (clear hm hnf; omega) | omega)) (Exists.intro (2000 - x * 10 - 3 - v65 : Int).toNat (And.intro (by first | exact qtn hm (by (try clear hm hnf); omega) | omega) (And.intro i62 (And.intro j63 (And.intro f64 (And.intro rfl (And.intro (by (first | (clear hm hnf; omega) | omega)) (And.intro (by (first | (clear hm hnf; omega) | omega)) (And.intro (by (first | (clear hm hnf; omega) | omega)) (And.intro (by (first | (clear hm hnf; omega) | omega)) (Exists.intro ng (And.intro (by first | exact qtm hm hnf (by (try clear hm hnf); omega) | omega) hT))))))))))))
  · exact Exists.intro (3000 - 0 : Int).toNat (And.intro i0 (And.intro j0 (And.intro f0 (And.intro rfl (And.intro (by (first | (clear hm hnf; omega) | omega)) (And.intro (by (first | (clear hm hnf; omega) | omega)) (Exists.intro 100000 (And.intro (by (first | (clear hm hnf; omega) | omega)) hT))))))))
theorem pM_flies {A : qA} (hA : qokA LM A) (p0 : iva IM A) (p1 : ivf JM A) : qokA LM (fM_flies A) ∧ iva IM (fM_flies A) ∧ ivf JM (fM_flies A) ∧ frm [54, 55, 56, 57] [] A (fM_flies A) := by
  obtain ⟨r, B, hB, _, hk⟩ := okM_ex okM_flies (as := [rf 0]) (K := fun _ B => B = (fM_flies A) ∧ iva IM (fM_flies A) ∧ ivf JM (fM_flies A) ∧ frm [54, 55, 56, 57] [] A (fM_flies A)) hA (qoks_c (show qok (rf _) from trivial) qoks_n) ⟨rfl, ⟨p0, p1⟩, fun A9 i9 j9 f9 x0 => (by rw [← x0]; exact ⟨rfl, i9, j9, f9⟩)⟩
  exact ⟨hk.1 ▸ hB, hk.2⟩
def fM_pollinate_c18 (rec : Nat → List Int → qA → Int × qA) (l1 l2 s j : Int) (B : qA) : Int × qA := qlet (l1 + 1) fun v11 => qlet (6 * v11) fun v13 => (if j < (wI v13) then qlet (B 1 j) fun v18 => (if v18 = 0 then qlet (j + 1) fun v22 => rec 18 [l1, l2, s, ((wI v22))] B else qlet (B 7 j) fun v26 => (if v26 = l2 then qlet (B 2 j) fun v34 => (if v34 = 0 then qlet (qu B 2 j 1) fun A38 => qlet (s + 1) fun v43 => qlet (j + 1) fun v45 => rec 18 [l1, l2, ((wI v43)), ((wI v45))] A38 else qlet (j + 1) fun v50 => rec 18 [l1, l2, s, ((wI v50))] B) else qlet (j + 1) fun v30 => rec 18 [l1, l2, s, ((wI v30))] B)) else (s, B))
def fM_pollinate_L : Nat → Nat → List Int → qA → Int × qA
  | 0 => fun _ _ B => (0, B)
  | nF + 1 => fun k zs B => bif Nat.beq k 18 then (match zs with | [l1, l2, s, j] => fM_pollinate_c18 (fM_pollinate_L nF) l1 l2 s j B | _ => (0, B)) else (0, B)
theorem fM_pollinate_L18 (nF : Nat) (l1 l2 s j : Int) (B : qA) : fM_pollinate_L (nF + 1) 18 [l1, l2, s, j] B = fM_pollinate_c18 (fM_pollinate_L nF) l1 l2 s j B := (congrFun (congrFun (congrFun (fM_pollinate_L.eq_2 nF) 18) [l1, l2, s, j]) B).trans (qL1 rfl rfl)
def fM_pollinate (c k : Int) (A : qA) : Int × qA := (if 0 ≤ c ∧ c ≤ 7 then (if 0 ≤ k ∧ k ≤ 5 then qlet (6 * c) fun v5 => (fM_pollinate_L 100000) 18 [c, k, 0, ((wI v5))] A else ((-1), A)) else ((-1), A))
def sM_pollinate : qS := fun as A K => ∃ c k : Int, as = [rf 0, ni c, ni k] ∧ (iva IM A ∧ ivf JM A) ∧ (∀ A' : qA, iva IM A' → ivf JM A' → frm [2] [] A A' → ∀ r : Int, rng r → (r = (fM_pollinate c k A).1) → (A' = (fM_pollinate c k A).2) → K (some (ni r)) A')
theorem okM_pollinate : okM LM 2 230 sM_pollinate := by
  refine qmeth [] true [(145, sM_in)] 61 rfl ⟨okM_in.le (by decide), trivial⟩ ?_
  rintro _ A K hA has ⟨c, k, rfl, ⟨i0, j0⟩, hK⟩
  have rg_c : rng c := has (ni c) (by simp)
  have rg_k : rng k := has (ni k) (by simp)
  have f0 := frm_0 [2] [] A
  have hT : _ = fM_pollinate c k A := (fM_pollinate.eq_1 c k A).symm
  refine ⟨Nat.le_of_ble_eq_true rfl, [(18, [(0, 2, 0), (1, 0, 0), (2, 0, 0), (3, 0, 0), (4, 0, 0)], fun zs B nn => match zs with | [l1, l2, s, j] => iva IM B ∧ ivf JM B ∧ frm [2] [] A B ∧ nn = (48 - j : Int).toNat ∧ (l1 = c) ∧ (l2 = k) ∧ (0 ≤ l1) ∧ (l1 ≤ 7) ∧ (0 ≤ j) ∧ (j ≤ 48) ∧ (∃ nf : Nat, nn < nf ∧ fM_pollinate_L nf 18 [l1, l2, s, j] B = fM_pollinate c k A) | _ => False)], ?_, ?_⟩
  · refine ⟨⟨rfl, ?_⟩, trivial⟩
    · refine fun l1 l2 s j B mm hB hz hI => ?_
      obtain ⟨i1, j1, f1, hm, c0, c1, c2, c3, c4, c5, ⟨nf, hnf, hT⟩⟩ := hI
      obtain ⟨hz_l1, hz_l2, hz_s, hz_j, _⟩ := hz
      obtain ⟨ng, rfl⟩ : ∃ k, nf = k + 1 := ⟨nf - 1, by omega⟩
      replace hT := (fM_pollinate_c18.eq_1 (fM_pollinate_L ng) l1 l2 s j B).symm.trans ((fM_pollinate_L18 ng l1 l2 s j B).symm.trans hT)
      refine fun v11 e12 => ?_
      replace hT := qlc e12 hT
      refine fun v13 e14 => ?_
      replace hT := qlc e14 hT
      have w16 := wI_rng v13
      have w17 : wI v13 = v13 := wI_id (by (first | (clear hm hnf; omega) | omega))
      refine And.intro (fun h15 => ?_) (fun h15 => ?_)
      · replace hT := (if_neg (Int.not_lt.mpr h15)).symm.trans hT
        exact hK _ i1 j1 f1 _ (by first | assumption | exact ⟨by (first | (clear hm hnf; omega) | omega), by (first | (clear hm hnf; omega) | omega)⟩ | exact wI_rng _ | exact i_rng _ | (subst_vars; exact i_rng _) | exact (hA _ _).2 rfl) (congrArg Prod.fst hT) (congrArg Prod.snd hT)
      · replace hT := (if_pos h15).symm.trans hT
        refine And.intro (by (first | (clear hm hnf; omega) | omega)) (fun v18 gv18 e19 => ?_)
        replace hT := qlc e19 hT
        have b20 := iva_at i1 0 rfl (i := j) (by (first | (clear hm hnf; omega) | omega)) (by (first | (clear hm hnf; omega) | omega))
        refine And.intro (fun h21 => ?_) (fun h21 => ?_)
        · replace hT := (if_pos h21).symm.trans hT
          refine fun v22 e23 => ?_
          replace hT := qlc e23 hT
          have w24 := wI_rng v22
          have w25 : wI v22 = v22 := wI_id (by (first | (clear hm hnf; omega) | omega))
          exact Exists.intro (48 - ((wI v22)) : Int).toNat (And.intro (by first | exact qtn hm (by (try clear hm hnf); omega) | omega) (And.intro i1 (And.intro j1 (And.intro f1 (And.intro rfl (And.intro (by (first | (clear hm hnf; omega) | omega)) (And.intro (by (first | (clear hm hnf; omega) | omega)) (And.intro (by (first | (clear hm hnf; omega) | omega)) (And.intro (by (first | (clear hm hnf; omega) | omega)) (And.intro (by (first | (clear hm hnf; omega) | omega)) (And.intro (by (first | (clear hm hnf; omega) | omega)) (Exists.intro ng (And.intro (by first | exact qtm hm hnf (by (try clear hm hnf); omega) | omega) hT)))))))))))))
        · replace hT := (if_neg h21).symm.trans hT
          refine And.intro (by (first | (clear hm hnf; omega) | omega)) (fun v26 gv26 e27 => ?_)
          replace hT := qlc e27 hT
          have b28 := iva_at i1 2 rfl (i := j) (by (first | (clear hm hnf; omega) | omega)) (by (first | (clear hm hnf; omega) | omega))
          refine And.intro (fun h29 => ?_) (fun h29 => ?_)
          · replace hT := (if_neg h29).symm.trans hT
            refine fun v30 e31 => ?_
            replace hT := qlc e31 hT
            have w32 := wI_rng v30
            have w33 : wI v30 = v30 := wI_id (by (first | (clear hm hnf; omega) | omega))
            exact Exists.intro (48 - ((wI v30)) : Int).toNat (And.intro (by first | exact qtn hm (by (try clear hm hnf); omega) | omega) (And.intro i1 (And.intro j1 (And.intro f1 (And.intro rfl (And.intro (by (first | (clear hm hnf; omega) | omega)) (And.intro (by (first | (clear hm hnf; omega) | omega)) (And.intro (by (first | (clear hm hnf; omega) | omega)) (And.intro (by (first | (clear hm hnf; omega) | omega)) (And.intro (by (first | (clear hm hnf; omega) | omega)) (And.intro (by (first | (clear hm hnf; omega) | omega)) (Exists.intro ng (And.intro (by first | exact qtm hm hnf (by (try clear hm hnf); omega) | omega) hT)))))))))))))
          · replace hT := (if_pos h29).symm.trans hT
            refine And.intro (by (first | (clear hm hnf; omega) | omega)) (fun v34 gv34 e35 => ?_)
            replace hT := qlc e35 hT
            have b36 := iva_at i1 1 rfl (i := j) (by (first | (clear hm hnf; omega) | omega)) (by (first | (clear hm hnf; omega) | omega))
            refine And.intro (fun h37 => ?_) (fun h37 => ?_)
            · replace hT := (if_pos h37).symm.trans hT
              refine And.intro (by (first | (clear hm hnf; omega) | omega)) (And.intro (by (first | (clear hm hnf; omega) | omega)) (fun A38 e39 => ?_))
              replace hT := qlc e39 hT
              have i40 := iva_st i1 e39 (And.intro (by (first | (clear hm hnf; omega) | omega)) trivial)
              have j41 := ivf_sa j1 e39 rfl
              have f42 := frm_s f1 e39 rfl
              refine fun v43 e44 => ?_
              replace hT := qlc e44 hT
              refine fun v45 e46 => ?_
              replace hT := qlc e46 hT
              have w47 := wI_rng v43
              have w48 := wI_rng v45
              have w49 : wI v45 = v45 := wI_id (by (first | (clear hm hnf; omega) | omega))
              exact Exists.intro (48 - ((wI v45)) : Int).toNat (And.intro (by first | exact qtn hm (by (try clear hm hnf); omega) | omega) (And.intro i40 (And.intro j41 (And.intro f42 (And.intro rfl (And.intro (by (first | (clear hm hnf; omega) | omega)) (And.intro (by (first | (clear hm hnf; omega) | omega)) (And.intro (by (first | (clear hm hnf; omega) | omega)) (And.intro (by (first | (clear hm hnf; omega) | omega)) (And.intro (by (first | (clear hm hnf; omega) | omega)) (And.intro (by (first | (clear hm hnf; omega) | omega)) (Exists.intro ng (And.intro (by first | exact qtm hm hnf (by (try clear hm hnf); omega) | omega) hT)))))))))))))
            · replace hT := (if_neg h37).symm.trans hT
              refine fun v50 e51 => ?_
              replace hT := qlc e51 hT
              have w52 := wI_rng v50
              have w53 : wI v50 = v50 := wI_id (by (first | (clear hm hnf; omega) | omega))
              exact Exists.intro (48 - ((wI v50)) : Int).toNat (And.intro (by first | exact qtn hm (by (try clear hm hnf); omega) | omega) (And.intro i1 (And.intro j1 (And.intro f1 (And.intro rfl (And.intro (by (first | (clear hm hnf; omega) | omega)) (And.intro (by (first | (clear hm hnf; omega) | omega)) (And.intro (by (first | (clear hm hnf; omega) | omega)) (And.intro (by (first | (clear hm hnf; omega) | omega)) (And.intro (by (first | (clear hm hnf; omega) | omega)) (And.intro (by (first | (clear hm hnf; omega) | omega)) (Exists.intro ng (And.intro (by first | exact qtm hm hnf (by (try clear hm hnf); omega) | omega) hT)))))))))))))
  · refine Exists.intro c (Exists.intro 0 (Exists.intro 7 (And.intro rfl (And.intro (fun h1 => ?_) (fun h1 => ?_)))))
    · replace hT := (if_pos h1).symm.trans hT
      refine And.intro (fun h2 => by exfalso; omega) (fun h2 => ?_)
      refine Exists.intro k (Exists.intro 0 (Exists.intro 5 (And.intro rfl (And.intro (fun h3 => ?_) (fun h3 => ?_)))))
      · replace hT := (if_pos h3).symm.trans hT
        refine And.intro (fun h4 => ?_) (fun h4 => by exfalso; omega)
        refine fun v5 e6 => ?_
        replace hT := qlc e6 hT
        have w7 := wI_rng v5
        have w8 : wI v5 = v5 := wI_id (by (first | (clear hm hnf; omega) | omega))
        exact Exists.intro (48 - ((wI v5)) : Int).toNat (And.intro i0 (And.intro j0 (And.intro f0 (And.intro rfl (And.intro (by (first | (clear hm hnf; omega) | omega)) (And.intro (by (first | (clear hm hnf; omega) | omega)) (And.intro (by (first | (clear hm hnf; omega) | omega)) (And.intro (by (first | (clear hm hnf; omega) | omega)) (And.intro (by (first | (clear hm hnf; omega) | omega)) (And.intro (by (first | (clear hm hnf; omega) | omega)) (Exists.intro 100000 (And.intro (by (first | (clear hm hnf; omega) | omega)) hT))))))))))))
      · replace hT := (if_neg h3).symm.trans hT
        refine And.intro (fun h9 => by exfalso; omega) (fun h9 => ?_)
        exact hK _ i0 j0 f0 _ (by first | assumption | exact ⟨by (first | (clear hm hnf; omega) | omega), by (first | (clear hm hnf; omega) | omega)⟩ | exact wI_rng _ | exact i_rng _ | (subst_vars; exact i_rng _) | exact (hA _ _).2 rfl) (congrArg Prod.fst hT) (congrArg Prod.snd hT)
    · replace hT := (if_neg h1).symm.trans hT
      refine And.intro (fun h10 => ?_) (fun h10 => by exfalso; omega)
      exact hK _ i0 j0 f0 _ (by first | assumption | exact ⟨by (first | (clear hm hnf; omega) | omega), by (first | (clear hm hnf; omega) | omega)⟩ | exact wI_rng _ | exact i_rng _ | (subst_vars; exact i_rng _) | exact (hA _ _).2 rfl) (congrArg Prod.fst hT) (congrArg Prod.snd hT)
theorem pM_pollinate {c k : Int} {A : qA} (hA : qokA LM A) (rg_c : rng c) (rg_k : rng k) (p0 : iva IM A) (p1 : ivf JM A) : qokA LM (fM_pollinate c k A).2 ∧ iva IM (fM_pollinate c k A).2 ∧ ivf JM (fM_pollinate c k A).2 ∧ frm [2] [] A (fM_pollinate c k A).2 ∧ rng (fM_pollinate c k A).1 := by
  obtain ⟨r, B, hB, _, hk⟩ := okM_ex okM_pollinate (as := [rf 0, ni c, ni k]) (K := fun _ B => B = (fM_pollinate c k A).2 ∧ iva IM (fM_pollinate c k A).2 ∧ ivf JM (fM_pollinate c k A).2 ∧ frm [2] [] A (fM_pollinate c k A).2 ∧ rng (fM_pollinate c k A).1) hA (qoks_c (show qok (rf _) from trivial) (qoks_c (rg_c) (qoks_c (rg_k) qoks_n))) ⟨c, k, rfl, ⟨p0, p1⟩, fun A9 i9 j9 f9 r9 g9 x0 x1 => (by rw [← x1]; (try rw [← x0]); exact ⟨rfl, i9, j9, f9, g9⟩)⟩
  exact ⟨hk.1 ▸ hB, hk.2⟩
def fM_bearsAll_c2 (rec : Nat → List Int → qA → Int × qA) (c : Int) (B : qA) : Int × qA := (if c < 48 then qlet (B 1 c) fun v2 => (if v2 = 0 then qlet (qu B 58 c 0) fun A6 => qlet (c + 1) fun v11 => rec 2 [((wI v11))] A6 else qlet (B 4 c) fun v15 => qlet (10 * v15) fun v17 => qlet (B 9 c) fun v19 => qlet (v17 + v19) fun v21 => qlet (B 10 c) fun v23 => qlet (v21 + v23) fun v25 => qlet (B 7 c) fun v27 => (if v27 = (-1) then qlet (v25 + 0) fun v56 => qlet (qu B 58 c (wI v56)) fun A58 => qlet (c + 1) fun v64 => rec 2 [((wI v64))] A58 else qlet (B 8 c) fun v31 => qlet (B 7 c) fun v33 => qlet (B 12 v27) fun v37 => qlet (fM_more v31 v37 B) fun r40 => qlet (v25 + r40) fun v44 => qlet (qu B 58 c (wI v44)) fun A46 => qlet (c + 1) fun v52 => rec 2 [((wI v52))] A46)) else rec 57 [0] B)
def fM_bearsAll_c57 (rec : Nat → List Int → qA → Int × qA) (q : Int) (B : qA) : Int × qA := qlet (B 0 (fd 63)) fun v68 => (if q < v68 then qlet (B 50 q) fun v72 => qlet (B 50 q) fun v75 => qlet (B 58 v72) fun v79 => qlet (B 51 q) fun v81 => (if v81 = (-1) then qlet (v79 + 0) fun v104 => qlet (qu B 58 v72 (wI v104)) fun A106 => qlet (q + 1) fun v113 => rec 57 [((wI v113))] A106 else qlet (B 51 q) fun v85 => qlet (B 12 v81) fun v89 => qlet (v79 + v89) fun v92 => qlet (qu B 58 v72 (wI v92)) fun A94 => qlet (q + 1) fun v100 => rec 57 [((wI v100))] A94) else rec 95 [0] B)
def fM_bearsAll_c95 (rec : Nat → List Int → qA → Int × qA) (x : Int) (B : qA) : Int × qA := (if x < 8 then qlet (x + 1) fun v118 => qlet (6 * v118) fun v120 => qlet (v120 - 1) fun v122 => rec 108 [x, 0, ((wI v122))] B else (1, B))
def fM_bearsAll_c108 (rec : Nat → List Int → qA → Int × qA) (x s c : Int) (B : qA) : Int × qA := qlet (6 * x) fun v126 => (if c < (wI v126) then qlet (x + 1) fun v131 => rec 95 [((wI v131))] B else qlet (B 58 c) fun v135 => qlet (s + v135) fun v137 => qlet (B 1 c) fun v139 => (if v139 = 0 then qlet (c + (-1)) fun v143 => rec 108 [x, ((wI v137)), ((wI v143))] B else qlet (B 3 c) fun v148 => (if v148 < (wI v137) then (0, B) else qlet (c + (-1)) fun v152 => rec 108 [x, ((wI v137)), ((wI v152))] B)))
def fM_bearsAll_L : Nat → Nat → List Int → qA → Int × qA
  | 0 => fun _ _ B => (0, B)
  | nF + 1 => fun k zs B => bif Nat.beq k 2 then (match zs with | [c] => fM_bearsAll_c2 (fM_bearsAll_L nF) c B | _ => (0, B)) else bif Nat.beq k 57 then (match zs with | [q] => fM_bearsAll_c57 (fM_bearsAll_L nF) q B | _ => (0, B)) else bif Nat.beq k 95 then (match zs with | [x] => fM_bearsAll_c95 (fM_bearsAll_L nF) x B | _ => (0, B)) else bif Nat.beq k 108 then (match zs with | [x, s, c] => fM_bearsAll_c108 (fM_bearsAll_L nF) x s c B | _ => (0, B)) else (0, B)
theorem fM_bearsAll_L2 (nF : Nat) (c : Int) (B : qA) : fM_bearsAll_L (nF + 1) 2 [c] B = fM_bearsAll_c2 (fM_bearsAll_L nF) c B := (congrFun (congrFun (congrFun (fM_bearsAll_L.eq_2 nF) 2) [c]) B).trans (qL1 rfl rfl)
theorem fM_bearsAll_L57 (nF : Nat) (q : Int) (B : qA) : fM_bearsAll_L (nF + 1) 57 [q] B = fM_bearsAll_c57 (fM_bearsAll_L nF) q B := (congrFun (congrFun (congrFun (fM_bearsAll_L.eq_2 nF) 57) [q]) B).trans (qL0 rfl (qL1 rfl rfl))
theorem fM_bearsAll_L95 (nF : Nat) (x : Int) (B : qA) : fM_bearsAll_L (nF + 1) 95 [x] B = fM_bearsAll_c95 (fM_bearsAll_L nF) x B := (congrFun (congrFun (congrFun (fM_bearsAll_L.eq_2 nF) 95) [x]) B).trans (qL0 rfl (qL0 rfl (qL1 rfl rfl)))
theorem fM_bearsAll_L108 (nF : Nat) (x s c : Int) (B : qA) : fM_bearsAll_L (nF + 1) 108 [x, s, c] B = fM_bearsAll_c108 (fM_bearsAll_L nF) x s c B := (congrFun (congrFun (congrFun (fM_bearsAll_L.eq_2 nF) 108) [x, s, c]) B).trans (qL0 rfl (qL0 rfl (qL0 rfl (qL1 rfl rfl))))
def fM_bearsAll (A : qA) : Int × qA := (fM_bearsAll_L 100000) 2 [0] A
def sM_bearsAll : qS := fun as A K => as = [rf 0] ∧ (iva IM A ∧ ivf JM A) ∧ (∀ A' : qA, iva IM A' → ivf JM A' → frm [58] [] A A' → ∀ r : Int, 0 ≤ r → r ≤ 1 → (r = (fM_bearsAll A).1) → (A' = (fM_bearsAll A).2) → K (some (ni r)) A')
theorem okM_bearsAll : okM LM 2 231 sM_bearsAll := by
  refine qmeth [] true [(147, sM_more)] 145 rfl ⟨okM_more.le (by decide), trivial⟩ ?_
  rintro _ A K hA has ⟨rfl, ⟨i0, j0⟩, hK⟩
  have f0 := frm_0 [58] [] A
  have hT : _ = fM_bearsAll A := (fM_bearsAll.eq_1 A).symm
  refine ⟨Nat.le_of_ble_eq_true rfl, [(2, [(0, 2, 0), (1, 0, 0)], fun zs B nn => match zs with | [c] => iva IM B ∧ ivf JM B ∧ frm [58] [] A B ∧ nn = (1000 - c : Int).toNat ∧ (0 ≤ c) ∧ (c ≤ 48) ∧ (∃ nf : Nat, nn < nf ∧ fM_bearsAll_L nf 2 [c] B = fM_bearsAll A) | _ => False), (57, [(0, 2, 0), (1, 0, 0)], fun zs B nn => match zs with | [q] => iva IM B ∧ ivf JM B ∧ frm [58] [] A B ∧ nn = (900 - q : Int).toNat ∧ (0 ≤ q) ∧ (q ≤ 8) ∧ (∃ nf : Nat, nn < nf ∧ fM_bearsAll_L nf 57 [q] B = fM_bearsAll A) | _ => False), (95, [(0, 2, 0), (1, 0, 0)], fun zs B nn => match zs with | [x] => iva IM B ∧ ivf JM B ∧ frm [58] [] A B ∧ nn = ((8 - x) * 20 + 10 : Int).toNat ∧ (0 ≤ x) ∧ (x ≤ 8) ∧ (∃ nf : Nat, nn < nf ∧ fM_bearsAll_L nf 95 [x] B = fM_bearsAll A) | _ => False), (108, [(0, 2, 0), (1, 0, 0), (2, 0, 0), (3, 0, 0)], fun zs B nn => match zs with | [x, s, c] => iva IM B ∧ ivf JM B ∧ frm [58] [] A B ∧ nn = ((8 - x) * 20 + c - 6 * x + 1 : Int).toNat ∧ (0 ≤ x) ∧ (x ≤ 7) ∧ (6 * x - 1 ≤ c) ∧ (c ≤ 6 * x + 5) ∧ (∃ nf : Nat, nn < nf ∧ fM_bearsAll_L nf 108 [x, s, c] B = fM_bearsAll A) | _ => False)], ?_, ?_⟩
  · refine ⟨⟨rfl, ?_⟩, ⟨rfl, ?_⟩, ⟨rfl, ?_⟩, ⟨rfl, ?_⟩, trivial⟩
    · refine fun c B mm hB hz hI => ?_
      obtain ⟨i1, j1, f1, hm, c0, c1, ⟨nf, hnf, hT⟩⟩ := hI
      obtain ⟨hz_c, _⟩ := hz
      obtain ⟨ng, rfl⟩ : ∃ k, nf = k + 1 := ⟨nf - 1, by omega⟩
      replace hT := (fM_bearsAll_c2.eq_1 (fM_bearsAll_L ng) c B).symm.trans ((fM_bearsAll_L2 ng c B).symm.trans hT)
      refine And.intro (fun h1 => ?_) (fun h1 => ?_)
      · replace hT := (if_neg (Int.not_lt.mpr h1)).symm.trans hT
        exact Exists.intro (900 - 0 : Int).toNat (And.intro (by first | exact qtn hm (by (try clear hm hnf); omega) | omega) (And.intro i1 (And.intro j1 (And.intro f1 (And.intro rfl (And.intro (by (first | (clear hm hnf; omega) | omega)) (And.intro (by (first | (clear hm hnf; omega) | omega)) (Exists.intro ng (And.intro (by first | exact qtm hm hnf (by (try clear hm hnf); omega) | omega) hT)))))))))
      · replace hT := (if_pos h1).symm.trans hT
        refine And.intro (by (first | (clear hm hnf; omega) | omega)) (fun v2 gv2 e3 => ?_)
        replace hT := qlc e3 hT
        have b4 := iva_at i1 0 rfl (i := c) (by (first | (clear hm hnf; omega) | omega)) (by (first | (clear hm hnf; omega) | omega))
        refine And.intro (fun h5 => ?_) (fun h5 => ?_)
        · replace hT := (if_pos h5).symm.trans hT
          refine And.intro (by (first | (clear hm hnf; omega) | omega)) (fun A6 e7 => ?_)
          replace hT := qlc e7 hT
          have i8 := iva_st i1 e7 trivial
          have j9 := ivf_sa j1 e7 rfl
          have f10 := frm_s f1 e7 rfl
          refine fun v11 e12 => ?_
          replace hT := qlc e12 hT
          have w13 := wI_rng v11
          have w14 : wI v11 = v11 := wI_id (by (first | (clear hm hnf; omega) | omega))
          exact Exists.intro (1000 - ((wI v11)) : Int).toNat (And.intro (by first | exact qtn hm (by (try clear hm hnf); omega) | omega) (And.intro i8 (And.intro j9 (And.intro f10 (And.intro rfl (And.intro (by (first | (clear hm hnf; omega) | omega)) (And.intro (by (first | (clear hm hnf; omega) | omega)) (Exists.intro ng (And.intro (by first | exact qtm hm hnf (by (try clear hm hnf); omega) | omega) hT)))))))))
        · replace hT := (if_neg h5).symm.trans hT
          refine And.intro (by (first | (clear hm hnf; omega) | omega)) (fun v15 gv15 e16 => ?_)
          replace hT := qlc e16 hT
          refine fun v17 e18 => ?_
          replace hT := qlc e18 hT
          refine And.intro (by (first | (clear hm hnf; omega) | omega)) (fun v19 gv19 e20 => ?_)
          replace hT := qlc e20 hT
          refine fun v21 e22 => ?_
          replace hT := qlc e22 hT
          refine And.intro (by (first | (clear hm hnf; omega) | omega)) (fun v23 gv23 e24 => ?_)
          replace hT := qlc e24 hT
          refine fun v25 e26 => ?_
          replace hT := qlc e26 hT
          refine And.intro (by (first | (clear hm hnf; omega) | omega)) (fun v27 gv27 e28 => ?_)
          replace hT := qlc e28 hT
          have b29 := iva_at i1 2 rfl (i := c) (by (first | (clear hm hnf; omega) | omega)) (by (first | (clear hm hnf; omega) | omega))
          refine And.intro (fun h30 => ?_) (fun h30 => ?_)
          · replace hT := (if_neg h30).symm.trans hT
            refine And.intro (by (first | (clear hm hnf; omega) | omega)) (fun v31 gv31 e32 => ?_)
            replace hT := qlc e32 hT
            refine And.intro (by (first | (clear hm hnf; omega) | omega)) (fun v33 gv33 e34 => ?_)
            replace hT := qlc e34 hT
            have b35 := iva_at i1 2 rfl (i := c) (by (first | (clear hm hnf; omega) | omega)) (by (first | (clear hm hnf; omega) | omega))
            have q36 : v27 = v33 := (e34.trans e28.symm).symm
            subst q36
            refine And.intro (by (first | (clear hm hnf; omega) | omega)) (fun v37 gv37 e38 => ?_)
            replace hT := qlc e38 hT
            have b39 := iva_at i1 4 rfl (i := v27) (by (first | (clear hm hnf; omega) | omega)) (by (first | (clear hm hnf; omega) | omega))
            refine Exists.intro v31 (Exists.intro v37 (And.intro rfl (fun r40 g43 g41 g42 => ?_)))
            replace hT := qlc g42 hT
            clear g42
            refine fun v44 e45 => ?_
            replace hT := qlc e45 hT
            have w48 := wI_rng v44
            refine And.intro (by (first | (clear hm hnf; omega) | omega)) (fun A46 e47 => ?_)
            replace hT := qlc e47 hT
            have i49 := iva_st i1 e47 trivial
            have j50 := ivf_sa j1 e47 rfl
            have f51 := frm_s f1 e47 rfl
            refine fun v52 e53 => ?_
            replace hT := qlc e53 hT
            have w54 := wI_rng v52
            have w55 : wI v52 = v52 := wI_id (by (first | (clear hm hnf; omega) | omega))
            exact Exists.intro (1000 - ((wI v52)) : Int).toNat (And.intro (by first | exact qtn hm (by (try clear hm hnf); omega) | omega) (And.intro i49 (And.intro j50 (And.intro f51 (And.intro rfl (And.intro (by (first | (clear hm hnf; omega) | omega)) (And.intro (by (first | (clear hm hnf; omega) | omega)) (Exists.intro ng (And.intro (by first | exact qtm hm hnf (by (try clear hm hnf); omega) | omega) hT)))))))))
          · replace hT := (if_pos h30).symm.trans hT
            refine fun v56 e57 => ?_
            replace hT := qlc e57 hT
            have w60 := wI_rng v56
            refine And.intro (by (first | (clear hm hnf; omega) | omega)) (fun A58 e59 => ?_)
            replace hT := qlc e59 hT
            have i61 := iva_st i1 e59 trivial
            have j62 := ivf_sa j1 e59 rfl
            have f63 := frm_s f1 e59 rfl
            refine fun v64 e65 => ?_
            replace hT := qlc e65 hT
            have w66 := wI_rng v64
            have w67 : wI v64 = v64 := wI_id (by (first | (clear hm hnf; omega) | omega))
            exact Exists.intro (1000 - ((wI v64)) : Int).toNat (And.intro (by first | exact qtn hm (by (try clear hm hnf); omega) | omega) (And.intro i61 (And.intro j62 (And.intro f63 (And.intro rfl (And.intro (by (first | (clear hm hnf; omega) | omega)) (And.intro (by (first | (clear hm hnf; omega) | omega)) (Exists.intro ng (And.intro (by first | exact qtm hm hnf (by (try clear hm hnf); omega) | omega) hT)))))))))
    · refine fun q B mm hB hz hI => ?_
      obtain ⟨i1, j1, f1, hm, c0, c1, ⟨nf, hnf, hT⟩⟩ := hI
      obtain ⟨hz_q, _⟩ := hz
      obtain ⟨ng, rfl⟩ : ∃ k, nf = k + 1 := ⟨nf - 1, by omega⟩
      replace hT := (fM_bearsAll_c57.eq_1 (fM_bearsAll_L ng) q B).symm.trans ((fM_bearsAll_L57 ng q B).symm.trans hT)
      refine fun v68 gv68 e69 => ?_
      replace hT := qlc e69 hT
      have b70 := ivf_at j1 2 rfl
      refine And.intro (fun h71 => ?_) (fun h71 => ?_)
      · replace hT := (if_neg (Int.not_lt.mpr h71)).symm.trans hT
        exact Exists.intro ((8 - 0) * 20 + 10 : Int).toNat (And.intro (by first | exact qtn hm (by (try clear hm hnf); omega) | omega) (And.intro i1 (And.intro j1 (And.intro f1 (And.intro rfl (And.intro (by (first | (clear hm hnf; omega) | omega)) (And.intro (by (first | (clear hm hnf; omega) | omega)) (Exists.intro ng (And.intro (by first | exact qtm hm hnf (by (try clear hm hnf); omega) | omega) hT)))))))))
      · replace hT := (if_pos h71).symm.trans hT
        refine And.intro (by (first | (clear hm hnf; omega) | omega)) (fun v72 gv72 e73 => ?_)
        replace hT := qlc e73 hT
        have b74 := iva_at i1 21 rfl (i := q) (by (first | (clear hm hnf; omega) | omega)) (by (first | (clear hm hnf; omega) | omega))
        refine And.intro (by (first | (clear hm hnf; omega) | omega)) (fun v75 gv75 e76 => ?_)
        replace hT := qlc e76 hT
        have b77 := iva_at i1 21 rfl (i := q) (by (first | (clear hm hnf; omega) | omega)) (by (first | (clear hm hnf; omega) | omega))
        have q78 : v72 = v75 := (e76.trans e73.symm).symm
        subst q78
        refine And.intro (by (first | (clear hm hnf; omega) | omega)) (fun v79 gv79 e80 => ?_)
        replace hT := qlc e80 hT
        refine And.intro (by (first | (clear hm hnf; omega) | omega)) (fun v81 gv81 e82 => ?_)
        replace hT := qlc e82 hT
        have b83 := iva_at i1 22 rfl (i := q) (by (first | (clear hm hnf; omega) | omega)) (by (first | (clear hm hnf; omega) | omega))
        refine And.intro (fun h84 => ?_) (fun h84 => ?_)
        · replace hT := (if_neg h84).symm.trans hT
          refine And.intro (by (first | (clear hm hnf; omega) | omega)) (fun v85 gv85 e86 => ?_)
          replace hT := qlc e86 hT
          have b87 := iva_at i1 22 rfl (i := q) (by (first | (clear hm hnf; omega) | omega)) (by (first | (clear hm hnf; omega) | omega))
          have q88 : v81 = v85 := (e86.trans e82.symm).symm
          subst q88
          refine And.intro (by (first | (clear hm hnf; omega) | omega)) (fun v89 gv89 e90 => ?_)
          replace hT := qlc e90 hT
          have b91 := iva_at i1 4 rfl (i := v81) (by (first | (clear hm hnf; omega) | omega)) (by (first | (clear hm hnf; omega) | omega))
          refine fun v92 e93 => ?_
          replace hT := qlc e93 hT
          have w96 := wI_rng v92
          refine And.intro (by (first | (clear hm hnf; omega) | omega)) (fun A94 e95 => ?_)
          replace hT := qlc e95 hT
          have i97 := iva_st i1 e95 trivial
          have j98 := ivf_sa j1 e95 rfl
          have f99 := frm_s f1 e95 rfl
          refine fun v100 e101 => ?_
          replace hT := qlc e101 hT
          have w102 := wI_rng v100
          have w103 : wI v100 = v100 := wI_id (by (first | (clear hm hnf; omega) | omega))
          exact Exists.intro (900 - ((wI v100)) : Int).toNat (And.intro (by first | exact qtn hm (by (try clear hm hnf); omega) | omega) (And.intro i97 (And.intro j98 (And.intro f99 (And.intro rfl (And.intro (by (first | (clear hm hnf; omega) | omega)) (And.intro (by (first | (clear hm hnf; omega) | omega)) (Exists.intro ng (And.intro (by first | exact qtm hm hnf (by (try clear hm hnf); omega) | omega) hT)))))))))
        · replace hT := (if_pos h84).symm.trans hT
          refine fun v104 e105 => ?_
          replace hT := qlc e105 hT
          have w108 := wI_rng v104
          have w109 : wI v104 = v104 := wI_id (by (first | (clear hm hnf; omega) | omega))
          refine And.intro (by (first | (clear hm hnf; omega) | omega)) (fun A106 e107 => ?_)
          replace hT := qlc e107 hT
          have i110 := iva_st i1 e107 trivial
          have j111 := ivf_sa j1 e107 rfl
          have f112 := frm_s f1 e107 rfl
          refine fun v113 e114 => ?_
          replace hT := qlc e114 hT
          have w115 := wI_rng v113
          have w116 : wI v113 = v113 := wI_id (by (first | (clear hm hnf; omega) | omega))
          exact Exists.intro (900 - ((wI v113)) : Int).toNat (And.intro (by first | exact qtn hm (by (try clear hm hnf); omega) | omega) (And.intro i110 (And.intro j111 (And.intro f112 (And.intro rfl (And.intro (by (first | (clear hm hnf; omega) | omega)) (And.intro (by (first | (clear hm hnf; omega) | omega)) (Exists.intro ng (And.intro (by first | exact qtm hm hnf (by (try clear hm hnf); omega) | omega) hT)))))))))
    · refine fun x B mm hB hz hI => ?_
      obtain ⟨i1, j1, f1, hm, c0, c1, ⟨nf, hnf, hT⟩⟩ := hI
      obtain ⟨hz_x, _⟩ := hz
      obtain ⟨ng, rfl⟩ : ∃ k, nf = k + 1 := ⟨nf - 1, by omega⟩
      replace hT := (fM_bearsAll_c95.eq_1 (fM_bearsAll_L ng) x B).symm.trans ((fM_bearsAll_L95 ng x B).symm.trans hT)
      refine And.intro (fun h117 => ?_) (fun h117 => ?_)
      · replace hT := (if_neg (Int.not_lt.mpr h117)).symm.trans hT
        exact And.intro (by (first | (clear hm hnf; omega) | omega)) (hK _ i1 j1 f1 _ (by (first | (clear hm hnf; omega) | omega)) (by (first | (clear hm hnf; omega) | omega)) (congrArg Prod.fst hT) (congrArg Prod.snd hT))
      · replace hT := (if_pos h117).symm.trans hT
        refine fun v118 e119 => ?_
        replace hT := qlc e119 hT
        refine fun v120 e121 => ?_
        replace hT := qlc e121 hT
        refine fun v122 e123 => ?_
        replace hT := qlc e123 hT
        have w124 := wI_rng v122
        have w125 : wI v122 = v122 := wI_id (by (first | (clear hm hnf; omega) | omega))
        exact Exists.intro ((8 - x) * 20 + ((wI v122)) - 6 * x + 1 : Int).toNat (And.intro (by first | exact qtn hm (by (try clear hm hnf); omega) | omega) (And.intro i1 (And.intro j1 (And.intro f1 (And.intro rfl (And.intro (by (first | (clear hm hnf; omega) | omega)) (And.intro (by (first | (clear hm hnf; omega) | omega)) (And.intro (by (first | (clear hm hnf; omega) | omega)) (And.intro (by (first | (clear hm hnf; omega) | omega)) (Exists.intro ng (And.intro (by first | exact qtm hm hnf (by (try clear hm hnf); omega) | omega) hT)))))))))))
    · refine fun x s c B mm hB hz hI => ?_
      obtain ⟨i1, j1, f1, hm, c0, c1, c2, c3, ⟨nf, hnf, hT⟩⟩ := hI
      obtain ⟨hz_x, hz_s, hz_c, _⟩ := hz
      obtain ⟨ng, rfl⟩ : ∃ k, nf = k + 1 := ⟨nf - 1, by omega⟩
      replace hT := (fM_bearsAll_c108.eq_1 (fM_bearsAll_L ng) x s c B).symm.trans ((fM_bearsAll_L108 ng x s c B).symm.trans hT)
      refine fun v126 e127 => ?_
      replace hT := qlc e127 hT
      have w129 := wI_rng v126
      have w130 : wI v126 = v126 := wI_id (by (first | (clear hm hnf; omega) | omega))
      refine And.intro (fun h128 => ?_) (fun h128 => ?_)
      · replace hT := (if_pos h128).symm.trans hT
        refine fun v131 e132 => ?_
        replace hT := qlc e132 hT
        have w133 := wI_rng v131
        have w134 : wI v131 = v131 := wI_id (by (first | (clear hm hnf; omega) | omega))
        exact Exists.intro ((8 - ((wI v131))) * 20 + 10 : Int).toNat (And.intro (by first | exact qtn hm (by (try clear hm hnf); omega) | omega) (And.intro i1 (And.intro j1 (And.intro f1 (And.intro rfl (And.intro (by (first | (clear hm hnf; omega) | omega)) (And.intro (by (first | (clear hm hnf; omega) | omega)) (Exists.intro ng (And.intro (by first | exact qtm hm hnf (by (try clear hm hnf); omega) | omega) hT)))))))))
      · replace hT := (if_neg (Int.not_lt.mpr h128)).symm.trans hT
        refine And.intro (by (first | (clear hm hnf; omega) | omega)) (fun v135 gv135 e136 => ?_)
        replace hT := qlc e136 hT
        refine fun v137 e138 => ?_
        replace hT := qlc e138 hT
        refine And.intro (by (first | (clear hm hnf; omega) | omega)) (fun v139 gv139 e140 => ?_)
        replace hT := qlc e140 hT
        have b141 := iva_at i1 0 rfl (i := c) (by (first | (clear hm hnf; omega) | omega)) (by (first | (clear hm hnf; omega) | omega))
        refine And.intro (fun h142 => ?_) (fun h142 => ?_)
        · replace hT := (if_pos h142).symm.trans hT
          refine fun v143 e144 => ?_
          replace hT := qlc e144 hT
          have w145 := wI_rng v137
          have w146 := wI_rng v143
          have w147 : wI v143 = v143 := wI_id (by (first | (clear hm hnf; omega) | omega))
          exact Exists.intro ((8 - x) * 20 + ((wI v143)) - 6 * x + 1 : Int).toNat (And.intro (by first | exact qtn hm (by (try clear hm hnf); omega) | omega) (And.intro i1 (And.intro j1 (And.intro f1 (And.intro rfl (And.intro (by (first | (clear hm hnf; omega) | omega)) (And.intro (by (first | (clear hm hnf; omega) | omega)) (And.intro (by (first | (clear hm hnf; omega) | omega)) (And.intro (by (first | (clear hm hnf; omega) | omega)) (Exists.intro ng (And.intro (by first | exact qtm hm hnf (by (try clear hm hnf); omega) | omega) hT)))))))))))
        · replace hT := (if_neg h142).symm.trans hT
          refine And.intro (by (first | (clear hm hnf; omega) | omega)) (fun v148 gv148 e149 => ?_)
          replace hT := qlc e149 hT
          have w151 := wI_rng v137
          refine And.intro (fun h150 => ?_) (fun h150 => ?_)
          · replace hT := (if_neg (Int.not_lt.mpr h150)).symm.trans hT
            refine fun v152 e153 => ?_
            replace hT := qlc e153 hT
            have w154 := wI_rng v137
            have w155 := wI_rng v152
            have w156 : wI v152 = v152 := wI_id (by (first | (clear hm hnf; omega) | omega))
            exact Exists.intro ((8 - x) * 20 + ((wI v152)) - 6 * x + 1 : Int).toNat (And.intro (by first | exact qtn hm (by (try clear hm hnf); omega) | omega) (And.intro i1 (And.intro j1 (And.intro f1 (And.intro rfl (And.intro (by (first | (clear hm hnf; omega) | omega)) (And.intro (by (first | (clear hm hnf; omega) | omega)) (And.intro (by (first | (clear hm hnf; omega) | omega)) (And.intro (by (first | (clear hm hnf; omega) | omega)) (Exists.intro ng (And.intro (by first | exact qtm hm hnf (by (try clear hm hnf); omega) | omega) hT)))))))))))
          · replace hT := (if_pos h150).symm.trans hT
            exact And.intro (by (first | (clear hm hnf; omega) | omega)) (hK _ i1 j1 f1 _ (by (first | (clear hm hnf; omega) | omega)) (by (first | (clear hm hnf; omega) | omega)) (congrArg Prod.fst hT) (congrArg Prod.snd hT))
  · exact Exists.intro (1000 - 0 : Int).toNat (And.intro i0 (And.intro j0 (And.intro f0 (And.intro rfl (And.intro (by (first | (clear hm hnf; omega) | omega)) (And.intro (by (first | (clear hm hnf; omega) | omega)) (Exists.intro 100000 (And.intro (by (first | (clear hm hnf; omega) | omega)) hT))))))))
theorem pM_bearsAll {A : qA} (hA : qokA LM A) (p0 : iva IM A) (p1 : ivf JM A) : qokA LM (fM_bearsAll A).2 ∧ iva IM (fM_bearsAll A).2 ∧ ivf JM (fM_bearsAll A).2 ∧ frm [58] [] A (fM_bearsAll A).2 ∧ (0 ≤ (fM_bearsAll A).1 ∧ (fM_bearsAll A).1 ≤ 1) := by
  obtain ⟨r, B, hB, _, hk⟩ := okM_ex okM_bearsAll (as := [rf 0]) (K := fun _ B => B = (fM_bearsAll A).2 ∧ iva IM (fM_bearsAll A).2 ∧ ivf JM (fM_bearsAll A).2 ∧ frm [58] [] A (fM_bearsAll A).2 ∧ (0 ≤ (fM_bearsAll A).1 ∧ (fM_bearsAll A).1 ≤ 1)) hA (qoks_c (show qok (rf _) from trivial) qoks_n) ⟨rfl, ⟨p0, p1⟩, fun A9 i9 j9 f9 r9 g8 g9 x0 x1 => (by rw [← x1]; (try rw [← x0]); exact ⟨rfl, i9, j9, f9, ⟨g8, g9⟩⟩)⟩
  exact ⟨hk.1 ▸ hB, hk.2⟩
def fM_areWhole_c2 (rec : Nat → List Int → qA → Int) (q : Int) (A : qA) : Int := qlet (A 0 (fd 63)) fun v1 => (if q < v1 then qlet (A 51 q) fun v5 => (if v5 = (-1) then qlet (q + 1) fun v9 => rec 2 [v9] A else qlet (A 51 q) fun v11 => qlet (A 12 v5) fun v15 => qlet (A 50 q) fun v18 => qlet (qm v18 6) fun v21 => qlet (6 - v21) fun v24 => qlet (v15 * v24) fun v26 => qlet (A 50 q) fun v29 => qlet (qd v18 6) fun v33 => qlet (A 16 v33) fun v36 => (if v36 < v26 then 0 else qlet (q + 1) fun v40 => rec 2 [v40] A)) else 1)
def fM_areWhole_L : Nat → Nat → List Int → qA → Int
  | 0 => fun _ _ B => 0
  | nF + 1 => fun k zs B => bif Nat.beq k 2 then (match zs with | [q] => fM_areWhole_c2 (fM_areWhole_L nF) q B | _ => 0) else 0
theorem fM_areWhole_L2 (nF : Nat) (q : Int) (B : qA) : fM_areWhole_L (nF + 1) 2 [q] B = fM_areWhole_c2 (fM_areWhole_L nF) q B := (congrFun (congrFun (congrFun (fM_areWhole_L.eq_2 nF) 2) [q]) B).trans (qL1 rfl rfl)
def fM_areWhole (A : qA) : Int := (fM_areWhole_L 100000) 2 [0] A
def sM_areWhole : qS := fun as A K => as = [rf 0] ∧ (iva IM A ∧ ivf JM A) ∧ (∀ r : Int, 0 ≤ r → r ≤ 1 → (r = fM_areWhole A) → K (some (ni r)) A)
theorem okM_areWhole : okM LM 1 232 sM_areWhole := by
  refine qmeth [] false [] 50 rfl trivial ?_
  rintro _ A K hA has ⟨rfl, ⟨i0, j0⟩, hK⟩
  have f0 := frm_0 [] [] A
  have hT : _ = fM_areWhole A := (fM_areWhole.eq_1 A).symm
  refine ⟨Nat.le_of_ble_eq_true rfl, [(2, [(0, 2, 0), (1, 0, 0)], fun zs B nn => match zs with | [q] => A = B ∧ nn = (8 - q : Int).toNat ∧ (0 ≤ q) ∧ (q ≤ 8) ∧ (∃ nf : Nat, nn < nf ∧ fM_areWhole_L nf 2 [q] B = fM_areWhole A) | _ => False)], ?_, ?_⟩
  · refine ⟨⟨rfl, ?_⟩, trivial⟩
    · refine fun q B mm hB hz hI => ?_
      obtain ⟨rfl, hm, c0, c1, ⟨nf, hnf, hT⟩⟩ := hI
      obtain ⟨hz_q, _⟩ := hz
      obtain ⟨ng, rfl⟩ : ∃ k, nf = k + 1 := ⟨nf - 1, by omega⟩
      replace hT := (fM_areWhole_c2.eq_1 (fM_areWhole_L ng) q A).symm.trans ((fM_areWhole_L2 ng q A).symm.trans hT)
      refine fun v1 gv1 e2 => ?_
      replace hT := qlc e2 hT
      have b3 := ivf_at j0 2 rfl
      refine And.intro (fun h4 => ?_) (fun h4 => ?_)
      · replace hT := (if_neg (Int.not_lt.mpr h4)).symm.trans hT
        exact And.intro (by (first | (clear hm hnf; omega) | omega)) (hK _ (by (first | (clear hm hnf; omega) | omega)) (by (first | (clear hm hnf; omega) | omega)) hT)
      · replace hT := (if_pos h4).symm.trans hT
        refine And.intro (by (first | (clear hm hnf; omega) | omega)) (fun v5 gv5 e6 => ?_)
        replace hT := qlc e6 hT
        have b7 := iva_at i0 22 rfl (i := q) (by (first | (clear hm hnf; omega) | omega)) (by (first | (clear hm hnf; omega) | omega))
        refine And.intro (fun h8 => ?_) (fun h8 => ?_)
        · replace hT := (if_pos h8).symm.trans hT
          refine fun v9 e10 => ?_
          replace hT := qlc e10 hT
          exact And.intro (by (first | (clear hm hnf; omega) | omega)) (Exists.intro (8 - v9 : Int).toNat (And.intro (by first | exact qtn hm (by (try clear hm hnf); omega) | omega) (And.intro rfl (And.intro rfl (And.intro (by (first | (clear hm hnf; omega) | omega)) (And.intro (by (first | (clear hm hnf; omega) | omega)) (Exists.intro ng (And.intro (by first | exact qtm hm hnf (by (try clear hm hnf); omega) | omega) hT))))))))
        · replace hT := (if_neg h8).symm.trans hT
          refine And.intro (by (first | (clear hm hnf; omega) | omega)) (fun v11 gv11 e12 => ?_)
          replace hT := qlc e12 hT
          have b13 := iva_at i0 22 rfl (i := q) (by (first | (clear hm hnf; omega) | omega)) (by (first | (clear hm hnf; omega) | omega))
          have q14 : v5 = v11 := (e12.trans e6.symm).symm
          subst q14
          refine And.intro (by (first | (clear hm hnf; omega) | omega)) (fun v15 gv15 e16 => ?_)
          replace hT := qlc e16 hT
          have b17 := iva_at i0 4 rfl (i := v5) (by (first | (clear hm hnf; omega) | omega)) (by (first | (clear hm hnf; omega) | omega))
          refine And.intro (by (first | (clear hm hnf; omega) | omega)) (fun v18 gv18 e19 => ?_)
          replace hT := qlc e19 hT
          have b20 := iva_at i0 21 rfl (i := q) (by (first | (clear hm hnf; omega) | omega)) (by (first | (clear hm hnf; omega) | omega))
          refine And.intro (by (first | (clear hm hnf; omega) | omega)) (fun v21 e22 => ?_)
          replace hT := qlc e22 hT
          have h23 := qm_nn (a := v18) (b := 6) (by (first | (clear hm hnf; omega) | omega))
          refine fun v24 e25 => ?_
          replace hT := qlc e25 hT
          refine fun v26 e27 => ?_
          replace hT := qlc e27 hT
          have h28 := mul_bd (a := v15) (b := v24) (p := 200) (q := 6) (by (first | (clear hm hnf; omega) | omega)) (by (first | (clear hm hnf; omega) | omega)) (by (first | (clear hm hnf; omega) | omega)) (by (first | (clear hm hnf; omega) | omega))
          rw [← e27] at h28
          refine And.intro (by (first | (clear hm hnf; omega) | omega)) (fun v29 gv29 e30 => ?_)
          replace hT := qlc e30 hT
          have b31 := iva_at i0 21 rfl (i := q) (by (first | (clear hm hnf; omega) | omega)) (by (first | (clear hm hnf; omega) | omega))
          have q32 : v18 = v29 := (e30.trans e19.symm).symm
          subst q32
          refine And.intro (by (first | (clear hm hnf; omega) | omega)) (fun v33 e34 => ?_)
          replace hT := qlc e34 hT
          have h35 := qd_nn (a := v18) (b := 6) (by (first | (clear hm hnf; omega) | omega))
          refine And.intro (by (first | (clear hm hnf; omega) | omega)) (fun v36 gv36 e37 => ?_)
          replace hT := qlc e37 hT
          have b38 := iva_at i0 7 rfl (i := v33) (by (first | (clear hm hnf; omega) | omega)) (by (first | (clear hm hnf; omega) | omega))
          refine And.intro (by (first | (clear hm hnf; omega) | omega)) (And.intro (fun h39 => ?_) (fun h39 => ?_))
          · replace hT := (if_neg (Int.not_lt.mpr h39)).symm.trans hT
            refine fun v40 e41 => ?_
            replace hT := qlc e41 hT
            exact And.intro (by (first | (clear hm hnf; omega) | omega)) (Exists.intro (8 - v40 : Int).toNat (And.intro (by first | exact qtn hm (by (try clear hm hnf); omega) | omega) (And.intro rfl (And.intro rfl (And.intro (by (first | (clear hm hnf; omega) | omega)) (And.intro (by (first | (clear hm hnf; omega) | omega)) (Exists.intro ng (And.intro (by first | exact qtm hm hnf (by (try clear hm hnf); omega) | omega) hT))))))))
          · replace hT := (if_pos h39).symm.trans hT
            exact And.intro (by (first | (clear hm hnf; omega) | omega)) (hK _ (by (first | (clear hm hnf; omega) | omega)) (by (first | (clear hm hnf; omega) | omega)) hT)
  · exact Exists.intro (8 - 0 : Int).toNat (And.intro rfl (And.intro rfl (And.intro (by (first | (clear hm hnf; omega) | omega)) (And.intro (by (first | (clear hm hnf; omega) | omega)) (Exists.intro 100000 (And.intro (by (first | (clear hm hnf; omega) | omega)) hT))))))
theorem pM_areWhole {A : qA} (hA : qokA LM A) (p0 : iva IM A) (p1 : ivf JM A) : (0 ≤ (fM_areWhole A) ∧ (fM_areWhole A) ≤ 1) := by
  obtain ⟨r, B, hB, _, hk⟩ := okM_ex okM_areWhole (as := [rf 0]) (K := fun _ B => B = A ∧ (0 ≤ (fM_areWhole A) ∧ (fM_areWhole A) ≤ 1)) hA (qoks_c (show qok (rf _) from trivial) qoks_n) ⟨rfl, ⟨p0, p1⟩, fun r9 g8 g9 x0 => (by rw [← x0]; exact ⟨rfl, ⟨g8, g9⟩⟩)⟩
  exact hk.2
def fM_growth_c4 (rec : Nat → List Int → qA → Int × qA) (s c : Int) (B : qA) : Int × qA := (if c < 48 then qlet (B 1 c) fun v3 => (if v3 = 0 then qlet (c + 1) fun v7 => rec 4 [s, ((wI v7))] B else qlet (B 7 c) fun v11 => (if v11 = (-1) then qlet (c + 1) fun v15 => rec 4 [s, ((wI v15))] B else qlp (fM_asked c 103 50 B) fun r23 A19 => qlet (s + r23) fun v30 => qlet (c + 1) fun v32 => rec 4 [((wI v30)), ((wI v32))] A19)) else (s, B))
def fM_growth_L : Nat → Nat → List Int → qA → Int × qA
  | 0 => fun _ _ B => (0, B)
  | nF + 1 => fun k zs B => bif Nat.beq k 4 then (match zs with | [s, c] => fM_growth_c4 (fM_growth_L nF) s c B | _ => (0, B)) else (0, B)
theorem fM_growth_L4 (nF : Nat) (s c : Int) (B : qA) : fM_growth_L (nF + 1) 4 [s, c] B = fM_growth_c4 (fM_growth_L nF) s c B := (congrFun (congrFun (congrFun (fM_growth_L.eq_2 nF) 4) [s, c]) B).trans (qL1 rfl rfl)
def fM_growth (A : qA) : Int × qA := (fM_growth_L 100000) 4 [0, 0] A
def sM_growth : qS := fun as A K => as = [rf 0] ∧ (iva IM A ∧ ivf JM A ∧ (WF A)) ∧ (∀ A' : qA, iva IM A' → ivf JM A' → frm [34, 35] [] A A' → ∀ r : Int, rng r → (r = (fM_growth A).1) → (A' = (fM_growth A).2) → K (some (ni r)) A')
theorem okM_growth : okM LM 5 234 sM_growth := by
  refine qmeth [] true [(191, sM_asked)] 36 rfl ⟨okM_asked.le (by decide), trivial⟩ ?_
  rintro _ A K hA has ⟨rfl, ⟨i0, j0, p1⟩, hK⟩
  have f0 := frm_0 [34, 35] [] A
  have hT : _ = fM_growth A := (fM_growth.eq_1 A).symm
  refine ⟨Nat.le_of_ble_eq_true rfl, [(4, [(0, 2, 0), (1, 0, 0), (2, 0, 0)], fun zs B nn => match zs with | [s, c] => iva IM B ∧ ivf JM B ∧ frm [34, 35] [] A B ∧ nn = (48 - c : Int).toNat ∧ (0 ≤ c) ∧ (c ≤ 48) ∧ (∃ nf : Nat, nn < nf ∧ fM_growth_L nf 4 [s, c] B = fM_growth A) | _ => False)], ?_, ?_⟩
  · refine ⟨⟨rfl, ?_⟩, trivial⟩
    · refine fun s c B mm hB hz hI => ?_
      obtain ⟨i1, j1, f1, hm, c0, c1, ⟨nf, hnf, hT⟩⟩ := hI
      obtain ⟨hz_s, hz_c, _⟩ := hz
      obtain ⟨ng, rfl⟩ : ∃ k, nf = k + 1 := ⟨nf - 1, by omega⟩
      replace hT := (fM_growth_c4.eq_1 (fM_growth_L ng) s c B).symm.trans ((fM_growth_L4 ng s c B).symm.trans hT)
      refine And.intro (fun h2 => ?_) (fun h2 => ?_)
      · replace hT := (if_neg (Int.not_lt.mpr h2)).symm.trans hT
        exact hK _ i1 j1 f1 _ (by first | assumption | exact ⟨by (first | (clear hm hnf; omega) | omega), by (first | (clear hm hnf; omega) | omega)⟩ | exact wI_rng _ | exact i_rng _ | (subst_vars; exact i_rng _) | exact (hA _ _).2 rfl) (congrArg Prod.fst hT) (congrArg Prod.snd hT)
      · replace hT := (if_pos h2).symm.trans hT
        refine And.intro (by (first | (clear hm hnf; omega) | omega)) (fun v3 gv3 e4 => ?_)
        replace hT := qlc e4 hT
        have b5 := iva_at i1 0 rfl (i := c) (by (first | (clear hm hnf; omega) | omega)) (by (first | (clear hm hnf; omega) | omega))
        refine And.intro (fun h6 => ?_) (fun h6 => ?_)
        · replace hT := (if_pos h6).symm.trans hT
          refine fun v7 e8 => ?_
          replace hT := qlc e8 hT
          have w9 := wI_rng v7
          have w10 : wI v7 = v7 := wI_id (by (first | (clear hm hnf; omega) | omega))
          exact Exists.intro (48 - ((wI v7)) : Int).toNat (And.intro (by first | exact qtn hm (by (try clear hm hnf); omega) | omega) (And.intro i1 (And.intro j1 (And.intro f1 (And.intro rfl (And.intro (by (first | (clear hm hnf; omega) | omega)) (And.intro (by (first | (clear hm hnf; omega) | omega)) (Exists.intro ng (And.intro (by first | exact qtm hm hnf (by (try clear hm hnf); omega) | omega) hT)))))))))
        · replace hT := (if_neg h6).symm.trans hT
          refine And.intro (by (first | (clear hm hnf; omega) | omega)) (fun v11 gv11 e12 => ?_)
          replace hT := qlc e12 hT
          have b13 := iva_at i1 2 rfl (i := c) (by (first | (clear hm hnf; omega) | omega)) (by (first | (clear hm hnf; omega) | omega))
          refine And.intro (fun h14 => ?_) (fun h14 => ?_)
          · replace hT := (if_pos h14).symm.trans hT
            refine fun v15 e16 => ?_
            replace hT := qlc e16 hT
            have w17 := wI_rng v15
            have w18 : wI v15 = v15 := wI_id (by (first | (clear hm hnf; omega) | omega))
            exact Exists.intro (48 - ((wI v15)) : Int).toNat (And.intro (by first | exact qtn hm (by (try clear hm hnf); omega) | omega) (And.intro i1 (And.intro j1 (And.intro f1 (And.intro rfl (And.intro (by (first | (clear hm hnf; omega) | omega)) (And.intro (by (first | (clear hm hnf; omega) | omega)) (Exists.intro ng (And.intro (by first | exact qtm hm hnf (by (try clear hm hnf); omega) | omega) hT)))))))))
          · replace hT := (if_neg h14).symm.trans hT
            refine Exists.intro c (Exists.intro 103 (Exists.intro 50 (And.intro rfl (And.intro (And.intro i1 (And.intro j1 (And.intro (by (first | (clear hm hnf; omega) | omega)) (And.intro (by (first | (clear hm hnf; omega) | omega)) (And.intro (by (first | (clear hm hnf; omega) | omega)) (And.intro (by (first | (clear hm hnf; omega) | omega)) (WF_fr p1 f1 rfl))))))) (fun A19 i20 j21 f22 r23 g27 g28 g24 g25 g26 => ?_)))))
            replace hT := qlpc g25 g26 hT
            clear g25 g26
            have f29 := frm_c f1 f22 rfl
            refine fun v30 e31 => ?_
            replace hT := qlc e31 hT
            refine fun v32 e33 => ?_
            replace hT := qlc e33 hT
            have w34 := wI_rng v30
            have w35 := wI_rng v32
            have w36 : wI v32 = v32 := wI_id (by (first | (clear hm hnf; omega) | omega))
            exact Exists.intro (48 - ((wI v32)) : Int).toNat (And.intro (by first | exact qtn hm (by (try clear hm hnf); omega) | omega) (And.intro i20 (And.intro j21 (And.intro f29 (And.intro rfl (And.intro (by (first | (clear hm hnf; omega) | omega)) (And.intro (by (first | (clear hm hnf; omega) | omega)) (Exists.intro ng (And.intro (by first | exact qtm hm hnf (by (try clear hm hnf); omega) | omega) hT)))))))))
  · exact Exists.intro (48 - 0 : Int).toNat (And.intro i0 (And.intro j0 (And.intro f0 (And.intro rfl (And.intro (by (first | (clear hm hnf; omega) | omega)) (And.intro (by (first | (clear hm hnf; omega) | omega)) (Exists.intro 100000 (And.intro (by (first | (clear hm hnf; omega) | omega)) hT))))))))
theorem pM_growth {A : qA} (hA : qokA LM A) (p0 : iva IM A) (p1 : ivf JM A) (p2 : WF A) : qokA LM (fM_growth A).2 ∧ iva IM (fM_growth A).2 ∧ ivf JM (fM_growth A).2 ∧ frm [34, 35] [] A (fM_growth A).2 ∧ rng (fM_growth A).1 := by
  obtain ⟨r, B, hB, _, hk⟩ := okM_ex okM_growth (as := [rf 0]) (K := fun _ B => B = (fM_growth A).2 ∧ iva IM (fM_growth A).2 ∧ ivf JM (fM_growth A).2 ∧ frm [34, 35] [] A (fM_growth A).2 ∧ rng (fM_growth A).1) hA (qoks_c (show qok (rf _) from trivial) qoks_n) ⟨rfl, ⟨p0, p1, p2⟩, fun A9 i9 j9 f9 r9 g9 x0 x1 => (by rw [← x1]; (try rw [← x0]); exact ⟨rfl, i9, j9, f9, g9⟩)⟩
  exact ⟨hk.1 ▸ hB, hk.2⟩
def fM_bits_c4 (rec : Nat → List Int → qA → Int) (l0 s k : Int) (A : qA) : Int := (if k < 8 then qlet (sr l0 k) fun v4 => qlet (ia v4 1) fun v7 => qlet (s + v7) fun v10 => qlet (k + 1) fun v12 => rec 4 [l0, ((wI v10)), ((wI v12))] A else s)
def fM_bits_L : Nat → Nat → List Int → qA → Int
  | 0 => fun _ _ B => 0
  | nF + 1 => fun k zs B => bif Nat.beq k 4 then (match zs with | [l0, s, k] => fM_bits_c4 (fM_bits_L nF) l0 s k B | _ => 0) else 0
theorem fM_bits_L4 (nF : Nat) (l0 s k : Int) (B : qA) : fM_bits_L (nF + 1) 4 [l0, s, k] B = fM_bits_c4 (fM_bits_L nF) l0 s k B := (congrFun (congrFun (congrFun (fM_bits_L.eq_2 nF) 4) [l0, s, k]) B).trans (qL1 rfl rfl)
def fM_bits (x : Int) (A : qA) : Int := (fM_bits_L 100000) 4 [x, 0, 0] A
def sM_bits : qS := fun as A K => ∃ x : Int, as = [ni x] ∧ (1 ≤ x ∧ x ≤ 255) ∧ (∀ r : Int, rng r → (r = fM_bits x A) → K (some (ni r)) A)
theorem okM_bits : okM LM 1 236 sM_bits := by
  refine qmeth [] true [] 25 rfl trivial ?_
  rintro _ A K hA has ⟨x, rfl, ⟨p1, p2⟩, hK⟩
  have rg_x : rng x := has (ni x) (by simp)
  have hT : _ = fM_bits x A := (fM_bits.eq_1 x A).symm
  refine ⟨Nat.le_of_ble_eq_true rfl, [(4, [(0, 0, 0), (1, 0, 0), (2, 0, 0)], fun zs B nn => match zs with | [l0, s, k] => A = B ∧ nn = (8 - k : Int).toNat ∧ (l0 = x) ∧ (0 ≤ k) ∧ (k ≤ 8) ∧ (∃ nf : Nat, nn < nf ∧ fM_bits_L nf 4 [l0, s, k] B = fM_bits x A) | _ => False)], ?_, ?_⟩
  · refine ⟨⟨rfl, ?_⟩, trivial⟩
    · refine fun l0 s k B mm hB hz hI => ?_
      obtain ⟨rfl, hm, c0, c1, c2, ⟨nf, hnf, hT⟩⟩ := hI
      obtain ⟨hz_l0, hz_s, hz_k, _⟩ := hz
      obtain ⟨ng, rfl⟩ : ∃ k, nf = k + 1 := ⟨nf - 1, by omega⟩
      replace hT := (fM_bits_c4.eq_1 (fM_bits_L ng) l0 s k A).symm.trans ((fM_bits_L4 ng l0 s k A).symm.trans hT)
      refine And.intro (fun h3 => ?_) (fun h3 => ?_)
      · replace hT := (if_neg (Int.not_lt.mpr h3)).symm.trans hT
        exact hK _ (by first | assumption | exact ⟨by (first | (clear hm hnf; omega) | omega), by (first | (clear hm hnf; omega) | omega)⟩ | exact wI_rng _ | exact i_rng _ | (subst_vars; exact i_rng _) | exact (hA _ _).2 rfl) hT
      · replace hT := (if_pos h3).symm.trans hT
        refine fun v4 e5 => ?_
        replace hT := qlc e5 hT
        have h6 := sr_bd (a := l0) (b := k) (by (first | (clear hm hnf; omega) | omega)) (by (first | (clear hm hnf; omega) | omega))
        refine fun v7 e8 => ?_
        replace hT := qlc e8 hT
        have h9 := ia_bd (a := v4) (b := 1) (by (first | (clear hm hnf; omega) | omega)) (by (first | (clear hm hnf; omega) | omega))
        refine fun v10 e11 => ?_
        replace hT := qlc e11 hT
        refine fun v12 e13 => ?_
        replace hT := qlc e13 hT
        have w14 := wI_rng v10
        have w15 := wI_rng v12
        have w16 : wI v12 = v12 := wI_id (by (first | (clear hm hnf; omega) | omega))
        exact Exists.intro (8 - ((wI v12)) : Int).toNat (And.intro (by first | exact qtn hm (by (try clear hm hnf); omega) | omega) (And.intro rfl (And.intro rfl (And.intro (by (first | (clear hm hnf; omega) | omega)) (And.intro (by (first | (clear hm hnf; omega) | omega)) (And.intro (by (first | (clear hm hnf; omega) | omega)) (Exists.intro ng (And.intro (by first | exact qtm hm hnf (by (try clear hm hnf); omega) | omega) hT))))))))
  · exact Exists.intro (8 - 0 : Int).toNat (And.intro rfl (And.intro rfl (And.intro (by (first | (clear hm hnf; omega) | omega)) (And.intro (by (first | (clear hm hnf; omega) | omega)) (And.intro (by (first | (clear hm hnf; omega) | omega)) (Exists.intro 100000 (And.intro (by (first | (clear hm hnf; omega) | omega)) hT)))))))
theorem pM_bits {x : Int} {A : qA} (hA : qokA LM A) (p0 : 1 ≤ x) (p1 : x ≤ 255) : rng (fM_bits x A) := by
  obtain ⟨r, B, hB, _, hk⟩ := okM_ex okM_bits (as := [ni x]) (K := fun _ B => B = A ∧ rng (fM_bits x A)) hA (qoks_c (show rng x from ⟨by (first | (clear hm hnf; omega) | omega), by (first | (clear hm hnf; omega) | omega)⟩) qoks_n) ⟨x, rfl, ⟨p0, p1⟩, fun r9 g9 x0 => (by rw [← x0]; exact ⟨rfl, g9⟩)⟩
  exact hk.2
def fM_takesOf (c : Int) (A : qA) : Int := qlet (qm c 6) fun v3 => qlet (1 + v3) fun v6 => v6
def sM_takesOf : qS := fun as A K => ∃ c : Int, as = [ni c] ∧ (0 ≤ c ∧ c ≤ 47) ∧ (∀ r : Int, 1 ≤ r → r ≤ 6 → (r = fM_takesOf c A) → K (some (ni r)) A)
theorem okM_takesOf : okM LM 1 237 sM_takesOf := by
  refine qmeth [] false [] 12 rfl trivial ?_
  rintro _ A K hA has ⟨c, rfl, ⟨p1, p2⟩, hK⟩
  have rg_c : rng c := has (ni c) (by simp)
  have hT : _ = fM_takesOf c A := (fM_takesOf.eq_1 c A).symm
  refine ⟨Nat.le_of_ble_eq_true rfl, [], trivial, ?_⟩
  refine And.intro (by (first | (clear hm hnf; omega) | omega)) (fun v3 e4 => ?_)
  replace hT := qlc e4 hT
  have h5 := qm_nn (a := c) (b := 6) (by (first | (clear hm hnf; omega) | omega))
  refine fun v6 e7 => ?_
  replace hT := qlc e7 hT
  exact And.intro (by (first | (clear hm hnf; omega) | omega)) (hK _ (by (first | (clear hm hnf; omega) | omega)) (by (first | (clear hm hnf; omega) | omega)) hT)
theorem pM_takesOf {c : Int} {A : qA} (hA : qokA LM A) (p0 : 0 ≤ c) (p1 : c ≤ 47) : (1 ≤ (fM_takesOf c A) ∧ (fM_takesOf c A) ≤ 6) := by
  obtain ⟨r, B, hB, _, hk⟩ := okM_ex okM_takesOf (as := [ni c]) (K := fun _ B => B = A ∧ (1 ≤ (fM_takesOf c A) ∧ (fM_takesOf c A) ≤ 6)) hA (qoks_c (show rng c from ⟨by (first | (clear hm hnf; omega) | omega), by (first | (clear hm hnf; omega) | omega)⟩) qoks_n) ⟨c, rfl, ⟨p0, p1⟩, fun r9 g8 g9 x0 => (by rw [← x0]; exact ⟨rfl, ⟨g8, g9⟩⟩)⟩
  exact hk.2
def fM_hoursOf_c4 (rec : Nat → List Int → qA → Int) (l1 s q : Int) (A : qA) : Int := qlet (A 0 (fd 63)) fun v3 => (if q < v3 then qlet (sr l1 q) fun v7 => qlet (ia v7 1) fun v10 => (if v10 = 1 then qlet (A 50 q) fun v22 => qlet (fM_takesOf v22 A) fun r25 => qlet (s + r25) fun v29 => qlet (q + 1) fun v31 => rec 4 [l1, ((wI v29)), ((wI v31))] A else qlet (s + 0) fun v14 => qlet (q + 1) fun v16 => rec 4 [l1, ((wI v14)), ((wI v16))] A) else s)
def fM_hoursOf_L : Nat → Nat → List Int → qA → Int
  | 0 => fun _ _ B => 0
  | nF + 1 => fun k zs B => bif Nat.beq k 4 then (match zs with | [l1, s, q] => fM_hoursOf_c4 (fM_hoursOf_L nF) l1 s q B | _ => 0) else 0
theorem fM_hoursOf_L4 (nF : Nat) (l1 s q : Int) (B : qA) : fM_hoursOf_L (nF + 1) 4 [l1, s, q] B = fM_hoursOf_c4 (fM_hoursOf_L nF) l1 s q B := (congrFun (congrFun (congrFun (fM_hoursOf_L.eq_2 nF) 4) [l1, s, q]) B).trans (qL1 rfl rfl)
def fM_hoursOf (d : Int) (A : qA) : Int := (fM_hoursOf_L 100000) 4 [d, 0, 0] A
def sM_hoursOf : qS := fun as A K => ∃ d : Int, as = [rf 0, ni d] ∧ (iva IM A ∧ ivf JM A ∧ 0 ≤ d ∧ d ≤ 255) ∧ (∀ r : Int, rng r → (r = fM_hoursOf d A) → K (some (ni r)) A)
theorem okM_hoursOf : okM LM 2 238 sM_hoursOf := by
  refine qmeth [] true [(237, sM_takesOf)] 35 rfl ⟨okM_takesOf.le (by decide), trivial⟩ ?_
  rintro _ A K hA has ⟨d, rfl, ⟨i0, j0, p1, p2⟩, hK⟩
  have rg_d : rng d := has (ni d) (by simp)
  have f0 := frm_0 [] [] A
  have hT : _ = fM_hoursOf d A := (fM_hoursOf.eq_1 d A).symm
  refine ⟨Nat.le_of_ble_eq_true rfl, [(4, [(0, 2, 0), (1, 0, 0), (2, 0, 0), (3, 0, 0)], fun zs B nn => match zs with | [l1, s, q] => A = B ∧ nn = (8 - q : Int).toNat ∧ (l1 = d) ∧ (0 ≤ q) ∧ (q ≤ 8) ∧ (∃ nf : Nat, nn < nf ∧ fM_hoursOf_L nf 4 [l1, s, q] B = fM_hoursOf d A) | _ => False)], ?_, ?_⟩
  · refine ⟨⟨rfl, ?_⟩, trivial⟩
    · refine fun l1 s q B mm hB hz hI => ?_
      obtain ⟨rfl, hm, c0, c1, c2, ⟨nf, hnf, hT⟩⟩ := hI
      obtain ⟨hz_l1, hz_s, hz_q, _⟩ := hz
      obtain ⟨ng, rfl⟩ : ∃ k, nf = k + 1 := ⟨nf - 1, by omega⟩
      replace hT := (fM_hoursOf_c4.eq_1 (fM_hoursOf_L ng) l1 s q A).symm.trans ((fM_hoursOf_L4 ng l1 s q A).symm.trans hT)
      refine fun v3 gv3 e4 => ?_
      replace hT := qlc e4 hT
      have b5 := ivf_at j0 2 rfl
      refine And.intro (fun h6 => ?_) (fun h6 => ?_)
      · replace hT := (if_neg (Int.not_lt.mpr h6)).symm.trans hT
        exact hK _ (by first | assumption | exact ⟨by (first | (clear hm hnf; omega) | omega), by (first | (clear hm hnf; omega) | omega)⟩ | exact wI_rng _ | exact i_rng _ | (subst_vars; exact i_rng _) | exact (hA _ _).2 rfl) hT
      · replace hT := (if_pos h6).symm.trans hT
        refine fun v7 e8 => ?_
        replace hT := qlc e8 hT
        have h9 := sr_bd (a := l1) (b := q) (by (first | (clear hm hnf; omega) | omega)) (by (first | (clear hm hnf; omega) | omega))
        refine fun v10 e11 => ?_
        replace hT := qlc e11 hT
        have h12 := ia_bd (a := v7) (b := 1) (by (first | (clear hm hnf; omega) | omega)) (by (first | (clear hm hnf; omega) | omega))
        refine And.intro (fun h13 => ?_) (fun h13 => ?_)
        · replace hT := (if_neg h13).symm.trans hT
          refine fun v14 e15 => ?_
          replace hT := qlc e15 hT
          refine fun v16 e17 => ?_
          replace hT := qlc e17 hT
          have w18 := wI_rng v14
          have w19 : wI v14 = v14 := wI_id (by (first | (clear hm hnf; omega) | omega))
          have w20 := wI_rng v16
          have w21 : wI v16 = v16 := wI_id (by (first | (clear hm hnf; omega) | omega))
          exact Exists.intro (8 - ((wI v16)) : Int).toNat (And.intro (by first | exact qtn hm (by (try clear hm hnf); omega) | omega) (And.intro rfl (And.intro rfl (And.intro (by (first | (clear hm hnf; omega) | omega)) (And.intro (by (first | (clear hm hnf; omega) | omega)) (And.intro (by (first | (clear hm hnf; omega) | omega)) (Exists.intro ng (And.intro (by first | exact qtm hm hnf (by (try clear hm hnf); omega) | omega) hT))))))))
        · replace hT := (if_pos h13).symm.trans hT
          refine And.intro (by (first | (clear hm hnf; omega) | omega)) (fun v22 gv22 e23 => ?_)
          replace hT := qlc e23 hT
          have b24 := iva_at i0 21 rfl (i := q) (by (first | (clear hm hnf; omega) | omega)) (by (first | (clear hm hnf; omega) | omega))
          refine Exists.intro v22 (And.intro rfl (And.intro (And.intro (by (first | (clear hm hnf; omega) | omega)) (by (first | (clear hm hnf; omega) | omega))) (fun r25 g27 g28 g26 => ?_)))
          replace hT := qlc g26 hT
          clear g26
          refine fun v29 e30 => ?_
          replace hT := qlc e30 hT
          refine fun v31 e32 => ?_
          replace hT := qlc e32 hT
          have w33 := wI_rng v29
          have w34 := wI_rng v31
          have w35 : wI v31 = v31 := wI_id (by (first | (clear hm hnf; omega) | omega))
          exact Exists.intro (8 - ((wI v31)) : Int).toNat (And.intro (by first | exact qtn hm (by (try clear hm hnf); omega) | omega) (And.intro rfl (And.intro rfl (And.intro (by (first | (clear hm hnf; omega) | omega)) (And.intro (by (first | (clear hm hnf; omega) | omega)) (And.intro (by (first | (clear hm hnf; omega) | omega)) (Exists.intro ng (And.intro (by first | exact qtm hm hnf (by (try clear hm hnf); omega) | omega) hT))))))))
  · exact Exists.intro (8 - 0 : Int).toNat (And.intro rfl (And.intro rfl (And.intro (by (first | (clear hm hnf; omega) | omega)) (And.intro (by (first | (clear hm hnf; omega) | omega)) (And.intro (by (first | (clear hm hnf; omega) | omega)) (Exists.intro 100000 (And.intro (by (first | (clear hm hnf; omega) | omega)) hT)))))))
theorem pM_hoursOf {d : Int} {A : qA} (hA : qokA LM A) (p0 : iva IM A) (p1 : ivf JM A) (p2 : 0 ≤ d) (p3 : d ≤ 255) : rng (fM_hoursOf d A) := by
  obtain ⟨r, B, hB, _, hk⟩ := okM_ex okM_hoursOf (as := [rf 0, ni d]) (K := fun _ B => B = A ∧ rng (fM_hoursOf d A)) hA (qoks_c (show qok (rf _) from trivial) (qoks_c (show rng d from ⟨by (first | (clear hm hnf; omega) | omega), by (first | (clear hm hnf; omega) | omega)⟩) qoks_n)) ⟨d, rfl, ⟨p0, p1, p2, p3⟩, fun r9 g9 x0 => (by rw [← x0]; exact ⟨rfl, g9⟩)⟩
  exact hk.2
def fM_isHit_c2 (rec : Nat → List Int → qA → Int) (l1 l2 l : Int) (A : qA) : Int := (if l < 6 then qlet (A 1 (6 * l1 + l)) fun v4 => (if v4 = 0 then qlet (l + 1) fun v8 => rec 2 [l1, l2, v8] A else qlet (A 7 (6 * l1 + l)) fun v10 => (if v10 = (-1) then qlet (l + 1) fun v14 => rec 2 [l1, l2, v14] A else qlet (A 7 (6 * l1 + l)) fun v16 => qlet (sr l2 v10) fun v20 => qlet (ia v20 1) fun v22 => (if v22 = 1 then qlet (6 - l) fun v28 => qlet (A 16 l1) fun v30 => (if v30 < v28 then 1 else qlet (l + 1) fun v34 => rec 2 [l1, l2, v34] A) else qlet (l + 1) fun v26 => rec 2 [l1, l2, v26] A))) else 0)
def fM_isHit_L : Nat → Nat → List Int → qA → Int
  | 0 => fun _ _ B => 0
  | nF + 1 => fun k zs B => bif Nat.beq k 2 then (match zs with | [l1, l2, l] => fM_isHit_c2 (fM_isHit_L nF) l1 l2 l B | _ => 0) else 0
theorem fM_isHit_L2 (nF : Nat) (l1 l2 l : Int) (B : qA) : fM_isHit_L (nF + 1) 2 [l1, l2, l] B = fM_isHit_c2 (fM_isHit_L nF) l1 l2 l B := (congrFun (congrFun (congrFun (fM_isHit_L.eq_2 nF) 2) [l1, l2, l]) B).trans (qL1 rfl rfl)
def fM_isHit (c k : Int) (A : qA) : Int := (fM_isHit_L 100000) 2 [c, k, 0] A
def sM_isHit : qS := fun as A K => ∃ c k : Int, as = [rf 0, ni c, ni k] ∧ (iva IM A ∧ ivf JM A ∧ 0 ≤ c ∧ c ≤ 7) ∧ (∀ r : Int, 0 ≤ r → r ≤ 1 → (r = fM_isHit c k A) → K (some (ni r)) A)
theorem okM_isHit : okM LM 2 242 sM_isHit := by
  refine qmeth [] false [(149, sM_at)] 50 rfl ⟨okM_at.le (by decide), trivial⟩ ?_
  rintro _ A K hA has ⟨c, k, rfl, ⟨i0, j0, p1, p2⟩, hK⟩
  have rg_c : rng c := has (ni c) (by simp)
  have rg_k : rng k := has (ni k) (by simp)
  have f0 := frm_0 [] [] A
  have hT : _ = fM_isHit c k A := (fM_isHit.eq_1 c k A).symm
  refine ⟨Nat.le_of_ble_eq_true rfl, [(2, [(0, 2, 0), (1, 0, 0), (2, 0, 0), (3, 0, 0)], fun zs B nn => match zs with | [l1, l2, l] => A = B ∧ nn = (6 - l : Int).toNat ∧ (l1 = c) ∧ (l2 = k) ∧ (0 ≤ l) ∧ (l ≤ 6) ∧ (∃ nf : Nat, nn < nf ∧ fM_isHit_L nf 2 [l1, l2, l] B = fM_isHit c k A) | _ => False)], ?_, ?_⟩
  · refine ⟨⟨rfl, ?_⟩, trivial⟩
    · refine fun l1 l2 l B mm hB hz hI => ?_
      obtain ⟨rfl, hm, c0, c1, c2, c3, ⟨nf, hnf, hT⟩⟩ := hI
      obtain ⟨hz_l1, hz_l2, hz_l, _⟩ := hz
      obtain ⟨ng, rfl⟩ : ∃ k, nf = k + 1 := ⟨nf - 1, by omega⟩
      replace hT := (fM_isHit_c2.eq_1 (fM_isHit_L ng) l1 l2 l A).symm.trans ((fM_isHit_L2 ng l1 l2 l A).symm.trans hT)
      refine And.intro (fun h3 => ?_) (fun h3 => ?_)
      · replace hT := (if_neg (Int.not_lt.mpr h3)).symm.trans hT
        exact And.intro (by (first | (clear hm hnf; omega) | omega)) (hK _ (by (first | (clear hm hnf; omega) | omega)) (by (first | (clear hm hnf; omega) | omega)) hT)
      · replace hT := (if_pos h3).symm.trans hT
        refine Exists.intro l1 (Exists.intro l (And.intro rfl (And.intro (And.intro (by (first | (clear hm hnf; omega) | omega)) (And.intro (by (first | (clear hm hnf; omega) | omega)) (And.intro (by (first | (clear hm hnf; omega) | omega)) (by (first | (clear hm hnf; omega) | omega))))) ?_)))
        refine And.intro (by (first | (clear hm hnf; omega) | omega)) (fun v4 gv4 e5 => ?_)
        replace hT := qlc e5 hT
        have b6 := iva_at i0 0 rfl (i := (6 * l1 + l)) (by (first | (clear hm hnf; omega) | omega)) (by (first | (clear hm hnf; omega) | omega))
        refine And.intro (fun h7 => ?_) (fun h7 => ?_)
        · replace hT := (if_pos h7).symm.trans hT
          refine fun v8 e9 => ?_
          replace hT := qlc e9 hT
          exact And.intro (by (first | (clear hm hnf; omega) | omega)) (Exists.intro (6 - v8 : Int).toNat (And.intro (by first | exact qtn hm (by (try clear hm hnf); omega) | omega) (And.intro rfl (And.intro rfl (And.intro (by (first | (clear hm hnf; omega) | omega)) (And.intro (by (first | (clear hm hnf; omega) | omega)) (And.intro (by (first | (clear hm hnf; omega) | omega)) (And.intro (by (first | (clear hm hnf; omega) | omega)) (Exists.intro ng (And.intro (by first | exact qtm hm hnf (by (try clear hm hnf); omega) | omega) hT))))))))))
        · replace hT := (if_neg h7).symm.trans hT
          refine And.intro (by (first | (clear hm hnf; omega) | omega)) (fun v10 gv10 e11 => ?_)
          replace hT := qlc e11 hT
          have b12 := iva_at i0 2 rfl (i := (6 * l1 + l)) (by (first | (clear hm hnf; omega) | omega)) (by (first | (clear hm hnf; omega) | omega))
          refine And.intro (fun h13 => ?_) (fun h13 => ?_)
          · replace hT := (if_pos h13).symm.trans hT
            refine fun v14 e15 => ?_
            replace hT := qlc e15 hT
            exact And.intro (by (first | (clear hm hnf; omega) | omega)) (Exists.intro (6 - v14 : Int).toNat (And.intro (by first | exact qtn hm (by (try clear hm hnf); omega) | omega) (And.intro rfl (And.intro rfl (And.intro (by (first | (clear hm hnf; omega) | omega)) (And.intro (by (first | (clear hm hnf; omega) | omega)) (And.intro (by (first | (clear hm hnf; omega) | omega)) (And.intro (by (first | (clear hm hnf; omega) | omega)) (Exists.intro ng (And.intro (by first | exact qtm hm hnf (by (try clear hm hnf); omega) | omega) hT))))))))))
          · replace hT := (if_neg h13).symm.trans hT
            refine And.intro (by (first | (clear hm hnf; omega) | omega)) (fun v16 gv16 e17 => ?_)
            replace hT := qlc e17 hT
            have b18 := iva_at i0 2 rfl (i := (6 * l1 + l)) (by (first | (clear hm hnf; omega) | omega)) (by (first | (clear hm hnf; omega) | omega))
            have q19 : v10 = v16 := (e17.trans e11.symm).symm
            subst q19
            refine fun v20 e21 => ?_
            replace hT := qlc e21 hT
            refine fun v22 e23 => ?_
            replace hT := qlc e23 hT
            have h24 := ia_bd (a := v20) (b := 1) (by (first | (clear hm hnf; omega) | omega)) (by (first | (clear hm hnf; omega) | omega))
            refine And.intro (fun h25 => ?_) (fun h25 => ?_)
            · replace hT := (if_neg h25).symm.trans hT
              refine fun v26 e27 => ?_
              replace hT := qlc e27 hT
              exact And.intro (by (first | (clear hm hnf; omega) | omega)) (Exists.intro (6 - v26 : Int).toNat (And.intro (by first | exact qtn hm (by (try clear hm hnf); omega) | omega) (And.intro rfl (And.intro rfl (And.intro (by (first | (clear hm hnf; omega) | omega)) (And.intro (by (first | (clear hm hnf; omega) | omega)) (And.intro (by (first | (clear hm hnf; omega) | omega)) (And.intro (by (first | (clear hm hnf; omega) | omega)) (Exists.intro ng (And.intro (by first | exact qtm hm hnf (by (try clear hm hnf); omega) | omega) hT))))))))))
            · replace hT := (if_pos h25).symm.trans hT
              refine fun v28 e29 => ?_
              replace hT := qlc e29 hT
              refine And.intro (by (first | (clear hm hnf; omega) | omega)) (fun v30 gv30 e31 => ?_)
              replace hT := qlc e31 hT
              have b32 := iva_at i0 7 rfl (i := l1) (by (first | (clear hm hnf; omega) | omega)) (by (first | (clear hm hnf; omega) | omega))
              refine And.intro (by (first | (clear hm hnf; omega) | omega)) (And.intro (fun h33 => ?_) (fun h33 => ?_))
              · replace hT := (if_neg (Int.not_lt.mpr h33)).symm.trans hT
                refine fun v34 e35 => ?_
                replace hT := qlc e35 hT
                exact And.intro (by (first | (clear hm hnf; omega) | omega)) (Exists.intro (6 - v34 : Int).toNat (And.intro (by first | exact qtn hm (by (try clear hm hnf); omega) | omega) (And.intro rfl (And.intro rfl (And.intro (by (first | (clear hm hnf; omega) | omega)) (And.intro (by (first | (clear hm hnf; omega) | omega)) (And.intro (by (first | (clear hm hnf; omega) | omega)) (And.intro (by (first | (clear hm hnf; omega) | omega)) (Exists.intro ng (And.intro (by first | exact qtm hm hnf (by (try clear hm hnf); omega) | omega) hT))))))))))
              · replace hT := (if_pos h33).symm.trans hT
                exact And.intro (by (first | (clear hm hnf; omega) | omega)) (hK _ (by (first | (clear hm hnf; omega) | omega)) (by (first | (clear hm hnf; omega) | omega)) hT)
  · exact Exists.intro (6 - 0 : Int).toNat (And.intro rfl (And.intro rfl (And.intro (by (first | (clear hm hnf; omega) | omega)) (And.intro (by (first | (clear hm hnf; omega) | omega)) (And.intro (by (first | (clear hm hnf; omega) | omega)) (And.intro (by (first | (clear hm hnf; omega) | omega)) (Exists.intro 100000 (And.intro (by (first | (clear hm hnf; omega) | omega)) hT))))))))
theorem pM_isHit {c k : Int} {A : qA} (hA : qokA LM A) (rg_k : rng k) (p0 : iva IM A) (p1 : ivf JM A) (p2 : 0 ≤ c) (p3 : c ≤ 7) : (0 ≤ (fM_isHit c k A) ∧ (fM_isHit c k A) ≤ 1) := by
  obtain ⟨r, B, hB, _, hk⟩ := okM_ex okM_isHit (as := [rf 0, ni c, ni k]) (K := fun _ B => B = A ∧ (0 ≤ (fM_isHit c k A) ∧ (fM_isHit c k A) ≤ 1)) hA (qoks_c (show qok (rf _) from trivial) (qoks_c (show rng c from ⟨by (first | (clear hm hnf; omega) | omega), by (first | (clear hm hnf; omega) | omega)⟩) (qoks_c (rg_k) qoks_n))) ⟨c, k, rfl, ⟨p0, p1, p2, p3⟩, fun r9 g8 g9 x0 => (by rw [← x0]; exact ⟨rfl, ⟨g8, g9⟩⟩)⟩
  exact hk.2
def fM_hail_c11 (rec : Nat → List Int → qA → Int) (l1 s x : Int) (A : qA) : Int := (if x < 8 then qlet (fM_isHit x l1 A) fun r5 => (if r5 = 0 then qlet (s + 0) fun v10 => qlet (x + 1) fun v12 => rec 11 [l1, v10, v12] A else qlet (s + 1) fun v14 => qlet (x + 1) fun v16 => rec 11 [l1, v14, v16] A) else s)
def fM_hail_L : Nat → Nat → List Int → qA → Int
  | 0 => fun _ _ B => 0
  | nF + 1 => fun k zs B => bif Nat.beq k 11 then (match zs with | [l1, s, x] => fM_hail_c11 (fM_hail_L nF) l1 s x B | _ => 0) else 0
theorem fM_hail_L11 (nF : Nat) (l1 s x : Int) (B : qA) : fM_hail_L (nF + 1) 11 [l1, s, x] B = fM_hail_c11 (fM_hail_L nF) l1 s x B := (congrFun (congrFun (congrFun (fM_hail_L.eq_2 nF) 11) [l1, s, x]) B).trans (qL1 rfl rfl)
def fM_hail (k : Int) (A : qA) : Int := (if 0 ≤ k ∧ k ≤ 63 then (fM_hail_L 100000) 11 [k, 0, 0] A else (-1))
def sM_hail : qS := fun as A K => ∃ k : Int, as = [rf 0, ni k] ∧ (iva IM A ∧ ivf JM A) ∧ (∀ r : Int, (-1) ≤ r → r ≤ 8 → (r = fM_hail k A) → K (some (ni r)) A)
theorem okM_hail : okM LM 3 243 sM_hail := by
  refine qmeth [] false [(145, sM_in), (242, sM_isHit)] 35 rfl ⟨okM_in.le (by decide), ⟨okM_isHit.le (by decide), trivial⟩⟩ ?_
  rintro _ A K hA has ⟨k, rfl, ⟨i0, j0⟩, hK⟩
  have rg_k : rng k := has (ni k) (by simp)
  have f0 := frm_0 [] [] A
  have hT : _ = fM_hail k A := (fM_hail.eq_1 k A).symm
  refine ⟨Nat.le_of_ble_eq_true rfl, [(11, [(0, 2, 0), (1, 0, 0), (2, 0, 0), (3, 0, 0)], fun zs B nn => match zs with | [l1, s, x] => A = B ∧ nn = (8 - x : Int).toNat ∧ (l1 = k) ∧ (0 ≤ x) ∧ (x ≤ 8) ∧ (0 ≤ s) ∧ (s ≤ x) ∧ (∃ nf : Nat, nn < nf ∧ fM_hail_L nf 11 [l1, s, x] B = fM_hail k A) | _ => False)], ?_, ?_⟩
  · refine ⟨⟨rfl, ?_⟩, trivial⟩
    · refine fun l1 s x B mm hB hz hI => ?_
      obtain ⟨rfl, hm, c0, c1, c2, c3, c4, ⟨nf, hnf, hT⟩⟩ := hI
      obtain ⟨hz_l1, hz_s, hz_x, _⟩ := hz
      obtain ⟨ng, rfl⟩ : ∃ k, nf = k + 1 := ⟨nf - 1, by omega⟩
      replace hT := (fM_hail_c11.eq_1 (fM_hail_L ng) l1 s x A).symm.trans ((fM_hail_L11 ng l1 s x A).symm.trans hT)
      refine And.intro (fun h4 => ?_) (fun h4 => ?_)
      · replace hT := (if_neg (Int.not_lt.mpr h4)).symm.trans hT
        exact hK _ (by (first | (clear hm hnf; omega) | omega)) (by (first | (clear hm hnf; omega) | omega)) hT
      · replace hT := (if_pos h4).symm.trans hT
        refine Exists.intro x (Exists.intro l1 (And.intro rfl (And.intro (And.intro i0 (And.intro j0 (And.intro (by (first | (clear hm hnf; omega) | omega)) (by (first | (clear hm hnf; omega) | omega))))) (fun r5 g7 g8 g6 => ?_))))
        replace hT := qlc g6 hT
        clear g6
        refine And.intro (fun h9 => ?_) (fun h9 => ?_)
        · replace hT := (if_pos h9).symm.trans hT
          refine fun v10 e11 => ?_
          replace hT := qlc e11 hT
          refine fun v12 e13 => ?_
          replace hT := qlc e13 hT
          exact And.intro (by (first | (clear hm hnf; omega) | omega)) (And.intro (by (first | (clear hm hnf; omega) | omega)) (Exists.intro (8 - v12 : Int).toNat (And.intro (by first | exact qtn hm (by (try clear hm hnf); omega) | omega) (And.intro rfl (And.intro rfl (And.intro (by (first | (clear hm hnf; omega) | omega)) (And.intro (by (first | (clear hm hnf; omega) | omega)) (And.intro (by (first | (clear hm hnf; omega) | omega)) (And.intro (by (first | (clear hm hnf; omega) | omega)) (And.intro (by (first | (clear hm hnf; omega) | omega)) (Exists.intro ng (And.intro (by first | exact qtm hm hnf (by (try clear hm hnf); omega) | omega) hT))))))))))))
        · replace hT := (if_neg h9).symm.trans hT
          refine fun v14 e15 => ?_
          replace hT := qlc e15 hT
          refine fun v16 e17 => ?_
          replace hT := qlc e17 hT
          exact And.intro (by (first | (clear hm hnf; omega) | omega)) (And.intro (by (first | (clear hm hnf; omega) | omega)) (Exists.intro (8 - v16 : Int).toNat (And.intro (by first | exact qtn hm (by (try clear hm hnf); omega) | omega) (And.intro rfl (And.intro rfl (And.intro (by (first | (clear hm hnf; omega) | omega)) (And.intro (by (first | (clear hm hnf; omega) | omega)) (And.intro (by (first | (clear hm hnf; omega) | omega)) (And.intro (by (first | (clear hm hnf; omega) | omega)) (And.intro (by (first | (clear hm hnf; omega) | omega)) (Exists.intro ng (And.intro (by first | exact qtm hm hnf (by (try clear hm hnf); omega) | omega) hT))))))))))))
  · refine Exists.intro k (Exists.intro 0 (Exists.intro 63 (And.intro rfl (And.intro (fun h1 => ?_) (fun h1 => ?_)))))
    · replace hT := (if_pos h1).symm.trans hT
      refine And.intro (fun h2 => ?_) (fun h2 => by exfalso; omega)
      exact Exists.intro (8 - 0 : Int).toNat (And.intro rfl (And.intro rfl (And.intro (by (first | (clear hm hnf; omega) | omega)) (And.intro (by (first | (clear hm hnf; omega) | omega)) (And.intro (by (first | (clear hm hnf; omega) | omega)) (And.intro (by (first | (clear hm hnf; omega) | omega)) (And.intro (by (first | (clear hm hnf; omega) | omega)) (Exists.intro 100000 (And.intro (by (first | (clear hm hnf; omega) | omega)) hT)))))))))
    · replace hT := (if_neg h1).symm.trans hT
      refine And.intro (fun h3 => by exfalso; omega) (fun h3 => ?_)
      exact hK _ (by (first | (clear hm hnf; omega) | omega)) (by (first | (clear hm hnf; omega) | omega)) hT
theorem pM_hail {k : Int} {A : qA} (hA : qokA LM A) (rg_k : rng k) (p0 : iva IM A) (p1 : ivf JM A) : ((-1) ≤ (fM_hail k A) ∧ (fM_hail k A) ≤ 8) := by
  obtain ⟨r, B, hB, _, hk⟩ := okM_ex okM_hail (as := [rf 0, ni k]) (K := fun _ B => B = A ∧ ((-1) ≤ (fM_hail k A) ∧ (fM_hail k A) ≤ 8)) hA (qoks_c (show qok (rf _) from trivial) (qoks_c (rg_k) qoks_n)) ⟨k, rfl, ⟨p0, p1⟩, fun r9 g8 g9 x0 => (by rw [← x0]; exact ⟨rfl, ⟨g8, g9⟩⟩)⟩
  exact hk.2
def fM_tapeNumber_c6 (rec : Nat → List Int → qA → Int) (l1 s k : Int) (A : qA) : Int := qlet (4 * l1) fun v7 => qlet (v7 + 4) fun v9 => (if k < (wI v9) then qlet (sl s 8) fun v14 => qlet (A 22 k) fun v16 => qlet (ia v16 255) fun v19 => qlet (io v14 v19) fun v22 => qlet (k + 1) fun v24 => rec 6 [l1, v22, ((wI v24))] A else s)
def fM_tapeNumber_L : Nat → Nat → List Int → qA → Int
  | 0 => fun _ _ B => 0
  | nF + 1 => fun k zs B => bif Nat.beq k 6 then (match zs with | [l1, s, k] => fM_tapeNumber_c6 (fM_tapeNumber_L nF) l1 s k B | _ => 0) else 0
theorem fM_tapeNumber_L6 (nF : Nat) (l1 s k : Int) (B : qA) : fM_tapeNumber_L (nF + 1) 6 [l1, s, k] B = fM_tapeNumber_c6 (fM_tapeNumber_L nF) l1 s k B := (congrFun (congrFun (congrFun (fM_tapeNumber_L.eq_2 nF) 6) [l1, s, k]) B).trans (qL1 rfl rfl)
def fM_tapeNumber (i : Int) (A : qA) : Int := qlet (4 * i) fun v3 => (fM_tapeNumber_L 100000) 6 [i, 0, ((wI v3))] A
def sM_tapeNumber : qS := fun as A K => ∃ i : Int, as = [rf 0, ni i] ∧ (iva IM A ∧ ivf JM A ∧ 0 ≤ i ∧ i ≤ 5) ∧ (∀ r : Int, rng r → (r = fM_tapeNumber i A) → K (some (ni r)) A)
theorem okM_tapeNumber : okM LM 1 244 sM_tapeNumber := by
  refine qmeth [] true [] 34 rfl trivial ?_
  rintro _ A K hA has ⟨i, rfl, ⟨i0, j0, p1, p2⟩, hK⟩
  have rg_i : rng i := has (ni i) (by simp)
  have f0 := frm_0 [] [] A
  have hT : _ = fM_tapeNumber i A := (fM_tapeNumber.eq_1 i A).symm
  refine ⟨Nat.le_of_ble_eq_true rfl, [(6, [(0, 2, 0), (1, 0, 0), (2, 0, 0), (3, 0, 0)], fun zs B nn => match zs with | [l1, s, k] => A = B ∧ nn = (24 - k : Int).toNat ∧ (l1 = i) ∧ (0 ≤ l1) ∧ (l1 ≤ 5) ∧ (0 ≤ k) ∧ (k ≤ 24) ∧ (∃ nf : Nat, nn < nf ∧ fM_tapeNumber_L nf 6 [l1, s, k] B = fM_tapeNumber i A) | _ => False)], ?_, ?_⟩
  · refine ⟨⟨rfl, ?_⟩, trivial⟩
    · refine fun l1 s k B mm hB hz hI => ?_
      obtain ⟨rfl, hm, c0, c1, c2, c3, c4, ⟨nf, hnf, hT⟩⟩ := hI
      obtain ⟨hz_l1, hz_s, hz_k, _⟩ := hz
      obtain ⟨ng, rfl⟩ : ∃ k, nf = k + 1 := ⟨nf - 1, by omega⟩
      replace hT := (fM_tapeNumber_c6.eq_1 (fM_tapeNumber_L ng) l1 s k A).symm.trans ((fM_tapeNumber_L6 ng l1 s k A).symm.trans hT)
      refine fun v7 e8 => ?_
      replace hT := qlc e8 hT
      refine fun v9 e10 => ?_
      replace hT := qlc e10 hT
      have w12 := wI_rng v9
      have w13 : wI v9 = v9 := wI_id (by (first | (clear hm hnf; omega) | omega))
      refine And.intro (fun h11 => ?_) (fun h11 => ?_)
      · replace hT := (if_neg (Int.not_lt.mpr h11)).symm.trans hT
        exact hK _ (by first | assumption | exact ⟨by (first | (clear hm hnf; omega) | omega), by (first | (clear hm hnf; omega) | omega)⟩ | exact wI_rng _ | exact i_rng _ | (subst_vars; exact i_rng _) | exact (hA _ _).2 rfl) hT
      · replace hT := (if_pos h11).symm.trans hT
        refine fun v14 e15 => ?_
        replace hT := qlc e15 hT
        refine And.intro (by (first | (clear hm hnf; omega) | omega)) (fun v16 gv16 e17 => ?_)
        replace hT := qlc e17 hT
        have b18 := iva_at i0 10 rfl (i := k) (by (first | (clear hm hnf; omega) | omega)) (by (first | (clear hm hnf; omega) | omega))
        refine fun v19 e20 => ?_
        replace hT := qlc e20 hT
        have h21 := ia_bd (a := v16) (b := 255) (by (first | (clear hm hnf; omega) | omega)) (by (first | (clear hm hnf; omega) | omega))
        refine fun v22 e23 => ?_
        replace hT := qlc e23 hT
        refine fun v24 e25 => ?_
        replace hT := qlc e25 hT
        have w26 := wI_rng v24
        have w27 : wI v24 = v24 := wI_id (by (first | (clear hm hnf; omega) | omega))
        exact Exists.intro (24 - ((wI v24)) : Int).toNat (And.intro (by first | exact qtn hm (by (try clear hm hnf); omega) | omega) (And.intro rfl (And.intro rfl (And.intro (by (first | (clear hm hnf; omega) | omega)) (And.intro (by (first | (clear hm hnf; omega) | omega)) (And.intro (by (first | (clear hm hnf; omega) | omega)) (And.intro (by (first | (clear hm hnf; omega) | omega)) (And.intro (by (first | (clear hm hnf; omega) | omega)) (Exists.intro ng (And.intro (by first | exact qtm hm hnf (by (try clear hm hnf); omega) | omega) hT))))))))))
  · refine fun v3 e4 => ?_
    replace hT := qlc e4 hT
    have w5 := wI_rng v3
    have w6 : wI v3 = v3 := wI_id (by (first | (clear hm hnf; omega) | omega))
    exact Exists.intro (24 - ((wI v3)) : Int).toNat (And.intro rfl (And.intro rfl (And.intro (by (first | (clear hm hnf; omega) | omega)) (And.intro (by (first | (clear hm hnf; omega) | omega)) (And.intro (by (first | (clear hm hnf; omega) | omega)) (And.intro (by (first | (clear hm hnf; omega) | omega)) (And.intro (by (first | (clear hm hnf; omega) | omega)) (Exists.intro 100000 (And.intro (by (first | (clear hm hnf; omega) | omega)) hT)))))))))
theorem pM_tapeNumber {i : Int} {A : qA} (hA : qokA LM A) (p0 : iva IM A) (p1 : ivf JM A) (p2 : 0 ≤ i) (p3 : i ≤ 5) : rng (fM_tapeNumber i A) := by
  obtain ⟨r, B, hB, _, hk⟩ := okM_ex okM_tapeNumber (as := [rf 0, ni i]) (K := fun _ B => B = A ∧ rng (fM_tapeNumber i A)) hA (qoks_c (show qok (rf _) from trivial) (qoks_c (show rng i from ⟨by (first | (clear hm hnf; omega) | omega), by (first | (clear hm hnf; omega) | omega)⟩) qoks_n)) ⟨i, rfl, ⟨p0, p1, p2, p3⟩, fun r9 g9 x0 => (by rw [← x0]; exact ⟨rfl, g9⟩)⟩
  exact hk.2
def fM_check_c20 (rec : Nat → List Int → qA → Int × qA) (l1 l2 l : Int) (B : qA) : Int × qA := (if l < 6 then (if l = l2 then (l, B) else qlet (fM_tapeNumber l B) fun r20 => qlet (B 1 (6 * l1 + l)) fun v23 => (if v23 = 0 then (if r20 = (-1) then qlet (l + 1) fun v28 => rec 20 [l1, l2, v28] B else (l, B)) else qlet (B 7 (6 * l1 + l)) fun v30 => (if v30 = (-1) then (if r20 = (-1) then qlet (l + 1) fun v35 => rec 20 [l1, l2, v35] B else (l, B)) else qlet (B 8 (6 * l1 + l)) fun v37 => (if r20 = v37 then qlet (l + 1) fun v40 => rec 20 [l1, l2, v40] B else (l, B))))) else (if 6 < l2 then (6, B) else ((-1), B)))
def fM_check_L : Nat → Nat → List Int → qA → Int × qA
  | 0 => fun _ _ B => (0, B)
  | nF + 1 => fun k zs B => bif Nat.beq k 20 then (match zs with | [l1, l2, l] => fM_check_c20 (fM_check_L nF) l1 l2 l B | _ => (0, B)) else (0, B)
theorem fM_check_L20 (nF : Nat) (l1 l2 l : Int) (B : qA) : fM_check_L (nF + 1) 20 [l1, l2, l] B = fM_check_c20 (fM_check_L nF) l1 l2 l B := (congrFun (congrFun (congrFun (fM_check_L.eq_2 nF) 20) [l1, l2, l]) B).trans (qL1 rfl rfl)
def fM_check (c n : Int) (A : qA) : Int × qA := (if 0 ≤ c ∧ c ≤ 7 then (if n < 0 then ((-2), A) else qlet (A 0 (fd 26)) fun v4 => qlet (qd v4 4) fun v7 => (if v7 < n then ((-2), A) else qlet (qu A 0 (fd 26) 0) fun A11 => (fM_check_L 100000) 20 [c, n, 0] A11)) else ((-2), A))
def sM_check : qS := fun as A K => ∃ c n : Int, as = [rf 0, ni c, ni n] ∧ (iva IM A ∧ ivf JM A) ∧ (∀ A' : qA, iva IM A' → ivf JM A' → frm [] [(0, 26)] A A' → ∀ r : Int, rng r → (r = (fM_check c n A).1) → (A' = (fM_check c n A).2) → K (some (ni r)) A')
theorem okM_check : okM LM 2 245 sM_check := by
  refine qmeth [] false [(145, sM_in), (149, sM_at), (244, sM_tapeNumber)] 68 rfl ⟨okM_in.le (by decide), ⟨okM_at.le (by decide), ⟨okM_tapeNumber.le (by decide), trivial⟩⟩⟩ ?_
  rintro _ A K hA has ⟨c, n, rfl, ⟨i0, j0⟩, hK⟩
  have rg_c : rng c := has (ni c) (by simp)
  have rg_n : rng n := has (ni n) (by simp)
  have f0 := frm_0 [] [(0, 26)] A
  have hT : _ = fM_check c n A := (fM_check.eq_1 c n A).symm
  refine ⟨Nat.le_of_ble_eq_true rfl, [(20, [(0, 2, 0), (1, 0, 0), (2, 0, 0), (3, 0, 0)], fun zs B nn => match zs with | [l1, l2, l] => iva IM B ∧ ivf JM B ∧ frm [] [(0, 26)] A B ∧ nn = (6 - l : Int).toNat ∧ (l1 = c) ∧ (l2 = n) ∧ (0 ≤ l) ∧ (l ≤ 6) ∧ (0 ≤ c) ∧ (c ≤ 7) ∧ (∃ nf : Nat, nn < nf ∧ fM_check_L nf 20 [l1, l2, l] B = fM_check c n A) | _ => False)], ?_, ?_⟩
  · refine ⟨⟨rfl, ?_⟩, trivial⟩
    · refine fun l1 l2 l B mm hB hz hI => ?_
      obtain ⟨i1, j1, f1, hm, c0, c1, c2, c3, c4, c5, ⟨nf, hnf, hT⟩⟩ := hI
      obtain ⟨hz_l1, hz_l2, hz_l, _⟩ := hz
      obtain ⟨ng, rfl⟩ : ∃ k, nf = k + 1 := ⟨nf - 1, by omega⟩
      replace hT := (fM_check_c20.eq_1 (fM_check_L ng) l1 l2 l B).symm.trans ((fM_check_L20 ng l1 l2 l B).symm.trans hT)
      refine And.intro (fun h17 => ?_) (fun h17 => ?_)
      · replace hT := (if_neg (Int.not_lt.mpr h17)).symm.trans hT
        refine And.intro (fun h18 => ?_) (fun h18 => ?_)
        · replace hT := (if_neg (Int.not_lt.mpr h18)).symm.trans hT
          exact hK _ i1 j1 f1 _ (by first | assumption | exact ⟨by (first | (clear hm hnf; omega) | omega), by (first | (clear hm hnf; omega) | omega)⟩ | exact wI_rng _ | exact i_rng _ | (subst_vars; exact i_rng _) | exact (hA _ _).2 rfl) (congrArg Prod.fst hT) (congrArg Prod.snd hT)
        · replace hT := (if_pos h18).symm.trans hT
          exact hK _ i1 j1 f1 _ (by first | assumption | exact ⟨by (first | (clear hm hnf; omega) | omega), by (first | (clear hm hnf; omega) | omega)⟩ | exact wI_rng _ | exact i_rng _ | (subst_vars; exact i_rng _) | exact (hA _ _).2 rfl) (congrArg Prod.fst hT) (congrArg Prod.snd hT)
      · replace hT := (if_pos h17).symm.trans hT
        refine Exists.intro l1 (Exists.intro l (And.intro rfl (And.intro (And.intro (by (first | (clear hm hnf; omega) | omega)) (And.intro (by (first | (clear hm hnf; omega) | omega)) (And.intro (by (first | (clear hm hnf; omega) | omega)) (by (first | (clear hm hnf; omega) | omega))))) ?_)))
        refine And.intro (fun h19 => ?_) (fun h19 => ?_)
        · replace hT := (if_pos h19).symm.trans hT
          exact hK _ i1 j1 f1 _ (by first | assumption | exact ⟨by (first | (clear hm hnf; omega) | omega), by (first | (clear hm hnf; omega) | omega)⟩ | exact wI_rng _ | exact i_rng _ | (subst_vars; exact i_rng _) | exact (hA _ _).2 rfl) (congrArg Prod.fst hT) (congrArg Prod.snd hT)
        · replace hT := (if_neg h19).symm.trans hT
          refine Exists.intro l (And.intro rfl (And.intro (And.intro i1 (And.intro j1 (And.intro (by (first | (clear hm hnf; omega) | omega)) (by (first | (clear hm hnf; omega) | omega))))) (fun r20 g22 g21 => ?_)))
          replace hT := qlc g21 hT
          clear g21
          refine And.intro (by (first | (clear hm hnf; omega) | omega)) (fun v23 gv23 e24 => ?_)
          replace hT := qlc e24 hT
          have b25 := iva_at i1 0 rfl (i := (6 * l1 + l)) (by (first | (clear hm hnf; omega) | omega)) (by (first | (clear hm hnf; omega) | omega))
          refine And.intro (fun h26 => ?_) (fun h26 => ?_)
          · replace hT := (if_pos h26).symm.trans hT
            refine And.intro (fun h27 => ?_) (fun h27 => ?_)
            · replace hT := (if_pos h27).symm.trans hT
              refine fun v28 e29 => ?_
              replace hT := qlc e29 hT
              exact And.intro (by (first | (clear hm hnf; omega) | omega)) (Exists.intro (6 - v28 : Int).toNat (And.intro (by first | exact qtn hm (by (try clear hm hnf); omega) | omega) (And.intro i1 (And.intro j1 (And.intro f1 (And.intro rfl (And.intro (by (first | (clear hm hnf; omega) | omega)) (And.intro (by (first | (clear hm hnf; omega) | omega)) (And.intro (by (first | (clear hm hnf; omega) | omega)) (And.intro (by (first | (clear hm hnf; omega) | omega)) (And.intro (by (first | (clear hm hnf; omega) | omega)) (And.intro (by (first | (clear hm hnf; omega) | omega)) (Exists.intro ng (And.intro (by first | exact qtm hm hnf (by (try clear hm hnf); omega) | omega) hT))))))))))))))
            · replace hT := (if_neg h27).symm.trans hT
              exact hK _ i1 j1 f1 _ (by first | assumption | exact ⟨by (first | (clear hm hnf; omega) | omega), by (first | (clear hm hnf; omega) | omega)⟩ | exact wI_rng _ | exact i_rng _ | (subst_vars; exact i_rng _) | exact (hA _ _).2 rfl) (congrArg Prod.fst hT) (congrArg Prod.snd hT)
          · replace hT := (if_neg h26).symm.trans hT
            refine And.intro (by (first | (clear hm hnf; omega) | omega)) (fun v30 gv30 e31 => ?_)
            replace hT := qlc e31 hT
            have b32 := iva_at i1 2 rfl (i := (6 * l1 + l)) (by (first | (clear hm hnf; omega) | omega)) (by (first | (clear hm hnf; omega) | omega))
            refine And.intro (fun h33 => ?_) (fun h33 => ?_)
            · replace hT := (if_pos h33).symm.trans hT
              refine And.intro (fun h34 => ?_) (fun h34 => ?_)
              · replace hT := (if_pos h34).symm.trans hT
                refine fun v35 e36 => ?_
                replace hT := qlc e36 hT
                exact And.intro (by (first | (clear hm hnf; omega) | omega)) (Exists.intro (6 - v35 : Int).toNat (And.intro (by first | exact qtn hm (by (try clear hm hnf); omega) | omega) (And.intro i1 (And.intro j1 (And.intro f1 (And.intro rfl (And.intro (by (first | (clear hm hnf; omega) | omega)) (And.intro (by (first | (clear hm hnf; omega) | omega)) (And.intro (by (first | (clear hm hnf; omega) | omega)) (And.intro (by (first | (clear hm hnf; omega) | omega)) (And.intro (by (first | (clear hm hnf; omega) | omega)) (And.intro (by (first | (clear hm hnf; omega) | omega)) (Exists.intro ng (And.intro (by first | exact qtm hm hnf (by (try clear hm hnf); omega) | omega) hT))))))))))))))
              · replace hT := (if_neg h34).symm.trans hT
                exact hK _ i1 j1 f1 _ (by first | assumption | exact ⟨by (first | (clear hm hnf; omega) | omega), by (first | (clear hm hnf; omega) | omega)⟩ | exact wI_rng _ | exact i_rng _ | (subst_vars; exact i_rng _) | exact (hA _ _).2 rfl) (congrArg Prod.fst hT) (congrArg Prod.snd hT)
            · replace hT := (if_neg h33).symm.trans hT
              refine And.intro (by (first | (clear hm hnf; omega) | omega)) (fun v37 gv37 e38 => ?_)
              replace hT := qlc e38 hT
              refine And.intro (fun h39 => ?_) (fun h39 => ?_)
              · replace hT := (if_pos h39).symm.trans hT
                refine fun v40 e41 => ?_
                replace hT := qlc e41 hT
                exact And.intro (by (first | (clear hm hnf; omega) | omega)) (Exists.intro (6 - v40 : Int).toNat (And.intro (by first | exact qtn hm (by (try clear hm hnf); omega) | omega) (And.intro i1 (And.intro j1 (And.intro f1 (And.intro rfl (And.intro (by (first | (clear hm hnf; omega) | omega)) (And.intro (by (first | (clear hm hnf; omega) | omega)) (And.intro (by (first | (clear hm hnf; omega) | omega)) (And.intro (by (first | (clear hm hnf; omega) | omega)) (And.intro (by (first | (clear hm hnf; omega) | omega)) (And.intro (by (first | (clear hm hnf; omega) | omega)) (Exists.intro ng (And.intro (by first | exact qtm hm hnf (by (try clear hm hnf); omega) | omega) hT))))))))))))))
              · replace hT := (if_neg h39).symm.trans hT
                exact hK _ i1 j1 f1 _ (by first | assumption | exact ⟨by (first | (clear hm hnf; omega) | omega), by (first | (clear hm hnf; omega) | omega)⟩ | exact wI_rng _ | exact i_rng _ | (subst_vars; exact i_rng _) | exact (hA _ _).2 rfl) (congrArg Prod.fst hT) (congrArg Prod.snd hT)
  · refine Exists.intro c (Exists.intro 0 (Exists.intro 7 (And.intro rfl (And.intro (fun h1 => ?_) (fun h1 => ?_)))))
    · replace hT := (if_pos h1).symm.trans hT
      refine And.intro (fun h2 => by exfalso; omega) (fun h2 => ?_)
      refine And.intro (fun h3 => ?_) (fun h3 => ?_)
      · replace hT := (if_pos h3).symm.trans hT
        exact hK _ i0 j0 f0 _ (by first | assumption | exact ⟨by (first | (clear hm hnf; omega) | omega), by (first | (clear hm hnf; omega) | omega)⟩ | exact wI_rng _ | exact i_rng _ | (subst_vars; exact i_rng _) | exact (hA _ _).2 rfl) (congrArg Prod.fst hT) (congrArg Prod.snd hT)
      · replace hT := (if_neg (Int.not_lt.mpr h3)).symm.trans hT
        refine fun v4 gv4 e5 => ?_
        replace hT := qlc e5 hT
        have b6 := ivf_at j0 1 rfl
        refine And.intro (by (first | (clear hm hnf; omega) | omega)) (fun v7 e8 => ?_)
        replace hT := qlc e8 hT
        have h9 := qd_nn (a := v4) (b := 4) (by (first | (clear hm hnf; omega) | omega))
        refine And.intro (by (first | (clear hm hnf; omega) | omega)) (And.intro (fun h10 => ?_) (fun h10 => ?_))
        · replace hT := (if_neg (Int.not_lt.mpr h10)).symm.trans hT
          refine fun A11 e12 => ?_
          replace hT := qlc e12 hT
          have i13 := iva_sf i0 e12 rfl
          have j14 := ivf_st j0 e12 (And.intro (by (first | (clear hm hnf; omega) | omega)) trivial)
          have f15 := frm_sf f0 e12 rfl
          exact Exists.intro (6 - 0 : Int).toNat (And.intro i13 (And.intro j14 (And.intro f15 (And.intro rfl (And.intro (by (first | (clear hm hnf; omega) | omega)) (And.intro (by (first | (clear hm hnf; omega) | omega)) (And.intro (by (first | (clear hm hnf; omega) | omega)) (And.intro (by (first | (clear hm hnf; omega) | omega)) (And.intro (by (first | (clear hm hnf; omega) | omega)) (And.intro (by (first | (clear hm hnf; omega) | omega)) (Exists.intro 100000 (And.intro (by (first | (clear hm hnf; omega) | omega)) hT))))))))))))
        · replace hT := (if_pos h10).symm.trans hT
          exact hK _ i0 j0 f0 _ (by first | assumption | exact ⟨by (first | (clear hm hnf; omega) | omega), by (first | (clear hm hnf; omega) | omega)⟩ | exact wI_rng _ | exact i_rng _ | (subst_vars; exact i_rng _) | exact (hA _ _).2 rfl) (congrArg Prod.fst hT) (congrArg Prod.snd hT)
    · replace hT := (if_neg h1).symm.trans hT
      refine And.intro (fun h16 => ?_) (fun h16 => by exfalso; omega)
      exact hK _ i0 j0 f0 _ (by first | assumption | exact ⟨by (first | (clear hm hnf; omega) | omega), by (first | (clear hm hnf; omega) | omega)⟩ | exact wI_rng _ | exact i_rng _ | (subst_vars; exact i_rng _) | exact (hA _ _).2 rfl) (congrArg Prod.fst hT) (congrArg Prod.snd hT)
theorem pM_check {c n : Int} {A : qA} (hA : qokA LM A) (rg_c : rng c) (rg_n : rng n) (p0 : iva IM A) (p1 : ivf JM A) : qokA LM (fM_check c n A).2 ∧ iva IM (fM_check c n A).2 ∧ ivf JM (fM_check c n A).2 ∧ frm [] [(0, 26)] A (fM_check c n A).2 ∧ rng (fM_check c n A).1 := by
  obtain ⟨r, B, hB, _, hk⟩ := okM_ex okM_check (as := [rf 0, ni c, ni n]) (K := fun _ B => B = (fM_check c n A).2 ∧ iva IM (fM_check c n A).2 ∧ ivf JM (fM_check c n A).2 ∧ frm [] [(0, 26)] A (fM_check c n A).2 ∧ rng (fM_check c n A).1) hA (qoks_c (show qok (rf _) from trivial) (qoks_c (rg_c) (qoks_c (rg_n) qoks_n))) ⟨c, n, rfl, ⟨p0, p1⟩, fun A9 i9 j9 f9 r9 g9 x0 x1 => (by rw [← x1]; (try rw [← x0]); exact ⟨rfl, i9, j9, f9, g9⟩)⟩
  exact ⟨hk.1 ▸ hB, hk.2⟩
def fM_cells_c4 (rec : Nat → List Int → qA → Int) (l1 s c : Int) (A : qA) : Int := (if c < 48 then qlet (A 1 c) fun v4 => (if v4 = 0 then qlet (s + 0) fun v8 => qlet (c + 1) fun v10 => rec 4 [l1, v8, v10] A else (if l1 = 0 then qlet (s + 1) fun v13 => qlet (c + 1) fun v15 => rec 4 [l1, v13, v15] A else qlet (A 7 c) fun v17 => (if v17 = (-1) then qlet (s + 0) fun v21 => qlet (c + 1) fun v23 => rec 4 [l1, v21, v23] A else qlet (s + 1) fun v25 => qlet (c + 1) fun v27 => rec 4 [l1, v25, v27] A))) else s)
def fM_cells_L : Nat → Nat → List Int → qA → Int
  | 0 => fun _ _ B => 0
  | nF + 1 => fun k zs B => bif Nat.beq k 4 then (match zs with | [l1, s, c] => fM_cells_c4 (fM_cells_L nF) l1 s c B | _ => 0) else 0
theorem fM_cells_L4 (nF : Nat) (l1 s c : Int) (B : qA) : fM_cells_L (nF + 1) 4 [l1, s, c] B = fM_cells_c4 (fM_cells_L nF) l1 s c B := (congrFun (congrFun (congrFun (fM_cells_L.eq_2 nF) 4) [l1, s, c]) B).trans (qL1 rfl rfl)
def fM_cells (b : Int) (A : qA) : Int := (fM_cells_L 100000) 4 [b, 0, 0] A
def sM_cells : qS := fun as A K => ∃ b : Int, as = [rf 0, ni b] ∧ (iva IM A ∧ ivf JM A ∧ 0 ≤ b ∧ b ≤ 1) ∧ (∀ r : Int, 0 ≤ r → r ≤ 48 → (r = fM_cells b A) → K (some (ni r)) A)
theorem okM_cells : okM LM 1 246 sM_cells := by
  refine qmeth [] false [] 36 rfl trivial ?_
  rintro _ A K hA has ⟨b, rfl, ⟨i0, j0, p1, p2⟩, hK⟩
  have rg_b : rng b := has (ni b) (by simp)
  have f0 := frm_0 [] [] A
  have hT : _ = fM_cells b A := (fM_cells.eq_1 b A).symm
  refine ⟨Nat.le_of_ble_eq_true rfl, [(4, [(0, 2, 0), (1, 0, 0), (2, 0, 0), (3, 0, 0)], fun zs B nn => match zs with | [l1, s, c] => A = B ∧ nn = (48 - c : Int).toNat ∧ (l1 = b) ∧ (0 ≤ c) ∧ (c ≤ 48) ∧ (0 ≤ s) ∧ (s ≤ c) ∧ (∃ nf : Nat, nn < nf ∧ fM_cells_L nf 4 [l1, s, c] B = fM_cells b A) | _ => False)], ?_, ?_⟩
  · refine ⟨⟨rfl, ?_⟩, trivial⟩
    · refine fun l1 s c B mm hB hz hI => ?_
      obtain ⟨rfl, hm, c0, c1, c2, c3, c4, ⟨nf, hnf, hT⟩⟩ := hI
      obtain ⟨hz_l1, hz_s, hz_c, _⟩ := hz
      obtain ⟨ng, rfl⟩ : ∃ k, nf = k + 1 := ⟨nf - 1, by omega⟩
      replace hT := (fM_cells_c4.eq_1 (fM_cells_L ng) l1 s c A).symm.trans ((fM_cells_L4 ng l1 s c A).symm.trans hT)
      refine And.intro (fun h3 => ?_) (fun h3 => ?_)
      · replace hT := (if_neg (Int.not_lt.mpr h3)).symm.trans hT
        exact hK _ (by (first | (clear hm hnf; omega) | omega)) (by (first | (clear hm hnf; omega) | omega)) hT
      · replace hT := (if_pos h3).symm.trans hT
        refine And.intro (by (first | (clear hm hnf; omega) | omega)) (fun v4 gv4 e5 => ?_)
        replace hT := qlc e5 hT
        have b6 := iva_at i0 0 rfl (i := c) (by (first | (clear hm hnf; omega) | omega)) (by (first | (clear hm hnf; omega) | omega))
        refine And.intro (fun h7 => ?_) (fun h7 => ?_)
        · replace hT := (if_pos h7).symm.trans hT
          refine fun v8 e9 => ?_
          replace hT := qlc e9 hT
          refine fun v10 e11 => ?_
          replace hT := qlc e11 hT
          exact And.intro (by (first | (clear hm hnf; omega) | omega)) (And.intro (by (first | (clear hm hnf; omega) | omega)) (Exists.intro (48 - v10 : Int).toNat (And.intro (by first | exact qtn hm (by (try clear hm hnf); omega) | omega) (And.intro rfl (And.intro rfl (And.intro (by (first | (clear hm hnf; omega) | omega)) (And.intro (by (first | (clear hm hnf; omega) | omega)) (And.intro (by (first | (clear hm hnf; omega) | omega)) (And.intro (by (first | (clear hm hnf; omega) | omega)) (And.intro (by (first | (clear hm hnf; omega) | omega)) (Exists.intro ng (And.intro (by first | exact qtm hm hnf (by (try clear hm hnf); omega) | omega) hT))))))))))))
        · replace hT := (if_neg h7).symm.trans hT
          refine And.intro (fun h12 => ?_) (fun h12 => ?_)
          · replace hT := (if_pos h12).symm.trans hT
            refine fun v13 e14 => ?_
            replace hT := qlc e14 hT
            refine fun v15 e16 => ?_
            replace hT := qlc e16 hT
            exact And.intro (by (first | (clear hm hnf; omega) | omega)) (And.intro (by (first | (clear hm hnf; omega) | omega)) (Exists.intro (48 - v15 : Int).toNat (And.intro (by first | exact qtn hm (by (try clear hm hnf); omega) | omega) (And.intro rfl (And.intro rfl (And.intro (by (first | (clear hm hnf; omega) | omega)) (And.intro (by (first | (clear hm hnf; omega) | omega)) (And.intro (by (first | (clear hm hnf; omega) | omega)) (And.intro (by (first | (clear hm hnf; omega) | omega)) (And.intro (by (first | (clear hm hnf; omega) | omega)) (Exists.intro ng (And.intro (by first | exact qtm hm hnf (by (try clear hm hnf); omega) | omega) hT))))))))))))
          · replace hT := (if_neg h12).symm.trans hT
            refine And.intro (by (first | (clear hm hnf; omega) | omega)) (fun v17 gv17 e18 => ?_)
            replace hT := qlc e18 hT
            have b19 := iva_at i0 2 rfl (i := c) (by (first | (clear hm hnf; omega) | omega)) (by (first | (clear hm hnf; omega) | omega))
            refine And.intro (fun h20 => ?_) (fun h20 => ?_)
            · replace hT := (if_pos h20).symm.trans hT
              refine fun v21 e22 => ?_
              replace hT := qlc e22 hT
              refine fun v23 e24 => ?_
              replace hT := qlc e24 hT
              exact And.intro (by (first | (clear hm hnf; omega) | omega)) (And.intro (by (first | (clear hm hnf; omega) | omega)) (Exists.intro (48 - v23 : Int).toNat (And.intro (by first | exact qtn hm (by (try clear hm hnf); omega) | omega) (And.intro rfl (And.intro rfl (And.intro (by (first | (clear hm hnf; omega) | omega)) (And.intro (by (first | (clear hm hnf; omega) | omega)) (And.intro (by (first | (clear hm hnf; omega) | omega)) (And.intro (by (first | (clear hm hnf; omega) | omega)) (And.intro (by (first | (clear hm hnf; omega) | omega)) (Exists.intro ng (And.intro (by first | exact qtm hm hnf (by (try clear hm hnf); omega) | omega) hT))))))))))))
            · replace hT := (if_neg h20).symm.trans hT
              refine fun v25 e26 => ?_
              replace hT := qlc e26 hT
              refine fun v27 e28 => ?_
              replace hT := qlc e28 hT
              exact And.intro (by (first | (clear hm hnf; omega) | omega)) (And.intro (by (first | (clear hm hnf; omega) | omega)) (Exists.intro (48 - v27 : Int).toNat (And.intro (by first | exact qtn hm (by (try clear hm hnf); omega) | omega) (And.intro rfl (And.intro rfl (And.intro (by (first | (clear hm hnf; omega) | omega)) (And.intro (by (first | (clear hm hnf; omega) | omega)) (And.intro (by (first | (clear hm hnf; omega) | omega)) (And.intro (by (first | (clear hm hnf; omega) | omega)) (And.intro (by (first | (clear hm hnf; omega) | omega)) (Exists.intro ng (And.intro (by first | exact qtm hm hnf (by (try clear hm hnf); omega) | omega) hT))))))))))))
  · exact Exists.intro (48 - 0 : Int).toNat (And.intro rfl (And.intro rfl (And.intro (by (first | (clear hm hnf; omega) | omega)) (And.intro (by (first | (clear hm hnf; omega) | omega)) (And.intro (by (first | (clear hm hnf; omega) | omega)) (And.intro (by (first | (clear hm hnf; omega) | omega)) (And.intro (by (first | (clear hm hnf; omega) | omega)) (Exists.intro 100000 (And.intro (by (first | (clear hm hnf; omega) | omega)) hT)))))))))
theorem pM_cells {b : Int} {A : qA} (hA : qokA LM A) (p0 : iva IM A) (p1 : ivf JM A) (p2 : 0 ≤ b) (p3 : b ≤ 1) : (0 ≤ (fM_cells b A) ∧ (fM_cells b A) ≤ 48) := by
  obtain ⟨r, B, hB, _, hk⟩ := okM_ex okM_cells (as := [rf 0, ni b]) (K := fun _ B => B = A ∧ (0 ≤ (fM_cells b A) ∧ (fM_cells b A) ≤ 48)) hA (qoks_c (show qok (rf _) from trivial) (qoks_c (show rng b from ⟨by (first | (clear hm hnf; omega) | omega), by (first | (clear hm hnf; omega) | omega)⟩) qoks_n)) ⟨b, rfl, ⟨p0, p1, p2, p3⟩, fun r9 g8 g9 x0 => (by rw [← x0]; exact ⟨rfl, ⟨g8, g9⟩⟩)⟩
  exact hk.2
def fM_count (w : Int) (A : qA) : Int := (if w = 0 then qlet (fM_cells 0 A) fun r48 => r48 else (if w = 1 then qlet (A 0 (fd 0)) fun v52 => v52 else (if w = 2 then qlet (A 0 (fd 2)) fun v54 => v54 else (if w = 3 then qlet (A 0 (fd 35)) fun v57 => v57 else (if w = 4 then qlet (A 0 (fd 26)) fun v60 => v60 else (if w = 5 then qlet (A 0 (fd 1)) fun v63 => v63 else (if w = 6 then qlet (fM_cells 1 A) fun r66 => r66 else (if 10 ≤ w ∧ w ≤ 17 then qlet (w - 10) fun v4 => qlet (A 14 v4) fun v6 => v6 else (if 20 ≤ w ∧ w ≤ 37 then qlet (w - 20) fun v11 => qlet (qm v11 3) fun v13 => (if v13 = 0 then qlet (w - 20) fun v39 => qlet (qd v39 3) fun v41 => qlet (A 11 v41) fun v44 => v44 else qlet (w - 20) fun v17 => qlet (qm v17 3) fun v19 => (if v19 = 1 then qlet (w - 20) fun v31 => qlet (qd v31 3) fun v33 => qlet (A 12 v33) fun v36 => v36 else qlet (w - 20) fun v23 => qlet (qd v23 3) fun v25 => qlet (A 13 v25) fun v28 => v28)) else (-1))))))))))
def sM_count : qS := fun as A K => ∃ w : Int, as = [rf 0, ni w] ∧ (iva IM A ∧ ivf JM A) ∧ (∀ r : Int, rng r → (r = fM_count w A) → K (some (ni r)) A)
theorem okM_count : okM LM 2 247 sM_count := by
  refine qmeth [] false [(145, sM_in), (246, sM_cells)] 90 rfl ⟨okM_in.le (by decide), ⟨okM_cells.le (by decide), trivial⟩⟩ ?_
  rintro _ A K hA has ⟨w, rfl, ⟨i0, j0⟩, hK⟩
  have rg_w : rng w := has (ni w) (by simp)
  have f0 := frm_0 [] [] A
  have hT : _ = fM_count w A := (fM_count.eq_1 w A).symm
  refine ⟨Nat.le_of_ble_eq_true rfl, [], trivial, ?_⟩
  refine (And.intro (fun h1 => ?_) (And.intro (fun h1 => ?_) (And.intro (fun h1 => ?_) (And.intro (fun h1 => ?_) (And.intro (fun h1 => ?_) (And.intro (fun h1 => ?_) (And.intro (fun h1 => ?_) (And.intro (fun h1 => ?_) trivial))))))))
  · replace hT := (if_neg (show ¬ (w = 0) by (first | (clear hm hnf; omega) | omega))).symm.trans hT
    replace hT := (if_neg (show ¬ (w = 1) by (first | (clear hm hnf; omega) | omega))).symm.trans hT
    replace hT := (if_neg (show ¬ (w = 2) by (first | (clear hm hnf; omega) | omega))).symm.trans hT
    replace hT := (if_neg (show ¬ (w = 3) by (first | (clear hm hnf; omega) | omega))).symm.trans hT
    replace hT := (if_neg (show ¬ (w = 4) by (first | (clear hm hnf; omega) | omega))).symm.trans hT
    replace hT := (if_neg (show ¬ (w = 5) by (first | (clear hm hnf; omega) | omega))).symm.trans hT
    replace hT := (if_neg (show ¬ (w = 6) by (first | (clear hm hnf; omega) | omega))).symm.trans hT
    refine Exists.intro w (Exists.intro 10 (Exists.intro 17 (And.intro rfl (And.intro (fun h2 => ?_) (fun h2 => ?_)))))
    · replace hT := (if_pos h2).symm.trans hT
      refine And.intro (fun h3 => by exfalso; omega) (fun h3 => ?_)
      refine fun v4 e5 => ?_
      replace hT := qlc e5 hT
      refine And.intro (by (first | (clear hm hnf; omega) | omega)) (fun v6 gv6 e7 => ?_)
      replace hT := qlc e7 hT
      exact hK _ (by first | assumption | exact ⟨by (first | (clear hm hnf; omega) | omega), by (first | (clear hm hnf; omega) | omega)⟩ | exact wI_rng _ | exact i_rng _ | (subst_vars; exact i_rng _) | exact (hA _ _).2 rfl) hT
    · replace hT := (if_neg h2).symm.trans hT
      refine And.intro (fun h8 => ?_) (fun h8 => by exfalso; omega)
      refine Exists.intro w (Exists.intro 20 (Exists.intro 37 (And.intro rfl (And.intro (fun h9 => ?_) (fun h9 => ?_)))))
      · replace hT := (if_pos h9).symm.trans hT
        refine And.intro (fun h10 => ?_) (fun h10 => by exfalso; omega)
        refine fun v11 e12 => ?_
        replace hT := qlc e12 hT
        refine And.intro (by (first | (clear hm hnf; omega) | omega)) (And.intro (by (first | (clear hm hnf; omega) | omega)) (fun v13 e14 => ?_))
        replace hT := qlc e14 hT
        have h15 := qm_nn (a := v11) (b := 3) (by (first | (clear hm hnf; omega) | omega))
        refine And.intro (fun h16 => ?_) (fun h16 => ?_)
        · replace hT := (if_neg h16).symm.trans hT
          refine fun v17 e18 => ?_
          replace hT := qlc e18 hT
          refine And.intro (by (first | (clear hm hnf; omega) | omega)) (And.intro (by (first | (clear hm hnf; omega) | omega)) (fun v19 e20 => ?_))
          replace hT := qlc e20 hT
          have h21 := qm_nn (a := v17) (b := 3) (by (first | (clear hm hnf; omega) | omega))
          refine And.intro (fun h22 => ?_) (fun h22 => ?_)
          · replace hT := (if_neg h22).symm.trans hT
            refine fun v23 e24 => ?_
            replace hT := qlc e24 hT
            refine And.intro (by (first | (clear hm hnf; omega) | omega)) (And.intro (by (first | (clear hm hnf; omega) | omega)) (fun v25 e26 => ?_))
            replace hT := qlc e26 hT
            have h27 := qd_nn (a := v23) (b := 3) (by (first | (clear hm hnf; omega) | omega))
            refine And.intro (by (first | (clear hm hnf; omega) | omega)) (fun v28 gv28 e29 => ?_)
            replace hT := qlc e29 hT
            have b30 := iva_at i0 5 rfl (i := v25) (by (first | (clear hm hnf; omega) | omega)) (by (first | (clear hm hnf; omega) | omega))
            exact hK _ (by first | assumption | exact ⟨by (first | (clear hm hnf; omega) | omega), by (first | (clear hm hnf; omega) | omega)⟩ | exact wI_rng _ | exact i_rng _ | (subst_vars; exact i_rng _) | exact (hA _ _).2 rfl) hT
          · replace hT := (if_pos h22).symm.trans hT
            refine fun v31 e32 => ?_
            replace hT := qlc e32 hT
            refine And.intro (by (first | (clear hm hnf; omega) | omega)) (And.intro (by (first | (clear hm hnf; omega) | omega)) (fun v33 e34 => ?_))
            replace hT := qlc e34 hT
            have h35 := qd_nn (a := v31) (b := 3) (by (first | (clear hm hnf; omega) | omega))
            refine And.intro (by (first | (clear hm hnf; omega) | omega)) (fun v36 gv36 e37 => ?_)
            replace hT := qlc e37 hT
            have b38 := iva_at i0 4 rfl (i := v33) (by (first | (clear hm hnf; omega) | omega)) (by (first | (clear hm hnf; omega) | omega))
            exact hK _ (by first | assumption | exact ⟨by (first | (clear hm hnf; omega) | omega), by (first | (clear hm hnf; omega) | omega)⟩ | exact wI_rng _ | exact i_rng _ | (subst_vars; exact i_rng _) | exact (hA _ _).2 rfl) hT
        · replace hT := (if_pos h16).symm.trans hT
          refine fun v39 e40 => ?_
          replace hT := qlc e40 hT
          refine And.intro (by (first | (clear hm hnf; omega) | omega)) (And.intro (by (first | (clear hm hnf; omega) | omega)) (fun v41 e42 => ?_))
          replace hT := qlc e42 hT
          have h43 := qd_nn (a := v39) (b := 3) (by (first | (clear hm hnf; omega) | omega))
          refine And.intro (by (first | (clear hm hnf; omega) | omega)) (fun v44 gv44 e45 => ?_)
          replace hT := qlc e45 hT
          have b46 := iva_at i0 3 rfl (i := v41) (by (first | (clear hm hnf; omega) | omega)) (by (first | (clear hm hnf; omega) | omega))
          exact hK _ (by first | assumption | exact ⟨by (first | (clear hm hnf; omega) | omega), by (first | (clear hm hnf; omega) | omega)⟩ | exact wI_rng _ | exact i_rng _ | (subst_vars; exact i_rng _) | exact (hA _ _).2 rfl) hT
      · replace hT := (if_neg h9).symm.trans hT
        refine And.intro (fun h47 => by exfalso; omega) (fun h47 => ?_)
        exact hK _ (by first | assumption | exact ⟨by (first | (clear hm hnf; omega) | omega), by (first | (clear hm hnf; omega) | omega)⟩ | exact wI_rng _ | exact i_rng _ | (subst_vars; exact i_rng _) | exact (hA _ _).2 rfl) hT
  · replace hT := (if_pos (show w = 0 by (first | (clear hm hnf; omega) | omega))).symm.trans hT
    refine Exists.intro 0 (And.intro rfl (And.intro (And.intro i0 (And.intro j0 (And.intro (by (first | (clear hm hnf; omega) | omega)) (by (first | (clear hm hnf; omega) | omega))))) (fun r48 g50 g51 g49 => ?_)))
    replace hT := qlc g49 hT
    clear g49
    exact hK _ (by first | assumption | exact ⟨by (first | (clear hm hnf; omega) | omega), by (first | (clear hm hnf; omega) | omega)⟩ | exact wI_rng _ | exact i_rng _ | (subst_vars; exact i_rng _) | exact (hA _ _).2 rfl) hT
  · replace hT := (if_neg (show ¬ (w = 0) by (first | (clear hm hnf; omega) | omega))).symm.trans hT
    replace hT := (if_pos (show w = 1 by (first | (clear hm hnf; omega) | omega))).symm.trans hT
    refine fun v52 gv52 e53 => ?_
    replace hT := qlc e53 hT
    exact hK _ (by first | assumption | exact ⟨by (first | (clear hm hnf; omega) | omega), by (first | (clear hm hnf; omega) | omega)⟩ | exact wI_rng _ | exact i_rng _ | (subst_vars; exact i_rng _) | exact (hA _ _).2 rfl) hT
  · replace hT := (if_neg (show ¬ (w = 0) by (first | (clear hm hnf; omega) | omega))).symm.trans hT
    replace hT := (if_neg (show ¬ (w = 1) by (first | (clear hm hnf; omega) | omega))).symm.trans hT
    replace hT := (if_pos (show w = 2 by (first | (clear hm hnf; omega) | omega))).symm.trans hT
    refine fun v54 gv54 e55 => ?_
    replace hT := qlc e55 hT
    have b56 := ivf_at j0 0 rfl
    exact hK _ (by first | assumption | exact ⟨by (first | (clear hm hnf; omega) | omega), by (first | (clear hm hnf; omega) | omega)⟩ | exact wI_rng _ | exact i_rng _ | (subst_vars; exact i_rng _) | exact (hA _ _).2 rfl) hT
  · replace hT := (if_neg (show ¬ (w = 0) by (first | (clear hm hnf; omega) | omega))).symm.trans hT
    replace hT := (if_neg (show ¬ (w = 1) by (first | (clear hm hnf; omega) | omega))).symm.trans hT
    replace hT := (if_neg (show ¬ (w = 2) by (first | (clear hm hnf; omega) | omega))).symm.trans hT
    replace hT := (if_pos (show w = 3 by (first | (clear hm hnf; omega) | omega))).symm.trans hT
    refine fun v57 gv57 e58 => ?_
    replace hT := qlc e58 hT
    have b59 := ivf_at j0 3 rfl
    exact hK _ (by first | assumption | exact ⟨by (first | (clear hm hnf; omega) | omega), by (first | (clear hm hnf; omega) | omega)⟩ | exact wI_rng _ | exact i_rng _ | (subst_vars; exact i_rng _) | exact (hA _ _).2 rfl) hT
  · replace hT := (if_neg (show ¬ (w = 0) by (first | (clear hm hnf; omega) | omega))).symm.trans hT
    replace hT := (if_neg (show ¬ (w = 1) by (first | (clear hm hnf; omega) | omega))).symm.trans hT
    replace hT := (if_neg (show ¬ (w = 2) by (first | (clear hm hnf; omega) | omega))).symm.trans hT
    replace hT := (if_neg (show ¬ (w = 3) by (first | (clear hm hnf; omega) | omega))).symm.trans hT
    replace hT := (if_pos (show w = 4 by (first | (clear hm hnf; omega) | omega))).symm.trans hT
    refine fun v60 gv60 e61 => ?_
    replace hT := qlc e61 hT
    have b62 := ivf_at j0 1 rfl
    exact hK _ (by first | assumption | exact ⟨by (first | (clear hm hnf; omega) | omega), by (first | (clear hm hnf; omega) | omega)⟩ | exact wI_rng _ | exact i_rng _ | (subst_vars; exact i_rng _) | exact (hA _ _).2 rfl) hT
  · replace hT := (if_neg (show ¬ (w = 0) by (first | (clear hm hnf; omega) | omega))).symm.trans hT
    replace hT := (if_neg (show ¬ (w = 1) by (first | (clear hm hnf; omega) | omega))).symm.trans hT
    replace hT := (if_neg (show ¬ (w = 2) by (first | (clear hm hnf; omega) | omega))).symm.trans hT
    replace hT := (if_neg (show ¬ (w = 3) by (first | (clear hm hnf; omega) | omega))).symm.trans hT
    replace hT := (if_neg (show ¬ (w = 4) by (first | (clear hm hnf; omega) | omega))).symm.trans hT
    replace hT := (if_pos (show w = 5 by (first | (clear hm hnf; omega) | omega))).symm.trans hT
    refine fun v63 gv63 e64 => ?_
    replace hT := qlc e64 hT
    have b65 := ivf_at j0 5 rfl
    exact hK _ (by first | assumption | exact ⟨by (first | (clear hm hnf; omega) | omega), by (first | (clear hm hnf; omega) | omega)⟩ | exact wI_rng _ | exact i_rng _ | (subst_vars; exact i_rng _) | exact (hA _ _).2 rfl) hT
  · replace hT := (if_neg (show ¬ (w = 0) by (first | (clear hm hnf; omega) | omega))).symm.trans hT
    replace hT := (if_neg (show ¬ (w = 1) by (first | (clear hm hnf; omega) | omega))).symm.trans hT
    replace hT := (if_neg (show ¬ (w = 2) by (first | (clear hm hnf; omega) | omega))).symm.trans hT
    replace hT := (if_neg (show ¬ (w = 3) by (first | (clear hm hnf; omega) | omega))).symm.trans hT
    replace hT := (if_neg (show ¬ (w = 4) by (first | (clear hm hnf; omega) | omega))).symm.trans hT
    replace hT := (if_neg (show ¬ (w = 5) by (first | (clear hm hnf; omega) | omega))).symm.trans hT
    replace hT := (if_pos (show w = 6 by (first | (clear hm hnf; omega) | omega))).symm.trans hT
    refine Exists.intro 1 (And.intro rfl (And.intro (And.intro i0 (And.intro j0 (And.intro (by (first | (clear hm hnf; omega) | omega)) (by (first | (clear hm hnf; omega) | omega))))) (fun r66 g68 g69 g67 => ?_)))
    replace hT := qlc g67 hT
    clear g67
    exact hK _ (by first | assumption | exact ⟨by (first | (clear hm hnf; omega) | omega), by (first | (clear hm hnf; omega) | omega)⟩ | exact wI_rng _ | exact i_rng _ | (subst_vars; exact i_rng _) | exact (hA _ _).2 rfl) hT
theorem pM_count {w : Int} {A : qA} (hA : qokA LM A) (rg_w : rng w) (p0 : iva IM A) (p1 : ivf JM A) : rng (fM_count w A) := by
  obtain ⟨r, B, hB, _, hk⟩ := okM_ex okM_count (as := [rf 0, ni w]) (K := fun _ B => B = A ∧ rng (fM_count w A)) hA (qoks_c (show qok (rf _) from trivial) (qoks_c (rg_w) qoks_n)) ⟨w, rfl, ⟨p0, p1⟩, fun r9 g9 x0 => (by rw [← x0]; exact ⟨rfl, g9⟩)⟩
  exact hk.2
def fM_feed (a b c d e : Int) (A : qA) : Int × qA := qlet (A 0 (fd 26)) fun v1 => qlet (v1 + 20) fun v4 => (if 220 < v4 then ((-1), A) else qlet (fM_types a A) fun A7 => qlet (fM_types b A7) fun A15 => qlet (fM_types c A15) fun A23 => qlet (fM_types d A23) fun A31 => qlet (fM_types e A31) fun A39 => qlet (A39 0 (fd 26)) fun v47 => (v47, A39))
def sM_feed : qS := fun as A K => ∃ a b c d e : Int, as = [rf 0, ni a, ni b, ni c, ni d, ni e] ∧ (iva IM A ∧ ivf JM A) ∧ (∀ A' : qA, iva IM A' → ivf JM A' → frm [22] [(0, 26)] A A' → ∀ r : Int, (-1) ≤ r → r ≤ 220 → (r = (fM_feed a b c d e A).1) → (A' = (fM_feed a b c d e A).2) → K (some (ni r)) A')
theorem okM_feed : okM LM 2 161 sM_feed := by
  refine qmeth [] false [(160, sM_types)] 32 rfl ⟨okM_types.le (by decide), trivial⟩ ?_
  rintro _ A K hA has ⟨a, b, c, d, e, rfl, ⟨i0, j0⟩, hK⟩
  have rg_a : rng a := has (ni a) (by simp)
  have rg_b : rng b := has (ni b) (by simp)
  have rg_c : rng c := has (ni c) (by simp)
  have rg_d : rng d := has (ni d) (by simp)
  have rg_e : rng e := has (ni e) (by simp)
  have f0 := frm_0 [22] [(0, 26)] A
  have hb_0_26 := ivf_at j0 1 rfl
  have hT : _ = fM_feed a b c d e A := (fM_feed.eq_1 a b c d e A).symm
  refine ⟨Nat.le_of_ble_eq_true rfl, [], trivial, ?_⟩
  refine fun v1 gv1 e2 => ?_
  replace hT := qlc e2 hT
  have b3 := ivf_at j0 1 rfl
  refine fun v4 e5 => ?_
  replace hT := qlc e5 hT
  refine And.intro (by (first | (clear hm hnf; omega) | omega)) (And.intro (fun h6 => ?_) (fun h6 => ?_))
  · replace hT := (if_neg (Int.not_lt.mpr h6)).symm.trans hT
    refine Exists.intro a (And.intro rfl (And.intro (And.intro i0 (And.intro j0 (by first | assumption | omega | simp_all))) (fun A7 i8 j9 f10 g11 g12 => ?_)))
    replace hT := qlc g12 hT
    have f13 := frm_c f0 f10 rfl
    have t14 := ivf_at j9 1 rfl
    refine Exists.intro b (And.intro rfl (And.intro (And.intro i8 (And.intro j9 (by first | assumption | omega | simp_all))) (fun A15 i16 j17 f18 g19 g20 => ?_)))
    replace hT := qlc g20 hT
    have f21 := frm_c f13 f18 rfl
    have t22 := ivf_at j17 1 rfl
    refine Exists.intro c (And.intro rfl (And.intro (And.intro i16 (And.intro j17 (by first | assumption | omega | simp_all))) (fun A23 i24 j25 f26 g27 g28 => ?_)))
    replace hT := qlc g28 hT
    have f29 := frm_c f21 f26 rfl
    have t30 := ivf_at j25 1 rfl
    refine Exists.intro d (And.intro rfl (And.intro (And.intro i24 (And.intro j25 (by first | assumption | omega | simp_all))) (fun A31 i32 j33 f34 g35 g36 => ?_)))
    replace hT := qlc g36 hT
    have f37 := frm_c f29 f34 rfl
    have t38 := ivf_at j33 1 rfl
    refine Exists.intro e (And.intro rfl (And.intro (And.intro i32 (And.intro j33 (by first | assumption | omega | simp_all))) (fun A39 i40 j41 f42 g43 g44 => ?_)))
    replace hT := qlc g44 hT
    have f45 := frm_c f37 f42 rfl
    have t46 := ivf_at j41 1 rfl
    refine fun v47 gv47 e48 => ?_
    replace hT := qlc e48 hT
    have b49 := ivf_at j41 1 rfl
    exact hK _ i40 j41 f45 _ (by (first | (clear hm hnf; omega) | omega)) (by (first | (clear hm hnf; omega) | omega)) (congrArg Prod.fst hT) (congrArg Prod.snd hT)
  · replace hT := (if_pos h6).symm.trans hT
    exact hK _ i0 j0 f0 _ (by (first | (clear hm hnf; omega) | omega)) (by (first | (clear hm hnf; omega) | omega)) (congrArg Prod.fst hT) (congrArg Prod.snd hT)
theorem pM_feed {a b c d e : Int} {A : qA} (hA : qokA LM A) (rg_a : rng a) (rg_b : rng b) (rg_c : rng c) (rg_d : rng d) (rg_e : rng e) (p0 : iva IM A) (p1 : ivf JM A) : qokA LM (fM_feed a b c d e A).2 ∧ iva IM (fM_feed a b c d e A).2 ∧ ivf JM (fM_feed a b c d e A).2 ∧ frm [22] [(0, 26)] A (fM_feed a b c d e A).2 ∧ ((-1) ≤ (fM_feed a b c d e A).1 ∧ (fM_feed a b c d e A).1 ≤ 220) := by
  obtain ⟨r, B, hB, _, hk⟩ := okM_ex okM_feed (as := [rf 0, ni a, ni b, ni c, ni d, ni e]) (K := fun _ B => B = (fM_feed a b c d e A).2 ∧ iva IM (fM_feed a b c d e A).2 ∧ ivf JM (fM_feed a b c d e A).2 ∧ frm [22] [(0, 26)] A (fM_feed a b c d e A).2 ∧ ((-1) ≤ (fM_feed a b c d e A).1 ∧ (fM_feed a b c d e A).1 ≤ 220)) hA (qoks_c (show qok (rf _) from trivial) (qoks_c (rg_a) (qoks_c (rg_b) (qoks_c (rg_c) (qoks_c (rg_d) (qoks_c (rg_e) qoks_n)))))) ⟨a, b, c, d, e, rfl, ⟨p0, p1⟩, fun A9 i9 j9 f9 r9 g8 g9 x0 x1 => (by rw [← x1]; (try rw [← x0]); exact ⟨rfl, i9, j9, f9, ⟨g8, g9⟩⟩)⟩
  exact ⟨hk.1 ▸ hB, hk.2⟩
