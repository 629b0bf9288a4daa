def ab (A : qA) (r : Nat) (n hi : Int) : Prop := ∀ i, 0 ≤ i → i < n → 0 ≤ A r i ∧ A r i ≤ hi
def pw1 (A A' : qA) (d : Int) : Prop := ∀ i, 0 ≤ i → i < 8 → A 45 i ≤ A' 45 i ∧ A' 45 i ≤ A 45 i + d
def pw (l : Int) : Int := 99 * 8 ^ l.toNat
theorem pw_0 : pw 0 = 99 := by decide
theorem pw_s {l : Int} (h : 0 ≤ l) : pw (l + 1) = 8 * pw l := by
  obtain ⟨n, rfl⟩ := Int.eq_ofNat_of_zero_le h
  have e : ((n : Int) + 1).toNat = n + 1 := by (first | (clear hm hnf; omega) | omega)
  have e2 : ((n : Nat) : Int).toNat = n := by (first | (clear hm hnf; omega) | omega)
  unfold pw
  rw [e, e2, Int.pow_succ]
  omega
theorem pw_bd {l : Int} (h : 0 ≤ l) (h1 : l ≤ 6) : 99 ≤ pw l ∧ pw l ≤ 25952256 := by
  have h2 : l = 0 ∨ l = 1 ∨ l = 2 ∨ l = 3 ∨ l = 4 ∨ l = 5 ∨ l = 6 := by (first | (clear hm hnf; omega) | omega)
  rcases h2 with rfl | rfl | rfl | rfl | rfl | rfl | rfl <;> decide
theorem ab_cp {A A' : qA} {r0 r : Nat} {hi : Int} (e : A' = qcpy A r0 0 r 0 8) (h : ∀ i, 0 ≤ i → i < 8 → 0 ≤ A r0 i ∧ A r0 i ≤ hi) : ab A' r 8 hi := by
  subst e
  intro i h0 h1
  unfold qcpy
  rw [if_pos ⟨rfl, h0, by (first | (clear hm hnf; omega) | omega)⟩]
  have := h (0 + (i - 0)) (by (first | (clear hm hnf; omega) | omega)) (by (first | (clear hm hnf; omega) | omega))
  exact this
theorem pw_1 {A A' : qA} {x d v : Int} (e : A' = qu A 45 x v) (h0 : 0 ≤ d) (hv : A 45 x ≤ v ∧ v ≤ A 45 x + d) : pw1 A A' d := by
  subst e
  intro i _ _
  rw [qu_is]
  split
  · next q => rw [q.2]; exact hv
  · exact ⟨Int.le_refl _, by (first | (clear hm hnf; omega) | omega)⟩
theorem pw_2 {A A1 A2 : qA} {x y d d1 d2 v w : Int} (e1 : A1 = qu A 45 x v) (e2 : A2 = qu A1 45 y w) (h1 : 0 ≤ d1) (h2 : 0 ≤ d2) (hd : d1 + d2 = d) (hv : A 45 x ≤ v ∧ v ≤ A 45 x + d1) (hw : A1 45 y ≤ w ∧ w ≤ A1 45 y + d2) : pw1 A A2 d := by
  intro i a b
  have q1 := pw_1 e1 h1 hv i a b
  have q2 := pw_1 e2 h2 hw i a b
  omega
def fC_fill45z_c5 (rec : Nat → List Int → qA → qA) (l1 i n : Int) (B : qA) : qA := (if i < n then qlet (qu B 45 i l1) fun A2 => qlet (i + 1) fun v7 => rec 5 [l1, v7, n] A2 else B)
def fC_fill45z_L : Nat → Nat → List Int → qA → qA
  | 0 => fun _ _ B => B
  | nF + 1 => fun k zs B => bif Nat.beq k 5 then (match zs with | [l1, i, n] => fC_fill45z_c5 (fC_fill45z_L nF) l1 i n B | _ => B) else B
theorem fC_fill45z_L5 (nF : Nat) (l1 i n : Int) (B : qA) : fC_fill45z_L (nF + 1) 5 [l1, i, n] B = fC_fill45z_c5 (fC_fill45z_L nF) l1 i n B := (congrFun (congrFun (congrFun (fC_fill45z_L.eq_2 nF) 5) [l1, i, n]) B).trans (qL1 rfl rfl)
def fC_fill45z (v : Int) (A : qA) : qA := (fC_fill45z_L 100000) 5 [v, 0, (((8 : Nat) : Int))] A
def sC_fill45z : qS := fun as A K => ∃ v : Int, as = [rf 45, ni v] ∧ (iva IC A ∧ ivf JC A) ∧ (∀ A' : qA, iva IC A' → ivf JC A' → frm [45] [] A A' → (∀ i, 0 ≤ i → i < 8 → A' 45 i = v) → (A' = fC_fill45z v A) → K none A')
theorem okC_fill45z : okM LC 1 250 sC_fill45z := by
  refine qmeth [] false [] 21 rfl trivial ?_
  rintro _ A K hA has ⟨v, rfl, ⟨i0, j0⟩, hK⟩
  have rg_v : rng v := has (ni v) (by simp)
  have f0 := frm_0 [45] [] A
  have hT : _ = fC_fill45z v A := (fC_fill45z.eq_1 v A).symm
  refine ⟨Nat.le_of_ble_eq_true rfl, [(5, [(0, 2, 45), (1, 0, 0), (2, 0, 0), (3, 0, 0)], fun zs B nn => match zs with | [l1, i, n] => iva IC B ∧ ivf JC B ∧ frm [45] [] A B ∧ nn = (8 - i : Int).toNat ∧ (l1 = v) ∧ (0 ≤ i) ∧ (i ≤ 8) ∧ (n = 8) ∧ (∀ j, 0 ≤ j → j < i → B 45 j = v) ∧ (∃ nf : Nat, nn < nf ∧ fC_fill45z_L nf 5 [l1, i, n] B = fC_fill45z v A) | _ => False)], ?_, ?_⟩
  · refine ⟨⟨rfl, ?_⟩, trivial⟩
    · refine fun l1 i n B mm hB hz hI => ?_
      obtain ⟨i1, j1, f1, hm, c0, c1, c2, c3, c4, ⟨nf, hnf, hT⟩⟩ := hI
      obtain ⟨hz_l1, hz_i, hz_n, _⟩ := hz
      obtain ⟨ng, rfl⟩ : ∃ k, nf = k + 1 := ⟨nf - 1, by omega⟩
      replace hT := (fC_fill45z_c5.eq_1 (fC_fill45z_L ng) l1 i n B).symm.trans ((fC_fill45z_L5 ng l1 i n B).symm.trans hT)
      refine And.intro (fun h1 => ?_) (fun h1 => ?_)
      · replace hT := (if_neg (Int.not_lt.mpr h1)).symm.trans hT
        exact hK _ i1 j1 f1 (by intro j h0 h1; exact c4 j h0 (by (first | (clear hm hnf; omega) | omega))) hT
      · replace hT := (if_pos h1).symm.trans hT
        refine And.intro (by (first | (clear hm hnf; omega) | omega)) (fun A2 e3 => ?_)
        replace hT := qlc e3 hT
        have i4 := iva_st i1 e3 trivial
        have j5 := ivf_sa j1 e3 rfl
        have f6 := frm_s f1 e3 rfl
        refine fun v7 e8 => ?_
        replace hT := qlc e8 hT
        exact And.intro (by (first | (clear hm hnf; omega) | omega)) (Exists.intro (8 - v7 : Int).toNat (And.intro (by first | exact qtn hm (by (try clear hm hnf); omega) | omega) (And.intro i4 (And.intro j5 (And.intro f6 (And.intro rfl (And.intro (by (first | (clear hm hnf; omega) | omega)) (And.intro (by (first | (clear hm hnf; omega) | omega)) (And.intro (by (first | (clear hm hnf; omega) | omega)) (And.intro (by (first | (clear hm hnf; omega) | omega)) (And.intro (by first | (intro j h0 h1; exfalso; omega) | (intro j h0 h1; rw [e3, qu_is]; split; omega; exact c4 j h0 (by (first | (clear hm hnf; omega) | omega)))) (Exists.intro ng (And.intro (by first | exact qtm hm hnf (by (try clear hm hnf); omega) | omega) hT)))))))))))))
  · exact Exists.intro (8 - 0 : Int).toNat (And.intro i0 (And.intro j0 (And.intro f0 (And.intro rfl (And.intro (by (first | (clear hm hnf; omega) | omega)) (And.intro (by (first | (clear hm hnf; omega) | omega)) (And.intro (by (first | (clear hm hnf; omega) | omega)) (And.intro (by (first | (clear hm hnf; omega) | omega)) (And.intro (by first | (intro j h0 h1; exfalso; omega) | (intro j h0 h1; rw [hE, qu_is]; split; omega; exact c4 j h0 (by (first | (clear hm hnf; omega) | omega)))) (Exists.intro 100000 (And.intro (by (first | (clear hm hnf; omega) | omega)) hT)))))))))))
theorem pC_fill45z {v : Int} {A : qA} (hA : qokA LC A) (rg_v : rng v) (p0 : iva IC A) (p1 : ivf JC A) : qokA LC (fC_fill45z v A) ∧ iva IC (fC_fill45z v A) ∧ ivf JC (fC_fill45z v A) ∧ frm [45] [] A (fC_fill45z v A) ∧ (∀ i, 0 ≤ i → i < 8 → (fC_fill45z v A) 45 i = v) := by
  obtain ⟨r, B, hB, _, hk⟩ := okM_ex okC_fill45z (as := [rf 45, ni v]) (K := fun _ B => B = (fC_fill45z v A) ∧ iva IC (fC_fill45z v A) ∧ ivf JC (fC_fill45z v A) ∧ frm [45] [] A (fC_fill45z v A) ∧ (∀ i, 0 ≤ i → i < 8 → (fC_fill45z v A) 45 i = v)) hA (qoks_c (show qok (rf _) from trivial) (qoks_c (rg_v) qoks_n)) ⟨v, rfl, ⟨p0, p1⟩, fun A9 i9 j9 f9 x0 x1 => (by rw [← x1]; exact ⟨rfl, i9, j9, f9, x0⟩)⟩
  exact ⟨hk.1 ▸ hB, hk.2⟩
def fC_passOn (d c w : Int) (A : qA) : qA := (if 0 < c then qlet (c - 1) fun v64 => (if c < 7 then qlet (c + 1) fun v121 => (if w = 1 then qlet (A 45 v64) fun v133 => qlet (v133 + d) fun v135 => qlet (qu A 45 v64 v135) fun A137 => A137 else (if w = 2 then qlet (A 45 v121) fun v142 => qlet (v142 + d) fun v144 => qlet (qu A 45 v121 v144) fun A146 => A146 else (if w = 3 then qlet (A 45 v64) fun v151 => qlet (qd d 2) fun v153 => qlet (d - v153) fun v156 => qlet (v151 + v156) fun v158 => qlet (qu A 45 v64 v158) fun A160 => qlet (A160 45 v121) fun v165 => qlet (qd d 2) fun v167 => qlet (v165 + v167) fun v170 => qlet (qu A160 45 v121 v170) fun A172 => A172 else qlet (A 45 c) fun v124 => qlet (v124 + d) fun v126 => qlet (qu A 45 c v126) fun A128 => A128))) else (if w = 1 then qlet (A 45 v64) fun v77 => qlet (v77 + d) fun v79 => qlet (qu A 45 v64 v79) fun A81 => A81 else (if w = 2 then qlet (A 45 c) fun v86 => qlet (v86 + d) fun v88 => qlet (qu A 45 c v88) fun A90 => A90 else (if w = 3 then qlet (A 45 v64) fun v95 => qlet (qd d 2) fun v97 => qlet (d - v97) fun v100 => qlet (v95 + v100) fun v102 => qlet (qu A 45 v64 v102) fun A104 => qlet (A104 45 c) fun v109 => qlet (qd d 2) fun v111 => qlet (v109 + v111) fun v114 => qlet (qu A104 45 c v114) fun A116 => A116 else qlet (A 45 c) fun v68 => qlet (v68 + d) fun v70 => qlet (qu A 45 c v70) fun A72 => A72)))) else qlet (c + 1) fun v8 => (if w = 1 then qlet (A 45 c) fun v20 => qlet (v20 + d) fun v22 => qlet (qu A 45 c v22) fun A24 => A24 else (if w = 2 then qlet (A 45 v8) fun v29 => qlet (v29 + d) fun v31 => qlet (qu A 45 v8 v31) fun A33 => A33 else (if w = 3 then qlet (A 45 c) fun v38 => qlet (qd d 2) fun v40 => qlet (d - v40) fun v43 => qlet (v38 + v43) fun v45 => qlet (qu A 45 c v45) fun A47 => qlet (A47 45 v8) fun v52 => qlet (qd d 2) fun v54 => qlet (v52 + v54) fun v57 => qlet (qu A47 45 v8 v57) fun A59 => A59 else qlet (A 45 c) fun v11 => qlet (v11 + d) fun v13 => qlet (qu A 45 c v13) fun A15 => A15))))
def sC_passOn : qS := fun as A K => ∃ d c w : Int, as = [rf 44, ni d, ni c, ni w] ∧ (iva IC A ∧ ivf JC A ∧ 0 ≤ d ∧ d ≤ 500000000 ∧ 0 ≤ c ∧ c ≤ 7 ∧ (ab A 45 8 500000000)) ∧ (∀ A' : qA, iva IC A' → ivf JC A' → frm [45] [] A A' → (pw1 A A' d) → (A' = fC_passOn d c w A) → K none A')
theorem okC_passOn : okM LC 1 88 sC_passOn := by
  refine qmeth [] false [] 75 rfl trivial ?_
  rintro _ A K hA has ⟨d, c, w, rfl, ⟨i0, j0, p1, p2, p3, p4, p5⟩, hK⟩
  have rg_d : rng d := has (ni d) (by simp)
  have rg_c : rng c := has (ni c) (by simp)
  have rg_w : rng w := has (ni w) (by simp)
  have f0 := frm_0 [45] [] A
  have hT : _ = fC_passOn d c w A := (fC_passOn.eq_1 d c w A).symm
  refine ⟨Nat.le_of_ble_eq_true rfl, [], trivial, ?_⟩
  refine And.intro (fun h6 => ?_) (fun h6 => ?_)
  · replace hT := (if_neg (Int.not_lt.mpr h6)).symm.trans hT
    refine And.intro (fun h7 => by exfalso; omega) (fun h7 => ?_)
    refine fun v8 e9 => ?_
    replace hT := qlc e9 hT
    refine (And.intro (fun h10 => ?_) (And.intro (fun h10 => ?_) (And.intro (fun h10 => ?_) (And.intro (fun h10 => ?_) trivial))))
    · replace hT := (if_neg (show ¬ (w = 1) by (first | (clear hm hnf; omega) | omega))).symm.trans hT
      replace hT := (if_neg (show ¬ (w = 2) by (first | (clear hm hnf; omega) | omega))).symm.trans hT
      replace hT := (if_neg (show ¬ (w = 3) by (first | (clear hm hnf; omega) | omega))).symm.trans hT
      have hb := (by assumption : ab A 45 8 500000000) c (by (first | (clear hm hnf; omega) | omega)) (by (first | (clear hm hnf; omega) | omega))
      refine And.intro (by (first | (clear hm hnf; omega) | omega)) (fun v11 gv11 e12 => ?_)
      replace hT := qlc e12 hT
      refine fun v13 e14 => ?_
      replace hT := qlc e14 hT
      refine And.intro (by (first | (clear hm hnf; omega) | omega)) (And.intro (by (first | (clear hm hnf; omega) | omega)) (fun A15 e16 => ?_))
      replace hT := qlc e16 hT
      have i17 := iva_st i0 e16 trivial
      have j18 := ivf_sa j0 e16 rfl
      have f19 := frm_s f0 e16 rfl
      first
      | exact hK _ i17 j18 f19 (pw_1 e16 (by (first | (clear hm hnf; omega) | omega)) (by (first | (clear hm hnf; omega) | omega))) hT
      | exact hK _ i17 j18 f19 (pw_2 (d1 := d - d / 2) (d2 := d / 2) hE e16 (by (first | (clear hm hnf; omega) | omega)) (by (first | (clear hm hnf; omega) | omega)) (by (first | (clear hm hnf; omega) | omega)) (by (first | (clear hm hnf; omega) | omega)) (by (first | (clear hm hnf; omega) | omega))) hT
    · replace hT := (if_pos (show w = 1 by (first | (clear hm hnf; omega) | omega))).symm.trans hT
      have hb := (by assumption : ab A 45 8 500000000) c (by (first | (clear hm hnf; omega) | omega)) (by (first | (clear hm hnf; omega) | omega))
      refine And.intro (by (first | (clear hm hnf; omega) | omega)) (fun v20 gv20 e21 => ?_)
      replace hT := qlc e21 hT
      refine fun v22 e23 => ?_
      replace hT := qlc e23 hT
      refine And.intro (by (first | (clear hm hnf; omega) | omega)) (And.intro (by (first | (clear hm hnf; omega) | omega)) (fun A24 e25 => ?_))
      replace hT := qlc e25 hT
      have i26 := iva_st i0 e25 trivial
      have j27 := ivf_sa j0 e25 rfl
      have f28 := frm_s f0 e25 rfl
      first
      | exact hK _ i26 j27 f28 (pw_1 e25 (by (first | (clear hm hnf; omega) | omega)) (by (first | (clear hm hnf; omega) | omega))) hT
      | exact hK _ i26 j27 f28 (pw_2 (d1 := d - d / 2) (d2 := d / 2) hE e25 (by (first | (clear hm hnf; omega) | omega)) (by (first | (clear hm hnf; omega) | omega)) (by (first | (clear hm hnf; omega) | omega)) (by (first | (clear hm hnf; omega) | omega)) (by (first | (clear hm hnf; omega) | omega))) hT
    · replace hT := (if_neg (show ¬ (w = 1) by (first | (clear hm hnf; omega) | omega))).symm.trans hT
      replace hT := (if_pos (show w = 2 by (first | (clear hm hnf; omega) | omega))).symm.trans hT
      have hb := (by assumption : ab A 45 8 500000000) v8 (by (first | (clear hm hnf; omega) | omega)) (by (first | (clear hm hnf; omega) | omega))
      refine And.intro (by (first | (clear hm hnf; omega) | omega)) (fun v29 gv29 e30 => ?_)
      replace hT := qlc e30 hT
      refine fun v31 e32 => ?_
      replace hT := qlc e32 hT
      refine And.intro (by (first | (clear hm hnf; omega) | omega)) (And.intro (by (first | (clear hm hnf; omega) | omega)) (fun A33 e34 => ?_))
      replace hT := qlc e34 hT
      have i35 := iva_st i0 e34 trivial
      have j36 := ivf_sa j0 e34 rfl
      have f37 := frm_s f0 e34 rfl
      first
      | exact hK _ i35 j36 f37 (pw_1 e34 (by (first | (clear hm hnf; omega) | omega)) (by (first | (clear hm hnf; omega) | omega))) hT
      | exact hK _ i35 j36 f37 (pw_2 (d1 := d - d / 2) (d2 := d / 2) hE e34 (by (first | (clear hm hnf; omega) | omega)) (by (first | (clear hm hnf; omega) | omega)) (by (first | (clear hm hnf; omega) | omega)) (by (first | (clear hm hnf; omega) | omega)) (by (first | (clear hm hnf; omega) | omega))) hT
    · replace hT := (if_neg (show ¬ (w = 1) by (first | (clear hm hnf; omega) | omega))).symm.trans hT
      replace hT := (if_neg (show ¬ (w = 2) by (first | (clear hm hnf; omega) | omega))).symm.trans hT
      replace hT := (if_pos (show w = 3 by (first | (clear hm hnf; omega) | omega))).symm.trans hT
      have hb := (by assumption : ab A 45 8 500000000) c (by (first | (clear hm hnf; omega) | omega)) (by (first | (clear hm hnf; omega) | omega))
      refine And.intro (by (first | (clear hm hnf; omega) | omega)) (fun v38 gv38 e39 => ?_)
      replace hT := qlc e39 hT
      refine And.intro (by (first | (clear hm hnf; omega) | omega)) (fun v40 e41 => ?_)
      replace hT := qlc e41 hT
      have h42 := qd_nn (a := d) (b := 2) (by (first | (clear hm hnf; omega) | omega))
      refine fun v43 e44 => ?_
      replace hT := qlc e44 hT
      refine fun v45 e46 => ?_
      replace hT := qlc e46 hT
      refine And.intro (by (first | (clear hm hnf; omega) | omega)) (And.intro (by (first | (clear hm hnf; omega) | omega)) (fun A47 e48 => ?_))
      replace hT := qlc e48 hT
      have i49 := iva_st i0 e48 trivial
      have j50 := ivf_sa j0 e48 rfl
      have f51 := frm_s f0 e48 rfl
      have hb2 : 0 ≤ A47 45 v8 ∧ A47 45 v8 ≤ 1000000000 := by rw [e48, qu_is]; have hb3 := (by assumption : ab A 45 8 500000000) v8 (by (first | (clear hm hnf; omega) | omega)) (by (first | (clear hm hnf; omega) | omega)); split <;> omega
      refine And.intro (by (first | (clear hm hnf; omega) | omega)) (fun v52 gv52 e53 => ?_)
      replace hT := qlc e53 hT
      refine And.intro (by (first | (clear hm hnf; omega) | omega)) (fun v54 e55 => ?_)
      replace hT := qlc e55 hT
      have h56 := qd_nn (a := d) (b := 2) (by (first | (clear hm hnf; omega) | omega))
      refine fun v57 e58 => ?_
      replace hT := qlc e58 hT
      refine And.intro (by (first | (clear hm hnf; omega) | omega)) (And.intro (by (first | (clear hm hnf; omega) | omega)) (fun A59 e60 => ?_))
      replace hT := qlc e60 hT
      have i61 := iva_st i49 e60 trivial
      have j62 := ivf_sa j50 e60 rfl
      have f63 := frm_s f51 e60 rfl
      first
      | exact hK _ i61 j62 f63 (pw_1 e60 (by (first | (clear hm hnf; omega) | omega)) (by (first | (clear hm hnf; omega) | omega))) hT
      | exact hK _ i61 j62 f63 (pw_2 (d1 := d - d / 2) (d2 := d / 2) e48 e60 (by (first | (clear hm hnf; omega) | omega)) (by (first | (clear hm hnf; omega) | omega)) (by (first | (clear hm hnf; omega) | omega)) (by (first | (clear hm hnf; omega) | omega)) (by (first | (clear hm hnf; omega) | omega))) hT
  · replace hT := (if_pos h6).symm.trans hT
    refine fun v64 e65 => ?_
    replace hT := qlc e65 hT
    refine And.intro (fun h66 => ?_) (fun h66 => ?_)
    · replace hT := (if_neg (Int.not_lt.mpr h66)).symm.trans hT
      refine (And.intro (fun h67 => ?_) (And.intro (fun h67 => ?_) (And.intro (fun h67 => ?_) (And.intro (fun h67 => ?_) trivial))))
      · replace hT := (if_neg (show ¬ (w = 1) by (first | (clear hm hnf; omega) | omega))).symm.trans hT
        replace hT := (if_neg (show ¬ (w = 2) by (first | (clear hm hnf; omega) | omega))).symm.trans hT
        replace hT := (if_neg (show ¬ (w = 3) by (first | (clear hm hnf; omega) | omega))).symm.trans hT
        have hb := (by assumption : ab A 45 8 500000000) c (by (first | (clear hm hnf; omega) | omega)) (by (first | (clear hm hnf; omega) | omega))
        refine And.intro (by (first | (clear hm hnf; omega) | omega)) (fun v68 gv68 e69 => ?_)
        replace hT := qlc e69 hT
        refine fun v70 e71 => ?_
        replace hT := qlc e71 hT
        refine And.intro (by (first | (clear hm hnf; omega) | omega)) (And.intro (by (first | (clear hm hnf; omega) | omega)) (fun A72 e73 => ?_))
        replace hT := qlc e73 hT
        have i74 := iva_st i0 e73 trivial
        have j75 := ivf_sa j0 e73 rfl
        have f76 := frm_s f0 e73 rfl
        first
        | exact hK _ i74 j75 f76 (pw_1 e73 (by (first | (clear hm hnf; omega) | omega)) (by (first | (clear hm hnf; omega) | omega))) hT
        | exact hK _ i74 j75 f76 (pw_2 (d1 := d - d / 2) (d2 := d / 2) hE e73 (by (first | (clear hm hnf; omega) | omega)) (by (first | (clear hm hnf; omega) | omega)) (by (first | (clear hm hnf; omega) | omega)) (by (first | (clear hm hnf; omega) | omega)) (by (first | (clear hm hnf; omega) | omega))) hT
      · replace hT := (if_pos (show w = 1 by (first | (clear hm hnf; omega) | omega))).symm.trans hT
        have hb := (by assumption : ab A 45 8 500000000) v64 (by (first | (clear hm hnf; omega) | omega)) (by (first | (clear hm hnf; omega) | omega))
        refine And.intro (by (first | (clear hm hnf; omega) | omega)) (fun v77 gv77 e78 => ?_)
        replace hT := qlc e78 hT
        refine fun v79 e80 => ?_
        replace hT := qlc e80 hT
        refine And.intro (by (first | (clear hm hnf; omega) | omega)) (And.intro (by (first | (clear hm hnf; omega) | omega)) (fun A81 e82 => ?_))
        replace hT := qlc e82 hT
        have i83 := iva_st i0 e82 trivial
        have j84 := ivf_sa j0 e82 rfl
        have f85 := frm_s f0 e82 rfl
        first
        | exact hK _ i83 j84 f85 (pw_1 e82 (by (first | (clear hm hnf; omega) | omega)) (by (first | (clear hm hnf; omega) | omega))) hT
        | exact hK _ i83 j84 f85 (pw_2 (d1 := d - d / 2) (d2 := d / 2) hE e82 (by (first | (clear hm hnf; omega) | omega)) (by (first | (clear hm hnf; omega) | omega)) (by (first | (clear hm hnf; omega) | omega)) (by (first | (clear hm hnf; omega) | omega)) (by (first | (clear hm hnf; omega) | omega))) hT
      · replace hT := (if_neg (show ¬ (w = 1) by (first | (clear hm hnf; omega) | omega))).symm.trans hT
        replace hT := (if_pos (show w = 2 by (first | (clear hm hnf; omega) | omega))).symm.trans hT
        have hb := (by assumption : ab A 45 8 500000000) c (by (first | (clear hm hnf; omega) | omega)) (by (first | (clear hm hnf; omega) | omega))
        refine And.intro (by (first | (clear hm hnf; omega) | omega)) (fun v86 gv86 e87 => ?_)
        replace hT := qlc e87 hT
        refine fun v88 e89 => ?_
        replace hT := qlc e89 hT
        refine And.intro (by (first | (clear hm hnf; omega) | omega)) (And.intro (by (first | (clear hm hnf; omega) | omega)) (fun A90 e91 => ?_))
        replace hT := qlc e91 hT
        have i92 := iva_st i0 e91 trivial
        have j93 := ivf_sa j0 e91 rfl
        have f94 := frm_s f0 e91 rfl
        first
        | exact hK _ i92 j93 f94 (pw_1 e91 (by (first | (clear hm hnf; omega) | omega)) (by (first | (clear hm hnf; omega) | omega))) hT
        | exact hK _ i92 j93 f94 (pw_2 (d1 := d - d / 2) (d2 := d / 2) hE e91 (by (first | (clear hm hnf; omega) | omega)) (by (first | (clear hm hnf; omega) | omega)) (by (first | (clear hm hnf; omega) | omega)) (by (first | (clear hm hnf; omega) | omega)) (by (first | (clear hm hnf; omega) | omega))) hT
      · replace hT := (if_neg (show ¬ (w = 1) by (first | (clear hm hnf; omega) | omega))).symm.trans hT
        replace hT := (if_neg (show ¬ (w = 2) by (first | (clear hm hnf; omega) | omega))).symm.trans hT
        replace hT := (if_pos (show w = 3 by (first | (clear hm hnf; omega) | omega))).symm.trans hT
        have hb := (by assumption : ab A 45 8 500000000) v64 (by (first | (clear hm hnf; omega) | omega)) (by (first | (clear hm hnf; omega) | omega))
        refine And.intro (by (first | (clear hm hnf; omega) | omega)) (fun v95 gv95 e96 => ?_)
        replace hT := qlc e96 hT
        refine And.intro (by (first | (clear hm hnf; omega) | omega)) (fun v97 e98 => ?_)
        replace hT := qlc e98 hT
        have h99 := qd_nn (a := d) (b := 2) (by (first | (clear hm hnf; omega) | omega))
        refine fun v100 e101 => ?_
        replace hT := qlc e101 hT
        refine fun v102 e103 => ?_
        replace hT := qlc e103 hT
        refine And.intro (by (first | (clear hm hnf; omega) | omega)) (And.intro (by (first | (clear hm hnf; omega) | omega)) (fun A104 e105 => ?_))
        replace hT := qlc e105 hT
        have i106 := iva_st i0 e105 trivial
        have j107 := ivf_sa j0 e105 rfl
        have f108 := frm_s f0 e105 rfl
        have hb2 : 0 ≤ A104 45 c ∧ A104 45 c ≤ 1000000000 := by rw [e105, qu_is]; have hb3 := (by assumption : ab A 45 8 500000000) c (by (first | (clear hm hnf; omega) | omega)) (by (first | (clear hm hnf; omega) | omega)); split <;> omega
        refine And.intro (by (first | (clear hm hnf; omega) | omega)) (fun v109 gv109 e110 => ?_)
        replace hT := qlc e110 hT
        refine And.intro (by (first | (clear hm hnf; omega) | omega)) (fun v111 e112 => ?_)
        replace hT := qlc e112 hT
        have h113 := qd_nn (a := d) (b := 2) (by (first | (clear hm hnf; omega) | omega))
        refine fun v114 e115 => ?_
        replace hT := qlc e115 hT
        refine And.intro (by (first | (clear hm hnf; omega) | omega)) (And.intro (by (first | (clear hm hnf; omega) | omega)) (fun A116 e117 => ?_))
        replace hT := qlc e117 hT
        have i118 := iva_st i106 e117 trivial
        have j119 := ivf_sa j107 e117 rfl
        have f120 := frm_s f108 e117 rfl
        first
        | exact hK _ i118 j119 f120 (pw_1 e117 (by (first | (clear hm hnf; omega) | omega)) (by (first | (clear hm hnf; omega) | omega))) hT
        | exact hK _ i118 j119 f120 (pw_2 (d1 := d - d / 2) (d2 := d / 2) e105 e117 (by (first | (clear hm hnf; omega) | omega)) (by (first | (clear hm hnf; omega) | omega)) (by (first | (clear hm hnf; omega) | omega)) (by (first | (clear hm hnf; omega) | omega)) (by (first | (clear hm hnf; omega) | omega))) hT
    · replace hT := (if_pos h66).symm.trans hT
      refine fun v121 e122 => ?_
      replace hT := qlc e122 hT
      refine (And.intro (fun h123 => ?_) (And.intro (fun h123 => ?_) (And.intro (fun h123 => ?_) (And.intro (fun h123 => ?_) trivial))))
      · replace hT := (if_neg (show ¬ (w = 1) by (first | (clear hm hnf; omega) | omega))).symm.trans hT
        replace hT := (if_neg (show ¬ (w = 2) by (first | (clear hm hnf; omega) | omega))).symm.trans hT
        replace hT := (if_neg (show ¬ (w = 3) by (first | (clear hm hnf; omega) | omega))).symm.trans hT
        have hb := (by assumption : ab A 45 8 500000000) c (by (first | (clear hm hnf; omega) | omega)) (by (first | (clear hm hnf; omega) | omega))
        refine And.intro (by (first | (clear hm hnf; omega) | omega)) (fun v124 gv124 e125 => ?_)
        replace hT := qlc e125 hT
        refine fun v126 e127 => ?_
        replace hT := qlc e127 hT
        refine And.intro (by (first | (clear hm hnf; omega) | omega)) (And.intro (by (first | (clear hm hnf; omega) | omega)) (fun A128 e129 => ?_))
        replace hT := qlc e129 hT
        have i130 := iva_st i0 e129 trivial
        have j131 := ivf_sa j0 e129 rfl
        have f132 := frm_s f0 e129 rfl
        first
        | exact hK _ i130 j131 f132 (pw_1 e129 (by (first | (clear hm hnf; omega) | omega)) (by (first | (clear hm hnf; omega) | omega))) hT
        | exact hK _ i130 j131 f132 (pw_2 (d1 := d - d / 2) (d2 := d / 2) hE e129 (by (first | (clear hm hnf; omega) | omega)) (by (first | (clear hm hnf; omega) | omega)) (by (first | (clear hm hnf; omega) | omega)) (by (first | (clear hm hnf; omega) | omega)) (by (first | (clear hm hnf; omega) | omega))) hT
      · replace hT := (if_pos (show w = 1 by (first | (clear hm hnf; omega) | omega))).symm.trans hT
        have hb := (by assumption : ab A 45 8 500000000) v64 (by (first | (clear hm hnf; omega) | omega)) (by (first | (clear hm hnf; omega) | omega))
        refine And.intro (by (first | (clear hm hnf; omega) | omega)) (fun v133 gv133 e134 => ?_)
        replace hT := qlc e134 hT
        refine fun v135 e136 => ?_
        replace hT := qlc e136 hT
        refine And.intro (by (first | (clear hm hnf; omega) | omega)) (And.intro (by (first | (clear hm hnf; omega) | omega)) (fun A137 e138 => ?_))
        replace hT := qlc e138 hT
        have i139 := iva_st i0 e138 trivial
        have j140 := ivf_sa j0 e138 rfl
        have f141 := frm_s f0 e138 rfl
        first
        | exact hK _ i139 j140 f141 (pw_1 e138 (by (first | (clear hm hnf; omega) | omega)) (by (first | (clear hm hnf; omega) | omega))) hT
        | exact hK _ i139 j140 f141 (pw_2 (d1 := d - d / 2) (d2 := d / 2) hE e138 (by (first | (clear hm hnf; omega) | omega)) (by (first | (clear hm hnf; omega) | omega)) (by (first | (clear hm hnf; omega) | omega)) (by (first | (clear hm hnf; omega) | omega)) (by (first | (clear hm hnf; omega) | omega))) hT
      · replace hT := (if_neg (show ¬ (w = 1) by (first | (clear hm hnf; omega) | omega))).symm.trans hT
        replace hT := (if_pos (show w = 2 by (first | (clear hm hnf; omega) | omega))).symm.trans hT
        have hb := (by assumption : ab A 45 8 500000000) v121 (by (first | (clear hm hnf; omega) | omega)) (by (first | (clear hm hnf; omega) | omega))
        refine And.intro (by (first | (clear hm hnf; omega) | omega)) (fun v142 gv142 e143 => ?_)
        replace hT := qlc e143 hT
        refine fun v144 e145 => ?_
        replace hT := qlc e145 hT
        refine And.intro (by (first | (clear hm hnf; omega) | omega)) (And.intro (by (first | (clear hm hnf; omega) | omega)) (fun A146 e147 => ?_))
        replace hT := qlc e147 hT
        have i148 := iva_st i0 e147 trivial
        have j149 := ivf_sa j0 e147 rfl
        have f150 := frm_s f0 e147 rfl
        first
        | exact hK _ i148 j149 f150 (pw_1 e147 (by (first | (clear hm hnf; omega) | omega)) (by (first | (clear hm hnf; omega) | omega))) hT
        | exact hK _ i148 j149 f150 (pw_2 (d1 := d - d / 2) (d2 := d / 2) hE e147 (by (first | (clear hm hnf; omega) | omega)) (by (first | (clear hm hnf; omega) | omega)) (by (first | (clear hm hnf; omega) | omega)) (by (first | (clear hm hnf; omega) | omega)) (by (first | (clear hm hnf; omega) | omega))) hT
      · replace hT := (if_neg (show ¬ (w = 1) by (first | (clear hm hnf; omega) | omega))).symm.trans hT
        replace hT := (if_neg (show ¬ (w = 2) by (first | (clear hm hnf; omega) | omega))).symm.trans hT
        replace hT := (if_pos (show w = 3 by (first | (clear hm hnf; omega) | omega))).symm.trans hT
        have hb := (by assumption : ab A 45 8 500000000) v64 (by (first | (clear hm hnf; omega) | omega)) (by (first | (clear hm hnf; omega) | omega))
        refine And.intro (by (first | (clear hm hnf; omega) | omega)) (fun v151 gv151 e152 => ?_)
        replace hT := qlc e152 hT
        refine And.intro (by (first | (clear hm hnf; omega) | omega)) (fun v153 e154 => ?_)
        replace hT := qlc e154 hT
        have h155 := qd_nn (a := d) (b := 2) (by (first | (clear hm hnf; omega) | omega))
        refine fun v156 e157 => ?_
        replace hT := qlc e157 hT
        refine fun v158 e159 => ?_
        replace hT := qlc e159 hT
        refine And.intro (by (first | (clear hm hnf; omega) | omega)) (And.intro (by (first | (clear hm hnf; omega) | omega)) (fun A160 e161 => ?_))
        replace hT := qlc e161 hT
        have i162 := iva_st i0 e161 trivial
        have j163 := ivf_sa j0 e161 rfl
        have f164 := frm_s f0 e161 rfl
        have hb2 : 0 ≤ A160 45 v121 ∧ A160 45 v121 ≤ 1000000000 := by rw [e161, qu_is]; have hb3 := (by assumption : ab A 45 8 500000000) v121 (by (first | (clear hm hnf; omega) | omega)) (by (first | (clear hm hnf; omega) | omega)); split <;> omega
        refine And.intro (by (first | (clear hm hnf; omega) | omega)) (fun v165 gv165 e166 => ?_)
        replace hT := qlc e166 hT
        refine And.intro (by (first | (clear hm hnf; omega) | omega)) (fun v167 e168 => ?_)
        replace hT := qlc e168 hT
        have h169 := qd_nn (a := d) (b := 2) (by (first | (clear hm hnf; omega) | omega))
        refine fun v170 e171 => ?_
        replace hT := qlc e171 hT
        refine And.intro (by (first | (clear hm hnf; omega) | omega)) (And.intro (by (first | (clear hm hnf; omega) | omega)) (fun A172 e173 => ?_))
        replace hT := qlc e173 hT
        have i174 := iva_st i162 e173 trivial
        have j175 := ivf_sa j163 e173 rfl
        have f176 := frm_s f164 e173 rfl
        first
        | exact hK _ i174 j175 f176 (pw_1 e173 (by (first | (clear hm hnf; omega) | omega)) (by (first | (clear hm hnf; omega) | omega))) hT
        | exact hK _ i174 j175 f176 (pw_2 (d1 := d - d / 2) (d2 := d / 2) e161 e173 (by (first | (clear hm hnf; omega) | omega)) (by (first | (clear hm hnf; omega) | omega)) (by (first | (clear hm hnf; omega) | omega)) (by (first | (clear hm hnf; omega) | omega)) (by (first | (clear hm hnf; omega) | omega))) hT
theorem pC_passOn {d c w : Int} {A : qA} (hA : qokA LC A) (rg_w : rng w) (p0 : iva IC A) (p1 : ivf JC A) (p2 : 0 ≤ d) (p3 : d ≤ 500000000) (p4 : 0 ≤ c) (p5 : c ≤ 7) (p6 : ab A 45 8 500000000) : qokA LC (fC_passOn d c w A) ∧ iva IC (fC_passOn d c w A) ∧ ivf JC (fC_passOn d c w A) ∧ frm [45] [] A (fC_passOn d c w A) ∧ (pw1 A (fC_passOn d c w A) d) := by
  obtain ⟨r, B, hB, _, hk⟩ := okM_ex okC_passOn (as := [rf 44, ni d, ni c, ni w]) (K := fun _ B => B = (fC_passOn d c w A) ∧ iva IC (fC_passOn d c w A) ∧ ivf JC (fC_passOn d c w A) ∧ frm [45] [] A (fC_passOn d c w A) ∧ (pw1 A (fC_passOn d c w A) d)) hA (qoks_c (show qok (rf _) from trivial) (qoks_c (show rng d from ⟨by (first | (clear hm hnf; omega) | omega), by (first | (clear hm hnf; omega) | omega)⟩) (qoks_c (show rng c from ⟨by (first | (clear hm hnf; omega) | omega), by (first | (clear hm hnf; omega) | omega)⟩) (qoks_c (rg_w) qoks_n)))) ⟨d, c, w, rfl, ⟨p0, p1, p2, p3, p4, p5, p6⟩, fun A9 i9 j9 f9 x0 x1 => (by rw [← x1]; exact ⟨rfl, i9, j9, f9, x0⟩)⟩
  exact ⟨hk.1 ▸ hB, hk.2⟩
def fC_pourA_c9 (rec : Nat → List Int → qA → qA) (l : Int) (B : qA) : qA := (if l < 6 then qlet (qcpy B 45 0 46 0 8) fun A7 => qlet (fC_fill45z 0 A7) fun A12 => rec 26 [l, 0] A12 else B)
def fC_pourA_c26 (rec : Nat → List Int → qA → qA) (l c : Int) (B : qA) : qA := (if c < 8 then qlet (c * 6) fun v22 => qlet (v22 + l) fun v24 => qlet (B 46 c) fun v26 => (if v26 = 0 then qlet (qu B 9 v24 0) fun A77 => qlet (A77 9 v24) fun v82 => qlet (c + 1) fun v87 => rec 26 [l, v87] A77 else qlet (fC_needOf v24 B) fun r29 => qlet (min v26 r29) fun v33 => qlet (qu B 9 v24 v33) fun A35 => qlet (A35 9 v24) fun v40 => (if v33 < v26 then qlet (A35 9 v24) fun v47 => qlet (v26 - v33) fun v51 => (if 0 ≤ v24 ∧ v24 ≤ 47 ∧ HG A35 v24 then qlet (A35 5 v24) fun v55 => qlet (fC_passOn v51 c v55 A35) fun A58 => qlet (c + 1) fun v65 => rec 26 [l, v65] A58 else qlet (fC_passOn v51 c 0 A35) fun A68 => qlet (c + 1) fun v75 => rec 26 [l, v75] A68) else qlet (c + 1) fun v45 => rec 26 [l, v45] A35)) else qlet (l + 1) fun v20 => rec 9 [v20] B)
def fC_pourA_L : Nat → Nat → List Int → qA → qA
  | 0 => fun _ _ B => B
  | nF + 1 => fun k zs B => bif Nat.beq k 9 then (match zs with | [l] => fC_pourA_c9 (fC_pourA_L nF) l B | _ => B) else bif Nat.beq k 26 then (match zs with | [l, c] => fC_pourA_c26 (fC_pourA_L nF) l c B | _ => B) else B
theorem fC_pourA_L9 (nF : Nat) (l : Int) (B : qA) : fC_pourA_L (nF + 1) 9 [l] B = fC_pourA_c9 (fC_pourA_L nF) l B := (congrFun (congrFun (congrFun (fC_pourA_L.eq_2 nF) 9) [l]) B).trans (qL1 rfl rfl)
theorem fC_pourA_L26 (nF : Nat) (l c : Int) (B : qA) : fC_pourA_L (nF + 1) 26 [l, c] B = fC_pourA_c26 (fC_pourA_L nF) l c B := (congrFun (congrFun (congrFun (fC_pourA_L.eq_2 nF) 26) [l, c]) B).trans (qL0 rfl (qL1 rfl rfl))
def fC_pourA (A : qA) : qA := qlet (qcpy A 16 0 45 0 8) fun A1 => (fC_pourA_L 100000) 9 [0] A1
def sC_pourA : qS := fun as A K => as = [rf 44, rf 16, rf 9] ∧ (iva IC A ∧ ivf JC A) ∧ (∀ A' : qA, iva IC A' → ivf JC A' → frm [45, 46, 9] [] A A' → (A' = fC_pourA A) → K none A')
theorem okC_pourA : okM LC 4 87 sC_pourA := by
  refine qmeth [] false [(250, sC_fill45z), (24, sC_needOf), (21, sC_hangs), (88, sC_passOn)] 89 rfl ⟨okC_fill45z.le (by decide), ⟨okC_needOf.le (by decide), ⟨okC_hangs.le (by decide), ⟨okC_passOn.le (by decide), trivial⟩⟩⟩⟩ ?_
  rintro _ A K hA has ⟨rfl, ⟨i0, j0⟩, hK⟩
  have f0 := frm_0 [45, 46, 9] [] A
  have hT : _ = fC_pourA A := (fC_pourA.eq_1 A).symm
  refine ⟨Nat.le_of_ble_eq_true rfl, [(9, [(0, 2, 44), (2, 2, 9), (3, 0, 0)], fun zs B nn => match zs with | [l] => iva IC B ∧ ivf JC B ∧ frm [45, 46, 9] [] A B ∧ nn = ((6 - l) * 100 + 50 : Int).toNat ∧ (0 ≤ l) ∧ (l ≤ 6) ∧ (ab B 45 8 (pw l)) ∧ (∃ nf : Nat, nn < nf ∧ fC_pourA_L nf 9 [l] B = fC_pourA A) | _ => False), (26, [(0, 2, 44), (2, 2, 9), (3, 0, 0), (4, 0, 0)], fun zs B nn => match zs with | [l, c] => iva IC B ∧ ivf JC B ∧ frm [45, 46, 9] [] A B ∧ nn = ((6 - l) * 100 + 10 - c : Int).toNat ∧ (0 ≤ l) ∧ (l ≤ 5) ∧ (0 ≤ c) ∧ (c ≤ 8) ∧ (ab B 46 8 (pw l)) ∧ (ab B 45 8 (c * pw l)) ∧ (∃ nf : Nat, nn < nf ∧ fC_pourA_L nf 26 [l, c] B = fC_pourA A) | _ => False)], ?_, ?_⟩
  · refine ⟨⟨rfl, ?_⟩, ⟨rfl, ?_⟩, trivial⟩
    · refine fun l B mm hB hz hI => ?_
      obtain ⟨i1, j1, f1, hm, c0, c1, c2, ⟨nf, hnf, hT⟩⟩ := hI
      obtain ⟨hz_l, _⟩ := hz
      obtain ⟨ng, rfl⟩ : ∃ k, nf = k + 1 := ⟨nf - 1, by omega⟩
      replace hT := (fC_pourA_c9.eq_1 (fC_pourA_L ng) l B).symm.trans ((fC_pourA_L9 ng l B).symm.trans hT)
      refine And.intro (fun h6 => ?_) (fun h6 => ?_)
      · replace hT := (if_neg (Int.not_lt.mpr h6)).symm.trans hT
        exact hK _ i1 j1 f1 hT
      · replace hT := (if_pos h6).symm.trans hT
        refine And.intro (by (first | (clear hm hnf; omega) | omega)) (fun A7 e8 => ?_)
        replace hT := qlc e8 hT
        have i9 := iva_cp i1 e8 (fun i h0 h1 => trivial)
        have j10 := ivf_cp j1 e8 rfl
        have f11 := frm_cp f1 e8 rfl
        refine Exists.intro 0 (And.intro rfl (And.intro (And.intro i9 j10) (fun A12 i13 j14 f15 g16 g17 => ?_)))
        replace hT := qlc g17 hT
        have f18 := frm_c f11 f15 rfl
        have hab46 : ab A12 46 8 (pw l) := by have q := ab_cp (r := 46) e8 c2; intro i h0 h1; rw [frm_a f15 (r := 46) rfl]; exact q i h0 h1
        have hab45 : ab A12 45 8 (0 * pw l) := by intro i h0 h1; have q := g16 i h0 h1; omega
        exact Exists.intro ((6 - l) * 100 + 10 - 0 : Int).toNat (And.intro (by first | exact qtn hm (by (try clear hm hnf); omega) | omega) (And.intro i13 (And.intro j14 (And.intro f18 (And.intro rfl (And.intro (by (first | (clear hm hnf; omega) | omega)) (And.intro (by (first | (clear hm hnf; omega) | omega)) (And.intro (by (first | (clear hm hnf; omega) | omega)) (And.intro (by (first | (clear hm hnf; omega) | omega)) (And.intro (by first | exact hab46 | exact hb46) (And.intro (by first | exact hab45 | (rw [show 0 = c + 1 by (first | (clear hm hnf; omega) | omega)]; exact hb45n)) (Exists.intro ng (And.intro (by first | exact qtm hm hnf (by (try clear hm hnf); omega) | omega) hT)))))))))))))
    · refine fun l c B mm hB hz hI => ?_
      obtain ⟨i1, j1, f1, hm, c0, c1, c2, c3, c4, c5, ⟨nf, hnf, hT⟩⟩ := hI
      obtain ⟨hz_l, hz_c, _⟩ := hz
      obtain ⟨ng, rfl⟩ : ∃ k, nf = k + 1 := ⟨nf - 1, by omega⟩
      replace hT := (fC_pourA_c26.eq_1 (fC_pourA_L ng) l c B).symm.trans ((fC_pourA_L26 ng l c B).symm.trans hT)
      refine And.intro (fun h19 => ?_) (fun h19 => ?_)
      · replace hT := (if_neg (Int.not_lt.mpr h19)).symm.trans hT
        have hab9 : ab B 45 8 (pw (l + 1)) := by have hp := pw_s (l := l) (by (first | (clear hm hnf; omega) | omega)); have h8 : c = 8 := (by (first | (clear hm hnf; omega) | omega)); intro i h0 h1; have q := c5 i h0 h1; rw [h8] at q; omega
        refine fun v20 e21 => ?_
        replace hT := qlc e21 hT
        exact And.intro (by (first | (clear hm hnf; omega) | omega)) (Exists.intro ((6 - v20) * 100 + 50 : Int).toNat (And.intro (by first | exact qtn hm (by (try clear hm hnf); omega) | omega) (And.intro i1 (And.intro j1 (And.intro f1 (And.intro rfl (And.intro (by (first | (clear hm hnf; omega) | omega)) (And.intro (by (first | (clear hm hnf; omega) | omega)) (And.intro (by first | exact hab0 | (rw [show v20 = l + 1 by (first | (clear hm hnf; omega) | omega)]; exact hab9)) (Exists.intro ng (And.intro (by first | exact qtm hm hnf (by (try clear hm hnf); omega) | omega) hT)))))))))))
      · replace hT := (if_pos h19).symm.trans hT
        refine fun v22 e23 => ?_
        replace hT := qlc e23 hT
        refine fun v24 e25 => ?_
        replace hT := qlc e25 hT
        refine And.intro (by (first | (clear hm hnf; omega) | omega)) (fun v26 gv26 e27 => ?_)
        replace hT := qlc e27 hT
        have hc := c4 c (by (first | (clear hm hnf; omega) | omega)) (by (first | (clear hm hnf; omega) | omega))
        have hp := pw_bd (l := l) (by (first | (clear hm hnf; omega) | omega)) (by (first | (clear hm hnf; omega) | omega))
        have hm9 : c * pw l ≤ 8 * pw l := Int.mul_le_mul_of_nonneg_right (by (first | (clear hm hnf; omega) | omega)) (by (first | (clear hm hnf; omega) | omega))
        refine And.intro (fun h28 => ?_) (fun h28 => ?_)
        · replace hT := (if_neg h28).symm.trans hT
          refine And.intro (by (first | (clear hm hnf; omega) | omega)) (Exists.intro v24 (And.intro rfl (And.intro (And.intro i1 j1) (fun r29 g31 g32 g30 => ?_))))
          replace hT := qlc g30 hT
          clear g30
          refine (fun v33 e34 => ?_)
          replace hT := qlc e34 hT
          refine And.intro (by (first | (clear hm hnf; omega) | omega)) (fun A35 e36 => ?_)
          replace hT := qlc e36 hT
          have i37 := iva_st i1 e36 (And.intro (by (first | (clear hm hnf; omega) | omega)) trivial)
          have j38 := ivf_sa j1 e36 rfl
          have f39 := frm_s f1 e36 rfl
          refine And.intro (by (first | (clear hm hnf; omega) | omega)) (fun v40 gv40 e41 => ?_)
          replace hT := qlc e41 hT
          have b42 := iva_at i37 4 rfl (i := v24) (by (first | (clear hm hnf; omega) | omega)) (by (first | (clear hm hnf; omega) | omega))
          have q43 : v33 = v40 := (e41.trans (st_v e36)).symm
          subst q43
          refine And.intro (fun h44 => ?_) (fun h44 => ?_)
          · replace hT := (if_neg (Int.not_lt.mpr h44)).symm.trans hT
            have hb46 : ab A35 46 8 (pw l) := by intro i h0 h1; rw [show A35 46 = B 46 from (st_a e36 rfl)]; exact c4 i h0 h1
            have hb45n : ab A35 45 8 ((c + 1) * pw l) := by
              have hd : (c + 1) * pw l = c * pw l + pw l := by rw [Int.add_mul, Int.one_mul]
              intro i h0 h1
              have q := c5 i h0 h1
              first
              | (rw [show A35 45 = B 45 from (st_a e36 rfl)]; omega)
              | (have q2 := hE i h0 h1; have q3 := hq45 i; omega)
            refine fun v45 e46 => ?_
            replace hT := qlc e46 hT
            exact And.intro (by (first | (clear hm hnf; omega) | omega)) (Exists.intro ((6 - l) * 100 + 10 - v45 : Int).toNat (And.intro (by first | exact qtn hm (by (try clear hm hnf); omega) | omega) (And.intro i37 (And.intro j38 (And.intro f39 (And.intro rfl (And.intro (by (first | (clear hm hnf; omega) | omega)) (And.intro (by (first | (clear hm hnf; omega) | omega)) (And.intro (by (first | (clear hm hnf; omega) | omega)) (And.intro (by (first | (clear hm hnf; omega) | omega)) (And.intro (by first | exact hab46 | exact hb46) (And.intro (by first | exact hab45 | (rw [show v45 = c + 1 by (first | (clear hm hnf; omega) | omega)]; exact hb45n)) (Exists.intro ng (And.intro (by first | exact qtm hm hnf (by (try clear hm hnf); omega) | omega) hT))))))))))))))
          · replace hT := (if_pos h44).symm.trans hT
            have hq45 : ∀ i, A35 45 i = B 45 i := fun i => congrFun (st_a e36 rfl) i
            have hab1 : ab A35 45 8 500000000 := by intro i h0 h1; have q := c5 i h0 h1; have q2 := hq45 i; omega
            refine And.intro (by (first | (clear hm hnf; omega) | omega)) (fun v47 gv47 e48 => ?_)
            replace hT := qlc e48 hT
            have b49 := iva_at i37 4 rfl (i := v24) (by (first | (clear hm hnf; omega) | omega)) (by (first | (clear hm hnf; omega) | omega))
            have q50 : v33 = v47 := (e48.trans e41.symm).symm
            subst q50
            refine fun v51 e52 => ?_
            replace hT := qlc e52 hT
            refine And.intro (by (first | (clear hm hnf; omega) | omega)) (Exists.intro v24 (And.intro rfl (And.intro (fun h53 => ?_) (fun h53 => ?_))))
            · replace hT := (if_pos h53).symm.trans hT
              refine And.intro (fun h54 => by exfalso; omega) (fun h54 => ?_)
              refine And.intro (by (first | (clear hm hnf; omega) | omega)) (fun v55 gv55 e56 => ?_)
              replace hT := qlc e56 hT
              have b57 := iva_at i37 1 rfl (i := v24) (by (first | (clear hm hnf; omega) | omega)) (by (first | (clear hm hnf; omega) | omega))
              refine And.intro (by (first | (clear hm hnf; omega) | omega)) (Exists.intro v51 (Exists.intro c (Exists.intro v55 (And.intro rfl (And.intro (And.intro i37 (And.intro j38 (And.intro (by (first | (clear hm hnf; omega) | omega)) (And.intro (by (first | (clear hm hnf; omega) | omega)) (And.intro (by (first | (clear hm hnf; omega) | omega)) (And.intro (by (first | (clear hm hnf; omega) | omega)) (by first | assumption | omega | simp_all))))))) (fun A58 i59 j60 f61 g62 g63 => ?_))))))
              replace hT := qlc g63 hT
              have f64 := frm_c f39 f61 rfl
              have hb46 : ab A58 46 8 (pw l) := by intro i h0 h1; rw [show A58 46 = B 46 from (Eq.trans (frm_a f61 rfl) (st_a e36 rfl))]; exact c4 i h0 h1
              have hb45n : ab A58 45 8 ((c + 1) * pw l) := by
                have hd : (c + 1) * pw l = c * pw l + pw l := by rw [Int.add_mul, Int.one_mul]
                intro i h0 h1
                have q := c5 i h0 h1
                first
                | (rw [show A58 45 = B 45 from rfl]; omega)
                | (have q2 := g62 i h0 h1; have q3 := hq45 i; omega)
              refine fun v65 e66 => ?_
              replace hT := qlc e66 hT
              exact And.intro (by (first | (clear hm hnf; omega) | omega)) (Exists.intro ((6 - l) * 100 + 10 - v65 : Int).toNat (And.intro (by first | exact qtn hm (by (try clear hm hnf); omega) | omega) (And.intro i59 (And.intro j60 (And.intro f64 (And.intro rfl (And.intro (by (first | (clear hm hnf; omega) | omega)) (And.intro (by (first | (clear hm hnf; omega) | omega)) (And.intro (by (first | (clear hm hnf; omega) | omega)) (And.intro (by (first | (clear hm hnf; omega) | omega)) (And.intro (by first | exact hab46 | exact hb46) (And.intro (by first | exact hab45 | (rw [show v65 = c + 1 by (first | (clear hm hnf; omega) | omega)]; exact hb45n)) (Exists.intro ng (And.intro (by first | exact qtm hm hnf (by (try clear hm hnf); omega) | omega) hT))))))))))))))
            · replace hT := (if_neg h53).symm.trans hT
              refine And.intro (fun h67 => ?_) (fun h67 => by exfalso; omega)
              refine And.intro (by (first | (clear hm hnf; omega) | omega)) (Exists.intro v51 (Exists.intro c (Exists.intro 0 (And.intro rfl (And.intro (And.intro i37 (And.intro j38 (And.intro (by (first | (clear hm hnf; omega) | omega)) (And.intro (by (first | (clear hm hnf; omega) | omega)) (And.intro (by (first | (clear hm hnf; omega) | omega)) (And.intro (by (first | (clear hm hnf; omega) | omega)) (by first | assumption | omega | simp_all))))))) (fun A68 i69 j70 f71 g72 g73 => ?_))))))
              replace hT := qlc g73 hT
              have f74 := frm_c f39 f71 rfl
              have hb46 : ab A68 46 8 (pw l) := by intro i h0 h1; rw [show A68 46 = B 46 from (Eq.trans (frm_a f71 rfl) (st_a e36 rfl))]; exact c4 i h0 h1
              have hb45n : ab A68 45 8 ((c + 1) * pw l) := by
                have hd : (c + 1) * pw l = c * pw l + pw l := by rw [Int.add_mul, Int.one_mul]
                intro i h0 h1
                have q := c5 i h0 h1
                first
                | (rw [show A68 45 = B 45 from rfl]; omega)
                | (have q2 := g72 i h0 h1; have q3 := hq45 i; omega)
              refine fun v75 e76 => ?_
              replace hT := qlc e76 hT
              exact And.intro (by (first | (clear hm hnf; omega) | omega)) (Exists.intro ((6 - l) * 100 + 10 - v75 : Int).toNat (And.intro (by first | exact qtn hm (by (try clear hm hnf); omega) | omega) (And.intro i69 (And.intro j70 (And.intro f74 (And.intro rfl (And.intro (by (first | (clear hm hnf; omega) | omega)) (And.intro (by (first | (clear hm hnf; omega) | omega)) (And.intro (by (first | (clear hm hnf; omega) | omega)) (And.intro (by (first | (clear hm hnf; omega) | omega)) (And.intro (by first | exact hab46 | exact hb46) (And.intro (by first | exact hab45 | (rw [show v75 = c + 1 by (first | (clear hm hnf; omega) | omega)]; exact hb45n)) (Exists.intro ng (And.intro (by first | exact qtm hm hnf (by (try clear hm hnf); omega) | omega) hT))))))))))))))
        · replace hT := (if_pos h28).symm.trans hT
          refine And.intro (by (first | (clear hm hnf; omega) | omega)) (fun A77 e78 => ?_)
          replace hT := qlc e78 hT
          have i79 := iva_st i1 e78 (And.intro (by (first | (clear hm hnf; omega) | omega)) trivial)
          have j80 := ivf_sa j1 e78 rfl
          have f81 := frm_s f1 e78 rfl
          refine And.intro (by (first | (clear hm hnf; omega) | omega)) (fun v82 gv82 e83 => ?_)
          replace hT := qlc e83 hT
          have b84 := iva_at i79 4 rfl (i := v24) (by (first | (clear hm hnf; omega) | omega)) (by (first | (clear hm hnf; omega) | omega))
          have q85 : 0 = v82 := (e83.trans (st_v e78)).symm
          subst q85
          refine And.intro (fun h86 => ?_) (fun h86 => by exfalso; omega)
          have hb46 : ab A77 46 8 (pw l) := by intro i h0 h1; rw [show A77 46 = B 46 from (st_a e78 rfl)]; exact c4 i h0 h1
          have hb45n : ab A77 45 8 ((c + 1) * pw l) := by
            have hd : (c + 1) * pw l = c * pw l + pw l := by rw [Int.add_mul, Int.one_mul]
            intro i h0 h1
            have q := c5 i h0 h1
            first
            | (rw [show A77 45 = B 45 from (st_a e78 rfl)]; omega)
            | (have q2 := hE i h0 h1; have q3 := hq45 i; omega)
          refine fun v87 e88 => ?_
          replace hT := qlc e88 hT
          exact And.intro (by (first | (clear hm hnf; omega) | omega)) (Exists.intro ((6 - l) * 100 + 10 - v87 : Int).toNat (And.intro (by first | exact qtn hm (by (try clear hm hnf); omega) | omega) (And.intro i79 (And.intro j80 (And.intro f81 (And.intro rfl (And.intro (by (first | (clear hm hnf; omega) | omega)) (And.intro (by (first | (clear hm hnf; omega) | omega)) (And.intro (by (first | (clear hm hnf; omega) | omega)) (And.intro (by (first | (clear hm hnf; omega) | omega)) (And.intro (by first | exact hab46 | exact hb46) (And.intro (by first | exact hab45 | (rw [show v87 = c + 1 by (first | (clear hm hnf; omega) | omega)]; exact hb45n)) (Exists.intro ng (And.intro (by first | exact qtm hm hnf (by (try clear hm hnf); omega) | omega) hT))))))))))))))
  · refine And.intro (by (first | (clear hm hnf; omega) | omega)) (fun A1 e2 => ?_)
    replace hT := qlc e2 hT
    have i3 := iva_cp i0 e2 (fun i h0 h1 => trivial)
    have j4 := ivf_cp j0 e2 rfl
    have f5 := frm_cp f0 e2 rfl
    have hab0 : ab A1 45 8 (pw 0) := ab_cp e2 (fun i h0 h1 => by have h9 := iva_at i0 12 rfl (i := i) h0 h1; have hp := pw_0; omega)
    exact Exists.intro ((6 - 0) * 100 + 50 : Int).toNat (And.intro i3 (And.intro j4 (And.intro f5 (And.intro rfl (And.intro (by (first | (clear hm hnf; omega) | omega)) (And.intro (by (first | (clear hm hnf; omega) | omega)) (And.intro (by first | exact hab0 | (rw [show 0 = l + 1 by (first | (clear hm hnf; omega) | omega)]; exact hab9)) (Exists.intro 100000 (And.intro (by (first | (clear hm hnf; omega) | omega)) hT)))))))))
theorem pC_pourA {A : qA} (hA : qokA LC A) (p0 : iva IC A) (p1 : ivf JC A) : qokA LC (fC_pourA A) ∧ iva IC (fC_pourA A) ∧ ivf JC (fC_pourA A) ∧ frm [45, 46, 9] [] A (fC_pourA A) := by
  obtain ⟨r, B, hB, _, hk⟩ := okM_ex okC_pourA (as := [rf 44, rf 16, rf 9]) (K := fun _ B => B = (fC_pourA A) ∧ iva IC (fC_pourA A) ∧ ivf JC (fC_pourA A) ∧ frm [45, 46, 9] [] A (fC_pourA A)) hA (qoks_c (show qok (rf _) from trivial) (qoks_c (show qok (rf _) from trivial) (qoks_c (show qok (rf _) from trivial) qoks_n))) ⟨rfl, ⟨p0, p1⟩, fun A9 i9 j9 f9 x0 => (by rw [← x0]; exact ⟨rfl, i9, j9, f9⟩)⟩
  exact ⟨hk.1 ▸ hB, hk.2⟩
def fC_pourB_c9 (rec : Nat → List Int → qA → qA) (l : Int) (B : qA) : qA := (if l < 6 then qlet (qcpy B 45 0 46 0 8) fun A7 => qlet (fC_fill45z 0 A7) fun A12 => rec 26 [l, 0] A12 else B)
def fC_pourB_c26 (rec : Nat → List Int → qA → qA) (l c : Int) (B : qA) : qA := (if c < 8 then qlet (c * 6) fun v22 => qlet (v22 + l) fun v24 => qlet (B 46 c) fun v26 => (if v26 = 0 then qlet (qu B 50 v24 0) fun A77 => qlet (A77 50 v24) fun v82 => qlet (c + 1) fun v87 => rec 26 [l, v87] A77 else qlet (fC_needOf v24 B) fun r29 => qlet (min v26 r29) fun v33 => qlet (qu B 50 v24 v33) fun A35 => qlet (A35 50 v24) fun v40 => (if v33 < v26 then qlet (A35 50 v24) fun v47 => qlet (v26 - v33) fun v51 => (if 0 ≤ v24 ∧ v24 ≤ 47 ∧ HG A35 v24 then qlet (A35 5 v24) fun v55 => qlet (fC_passOn v51 c v55 A35) fun A58 => qlet (c + 1) fun v65 => rec 26 [l, v65] A58 else qlet (fC_passOn v51 c 0 A35) fun A68 => qlet (c + 1) fun v75 => rec 26 [l, v75] A68) else qlet (c + 1) fun v45 => rec 26 [l, v45] A35)) else qlet (l + 1) fun v20 => rec 9 [v20] B)
def fC_pourB_L : Nat → Nat → List Int → qA → qA
  | 0 => fun _ _ B => B
  | nF + 1 => fun k zs B => bif Nat.beq k 9 then (match zs with | [l] => fC_pourB_c9 (fC_pourB_L nF) l B | _ => B) else bif Nat.beq k 26 then (match zs with | [l, c] => fC_pourB_c26 (fC_pourB_L nF) l c B | _ => B) else B
theorem fC_pourB_L9 (nF : Nat) (l : Int) (B : qA) : fC_pourB_L (nF + 1) 9 [l] B = fC_pourB_c9 (fC_pourB_L nF) l B := (congrFun (congrFun (congrFun (fC_pourB_L.eq_2 nF) 9) [l]) B).trans (qL1 rfl rfl)
theorem fC_pourB_L26 (nF : Nat) (l c : Int) (B : qA) : fC_pourB_L (nF + 1) 26 [l, c] B = fC_pourB_c26 (fC_pourB_L nF) l c B := (congrFun (congrFun (congrFun (fC_pourB_L.eq_2 nF) 26) [l, c]) B).trans (qL0 rfl (qL1 rfl rfl))
def fC_pourB (A : qA) : qA := qlet (qcpy A 49 0 45 0 8) fun A1 => (fC_pourB_L 100000) 9 [0] A1
def sC_pourB : qS := fun as A K => as = [rf 44, rf 49, rf 50] ∧ (iva IC A ∧ ivf JC A) ∧ (∀ A' : qA, iva IC A' → ivf JC A' → frm [45, 46, 50] [] A A' → (A' = fC_pourB A) → K none A')
theorem okC_pourB : okM LC 4 87 sC_pourB := by
  refine qmeth [] false [(250, sC_fill45z), (24, sC_needOf), (21, sC_hangs), (88, sC_passOn)] 89 rfl ⟨okC_fill45z.le (by decide), ⟨okC_needOf.le (by decide), ⟨okC_hangs.le (by decide), ⟨okC_passOn.le (by decide), trivial⟩⟩⟩⟩ ?_
  rintro _ A K hA has ⟨rfl, ⟨i0, j0⟩, hK⟩
  have f0 := frm_0 [45, 46, 50] [] A
  have hT : _ = fC_pourB A := (fC_pourB.eq_1 A).symm
  refine ⟨Nat.le_of_ble_eq_true rfl, [(9, [(0, 2, 44), (2, 2, 50), (3, 0, 0)], fun zs B nn => match zs with | [l] => iva IC B ∧ ivf JC B ∧ frm [45, 46, 50] [] A B ∧ nn = ((6 - l) * 100 + 50 : Int).toNat ∧ (0 ≤ l) ∧ (l ≤ 6) ∧ (ab B 45 8 (pw l)) ∧ (∃ nf : Nat, nn < nf ∧ fC_pourB_L nf 9 [l] B = fC_pourB A) | _ => False), (26, [(0, 2, 44), (2, 2, 50), (3, 0, 0), (4, 0, 0)], fun zs B nn => match zs with | [l, c] => iva IC B ∧ ivf JC B ∧ frm [45, 46, 50] [] A B ∧ nn = ((6 - l) * 100 + 10 - c : Int).toNat ∧ (0 ≤ l) ∧ (l ≤ 5) ∧ (0 ≤ c) ∧ (c ≤ 8) ∧ (ab B 46 8 (pw l)) ∧ (ab B 45 8 (c * pw l)) ∧ (∃ nf : Nat, nn < nf ∧ fC_pourB_L nf 26 [l, c] B = fC_pourB A) | _ => False)], ?_, ?_⟩
  · refine ⟨⟨rfl, ?_⟩, ⟨rfl, ?_⟩, trivial⟩
    · refine fun l B mm hB hz hI => ?_
      obtain ⟨i1, j1, f1, hm, c0, c1, c2, ⟨nf, hnf, hT⟩⟩ := hI
      obtain ⟨hz_l, _⟩ := hz
      obtain ⟨ng, rfl⟩ : ∃ k, nf = k + 1 := ⟨nf - 1, by omega⟩
      replace hT := (fC_pourB_c9.eq_1 (fC_pourB_L ng) l B).symm.trans ((fC_pourB_L9 ng l B).symm.trans hT)
      refine And.intro (fun h6 => ?_) (fun h6 => ?_)
      · replace hT := (if_neg (Int.not_lt.mpr h6)).symm.trans hT
        exact hK _ i1 j1 f1 hT
      · replace hT := (if_pos h6).symm.trans hT
        refine And.intro (by (first | (clear hm hnf; omega) | omega)) (fun A7 e8 => ?_)
        replace hT := qlc e8 hT
        have i9 := iva_cp i1 e8 (fun i h0 h1 => trivial)
        have j10 := ivf_cp j1 e8 rfl
        have f11 := frm_cp f1 e8 rfl
        refine Exists.intro 0 (And.intro rfl (And.intro (And.intro i9 j10) (fun A12 i13 j14 f15 g16 g17 => ?_)))
        replace hT := qlc g17 hT
        have f18 := frm_c f11 f15 rfl
        have hab46 : ab A12 46 8 (pw l) := by have q := ab_cp (r := 46) e8 c2; intro i h0 h1; rw [frm_a f15 (r := 46) rfl]; exact q i h0 h1
        have hab45 : ab A12 45 8 (0 * pw l) := by intro i h0 h1; have q := g16 i h0 h1; omega
        exact Exists.intro ((6 - l) * 100 + 10 - 0 : Int).toNat (And.intro (by first | exact qtn hm (by (try clear hm hnf); omega) | omega) (And.intro i13 (And.intro j14 (And.intro f18 (And.intro rfl (And.intro (by (first | (clear hm hnf; omega) | omega)) (And.intro (by (first | (clear hm hnf; omega) | omega)) (And.intro (by (first | (clear hm hnf; omega) | omega)) (And.intro (by (first | (clear hm hnf; omega) | omega)) (And.intro (by first | exact hab46 | exact hb46) (And.intro (by first | exact hab45 | (rw [show 0 = c + 1 by (first | (clear hm hnf; omega) | omega)]; exact hb45n)) (Exists.intro ng (And.intro (by first | exact qtm hm hnf (by (try clear hm hnf); omega) | omega) hT)))))))))))))
    · refine fun l c B mm hB hz hI => ?_
      obtain ⟨i1, j1, f1, hm, c0, c1, c2, c3, c4, c5, ⟨nf, hnf, hT⟩⟩ := hI
      obtain ⟨hz_l, hz_c, _⟩ := hz
      obtain ⟨ng, rfl⟩ : ∃ k, nf = k + 1 := ⟨nf - 1, by omega⟩
      replace hT := (fC_pourB_c26.eq_1 (fC_pourB_L ng) l c B).symm.trans ((fC_pourB_L26 ng l c B).symm.trans hT)
      refine And.intro (fun h19 => ?_) (fun h19 => ?_)
      · replace hT := (if_neg (Int.not_lt.mpr h19)).symm.trans hT
        have hab9 : ab B 45 8 (pw (l + 1)) := by have hp := pw_s (l := l) (by (first | (clear hm hnf; omega) | omega)); have h8 : c = 8 := (by (first | (clear hm hnf; omega) | omega)); intro i h0 h1; have q := c5 i h0 h1; rw [h8] at q; omega
        refine fun v20 e21 => ?_
        replace hT := qlc e21 hT
        exact And.intro (by (first | (clear hm hnf; omega) | omega)) (Exists.intro ((6 - v20) * 100 + 50 : Int).toNat (And.intro (by first | exact qtn hm (by (try clear hm hnf); omega) | omega) (And.intro i1 (And.intro j1 (And.intro f1 (And.intro rfl (And.intro (by (first | (clear hm hnf; omega) | omega)) (And.intro (by (first | (clear hm hnf; omega) | omega)) (And.intro (by first | exact hab0 | (rw [show v20 = l + 1 by (first | (clear hm hnf; omega) | omega)]; exact hab9)) (Exists.intro ng (And.intro (by first | exact qtm hm hnf (by (try clear hm hnf); omega) | omega) hT)))))))))))
      · replace hT := (if_pos h19).symm.trans hT
        refine fun v22 e23 => ?_
        replace hT := qlc e23 hT
        refine fun v24 e25 => ?_
        replace hT := qlc e25 hT
        refine And.intro (by (first | (clear hm hnf; omega) | omega)) (fun v26 gv26 e27 => ?_)
        replace hT := qlc e27 hT
        have hc := c4 c (by (first | (clear hm hnf; omega) | omega)) (by (first | (clear hm hnf; omega) | omega))
        have hp := pw_bd (l := l) (by (first | (clear hm hnf; omega) | omega)) (by (first | (clear hm hnf; omega) | omega))
        have hm9 : c * pw l ≤ 8 * pw l := Int.mul_le_mul_of_nonneg_right (by (first | (clear hm hnf; omega) | omega)) (by (first | (clear hm hnf; omega) | omega))
        refine And.intro (fun h28 => ?_) (fun h28 => ?_)
        · replace hT := (if_neg h28).symm.trans hT
          refine And.intro (by (first | (clear hm hnf; omega) | omega)) (Exists.intro v24 (And.intro rfl (And.intro (And.intro i1 j1) (fun r29 g31 g32 g30 => ?_))))
          replace hT := qlc g30 hT
          clear g30
          refine (fun v33 e34 => ?_)
          replace hT := qlc e34 hT
          refine And.intro (by (first | (clear hm hnf; omega) | omega)) (fun A35 e36 => ?_)
          replace hT := qlc e36 hT
          have i37 := iva_st i1 e36 (And.intro (by (first | (clear hm hnf; omega) | omega)) trivial)
          have j38 := ivf_sa j1 e36 rfl
          have f39 := frm_s f1 e36 rfl
          refine And.intro (by (first | (clear hm hnf; omega) | omega)) (fun v40 gv40 e41 => ?_)
          replace hT := qlc e41 hT
          have b42 := iva_at i37 25 rfl (i := v24) (by (first | (clear hm hnf; omega) | omega)) (by (first | (clear hm hnf; omega) | omega))
          have q43 : v33 = v40 := (e41.trans (st_v e36)).symm
          subst q43
          refine And.intro (fun h44 => ?_) (fun h44 => ?_)
          · replace hT := (if_neg (Int.not_lt.mpr h44)).symm.trans hT
            have hb46 : ab A35 46 8 (pw l) := by intro i h0 h1; rw [show A35 46 = B 46 from (st_a e36 rfl)]; exact c4 i h0 h1
            have hb45n : ab A35 45 8 ((c + 1) * pw l) := by
              have hd : (c + 1) * pw l = c * pw l + pw l := by rw [Int.add_mul, Int.one_mul]
              intro i h0 h1
              have q := c5 i h0 h1
              first
              | (rw [show A35 45 = B 45 from (st_a e36 rfl)]; omega)
              | (have q2 := hE i h0 h1; have q3 := hq45 i; omega)
            refine fun v45 e46 => ?_
            replace hT := qlc e46 hT
            exact And.intro (by (first | (clear hm hnf; omega) | omega)) (Exists.intro ((6 - l) * 100 + 10 - v45 : Int).toNat (And.intro (by first | exact qtn hm (by (try clear hm hnf); omega) | omega) (And.intro i37 (And.intro j38 (And.intro f39 (And.intro rfl (And.intro (by (first | (clear hm hnf; omega) | omega)) (And.intro (by (first | (clear hm hnf; omega) | omega)) (And.intro (by (first | (clear hm hnf; omega) | omega)) (And.intro (by (first | (clear hm hnf; omega) | omega)) (And.intro (by first | exact hab46 | exact hb46) (And.intro (by first | exact hab45 | (rw [show v45 = c + 1 by (first | (clear hm hnf; omega) | omega)]; exact hb45n)) (Exists.intro ng (And.intro (by first | exact qtm hm hnf (by (try clear hm hnf); omega) | omega) hT))))))))))))))
          · replace hT := (if_pos h44).symm.trans hT
            have hq45 : ∀ i, A35 45 i = B 45 i := fun i => congrFun (st_a e36 rfl) i
            have hab1 : ab A35 45 8 500000000 := by intro i h0 h1; have q := c5 i h0 h1; have q2 := hq45 i; omega
            refine And.intro (by (first | (clear hm hnf; omega) | omega)) (fun v47 gv47 e48 => ?_)
            replace hT := qlc e48 hT
            have b49 := iva_at i37 25 rfl (i := v24) (by (first | (clear hm hnf; omega) | omega)) (by (first | (clear hm hnf; omega) | omega))
            have q50 : v33 = v47 := (e48.trans e41.symm).symm
            subst q50
            refine fun v51 e52 => ?_
            replace hT := qlc e52 hT
            refine And.intro (by (first | (clear hm hnf; omega) | omega)) (Exists.intro v24 (And.intro rfl (And.intro (fun h53 => ?_) (fun h53 => ?_))))
            · replace hT := (if_pos h53).symm.trans hT
              refine And.intro (fun h54 => by exfalso; omega) (fun h54 => ?_)
              refine And.intro (by (first | (clear hm hnf; omega) | omega)) (fun v55 gv55 e56 => ?_)
              replace hT := qlc e56 hT
              have b57 := iva_at i37 1 rfl (i := v24) (by (first | (clear hm hnf; omega) | omega)) (by (first | (clear hm hnf; omega) | omega))
              refine And.intro (by (first | (clear hm hnf; omega) | omega)) (Exists.intro v51 (Exists.intro c (Exists.intro v55 (And.intro rfl (And.intro (And.intro i37 (And.intro j38 (And.intro (by (first | (clear hm hnf; omega) | omega)) (And.intro (by (first | (clear hm hnf; omega) | omega)) (And.intro (by (first | (clear hm hnf; omega) | omega)) (And.intro (by (first | (clear hm hnf; omega) | omega)) (by first | assumption | omega | simp_all))))))) (fun A58 i59 j60 f61 g62 g63 => ?_))))))
              replace hT := qlc g63 hT
              have f64 := frm_c f39 f61 rfl
              have hb46 : ab A58 46 8 (pw l) := by intro i h0 h1; rw [show A58 46 = B 46 from (Eq.trans (frm_a f61 rfl) (st_a e36 rfl))]; exact c4 i h0 h1
              have hb45n : ab A58 45 8 ((c + 1) * pw l) := by
                have hd : (c + 1) * pw l = c * pw l + pw l := by rw [Int.add_mul, Int.one_mul]
                intro i h0 h1
                have q := c5 i h0 h1
                first
                | (rw [show A58 45 = B 45 from rfl]; omega)
                | (have q2 := g62 i h0 h1; have q3 := hq45 i; omega)
              refine fun v65 e66 => ?_
              replace hT := qlc e66 hT
              exact And.intro (by (first | (clear hm hnf; omega) | omega)) (Exists.intro ((6 - l) * 100 + 10 - v65 : Int).toNat (And.intro (by first | exact qtn hm (by (try clear hm hnf); omega) | omega) (And.intro i59 (And.intro j60 (And.intro f64 (And.intro rfl (And.intro (by (first | (clear hm hnf; omega) | omega)) (And.intro (by (first | (clear hm hnf; omega) | omega)) (And.intro (by (first | (clear hm hnf; omega) | omega)) (And.intro (by (first | (clear hm hnf; omega) | omega)) (And.intro (by first | exact hab46 | exact hb46) (And.intro (by first | exact hab45 | (rw [show v65 = c + 1 by (first | (clear hm hnf; omega) | omega)]; exact hb45n)) (Exists.intro ng (And.intro (by first | exact qtm hm hnf (by (try clear hm hnf); omega) | omega) hT))))))))))))))
            · replace hT := (if_neg h53).symm.trans hT
              refine And.intro (fun h67 => ?_) (fun h67 => by exfalso; omega)
              refine And.intro (by (first | (clear hm hnf; omega) | omega)) (Exists.intro v51 (Exists.intro c (Exists.intro 0 (And.intro rfl (And.intro (And.intro i37 (And.intro j38 (And.intro (by (first | (clear hm hnf; omega) | omega)) (And.intro (by (first | (clear hm hnf; omega) | omega)) (And.intro (by (first | (clear hm hnf; omega) | omega)) (And.intro (by (first | (clear hm hnf; omega) | omega)) (by first | assumption | omega | simp_all))))))) (fun A68 i69 j70 f71 g72 g73 => ?_))))))
              replace hT := qlc g73 hT
              have f74 := frm_c f39 f71 rfl
              have hb46 : ab A68 46 8 (pw l) := by intro i h0 h1; rw [show A68 46 = B 46 from (Eq.trans (frm_a f71 rfl) (st_a e36 rfl))]; exact c4 i h0 h1
              have hb45n : ab A68 45 8 ((c + 1) * pw l) := by
                have hd : (c + 1) * pw l = c * pw l + pw l := by rw [Int.add_mul, Int.one_mul]
                intro i h0 h1
                have q := c5 i h0 h1
                first
                | (rw [show A68 45 = B 45 from rfl]; omega)
                | (have q2 := g72 i h0 h1; have q3 := hq45 i; omega)
              refine fun v75 e76 => ?_
              replace hT := qlc e76 hT
              exact And.intro (by (first | (clear hm hnf; omega) | omega)) (Exists.intro ((6 - l) * 100 + 10 - v75 : Int).toNat (And.intro (by first | exact qtn hm (by (try clear hm hnf); omega) | omega) (And.intro i69 (And.intro j70 (And.intro f74 (And.intro rfl (And.intro (by (first | (clear hm hnf; omega) | omega)) (And.intro (by (first | (clear hm hnf; omega) | omega)) (And.intro (by (first | (clear hm hnf; omega) | omega)) (And.intro (by (first | (clear hm hnf; omega) | omega)) (And.intro (by first | exact hab46 | exact hb46) (And.intro (by first | exact hab45 | (rw [show v75 = c + 1 by (first | (clear hm hnf; omega) | omega)]; exact hb45n)) (Exists.intro ng (And.intro (by first | exact qtm hm hnf (by (try clear hm hnf); omega) | omega) hT))))))))))))))
        · replace hT := (if_pos h28).symm.trans hT
          refine And.intro (by (first | (clear hm hnf; omega) | omega)) (fun A77 e78 => ?_)
          replace hT := qlc e78 hT
          have i79 := iva_st i1 e78 (And.intro (by (first | (clear hm hnf; omega) | omega)) trivial)
          have j80 := ivf_sa j1 e78 rfl
          have f81 := frm_s f1 e78 rfl
          refine And.intro (by (first | (clear hm hnf; omega) | omega)) (fun v82 gv82 e83 => ?_)
          replace hT := qlc e83 hT
          have b84 := iva_at i79 25 rfl (i := v24) (by (first | (clear hm hnf; omega) | omega)) (by (first | (clear hm hnf; omega) | omega))
          have q85 : 0 = v82 := (e83.trans (st_v e78)).symm
          subst q85
          refine And.intro (fun h86 => ?_) (fun h86 => by exfalso; omega)
          have hb46 : ab A77 46 8 (pw l) := by intro i h0 h1; rw [show A77 46 = B 46 from (st_a e78 rfl)]; exact c4 i h0 h1
          have hb45n : ab A77 45 8 ((c + 1) * pw l) := by
            have hd : (c + 1) * pw l = c * pw l + pw l := by rw [Int.add_mul, Int.one_mul]
            intro i h0 h1
            have q := c5 i h0 h1
            first
            | (rw [show A77 45 = B 45 from (st_a e78 rfl)]; omega)
            | (have q2 := hE i h0 h1; have q3 := hq45 i; omega)
          refine fun v87 e88 => ?_
          replace hT := qlc e88 hT
          exact And.intro (by (first | (clear hm hnf; omega) | omega)) (Exists.intro ((6 - l) * 100 + 10 - v87 : Int).toNat (And.intro (by first | exact qtn hm (by (try clear hm hnf); omega) | omega) (And.intro i79 (And.intro j80 (And.intro f81 (And.intro rfl (And.intro (by (first | (clear hm hnf; omega) | omega)) (And.intro (by (first | (clear hm hnf; omega) | omega)) (And.intro (by (first | (clear hm hnf; omega) | omega)) (And.intro (by (first | (clear hm hnf; omega) | omega)) (And.intro (by first | exact hab46 | exact hb46) (And.intro (by first | exact hab45 | (rw [show v87 = c + 1 by (first | (clear hm hnf; omega) | omega)]; exact hb45n)) (Exists.intro ng (And.intro (by first | exact qtm hm hnf (by (try clear hm hnf); omega) | omega) hT))))))))))))))
  · refine And.intro (by (first | (clear hm hnf; omega) | omega)) (fun A1 e2 => ?_)
    replace hT := qlc e2 hT
    have i3 := iva_cp i0 e2 (fun i h0 h1 => trivial)
    have j4 := ivf_cp j0 e2 rfl
    have f5 := frm_cp f0 e2 rfl
    have hab0 : ab A1 45 8 (pw 0) := ab_cp e2 (fun i h0 h1 => by have h9 := iva_at i0 24 rfl (i := i) h0 h1; have hp := pw_0; omega)
    exact Exists.intro ((6 - 0) * 100 + 50 : Int).toNat (And.intro i3 (And.intro j4 (And.intro f5 (And.intro rfl (And.intro (by (first | (clear hm hnf; omega) | omega)) (And.intro (by (first | (clear hm hnf; omega) | omega)) (And.intro (by first | exact hab0 | (rw [show 0 = l + 1 by (first | (clear hm hnf; omega) | omega)]; exact hab9)) (Exists.intro 100000 (And.intro (by (first | (clear hm hnf; omega) | omega)) hT)))))))))
theorem pC_pourB {A : qA} (hA : qokA LC A) (p0 : iva IC A) (p1 : ivf JC A) : qokA LC (fC_pourB A) ∧ iva IC (fC_pourB A) ∧ ivf JC (fC_pourB A) ∧ frm [45, 46, 50] [] A (fC_pourB A) := by
  obtain ⟨r, B, hB, _, hk⟩ := okM_ex okC_pourB (as := [rf 44, rf 49, rf 50]) (K := fun _ B => B = (fC_pourB A) ∧ iva IC (fC_pourB A) ∧ ivf JC (fC_pourB A) ∧ frm [45, 46, 50] [] A (fC_pourB A)) hA (qoks_c (show qok (rf _) from trivial) (qoks_c (show qok (rf _) from trivial) (qoks_c (show qok (rf _) from trivial) qoks_n))) ⟨rfl, ⟨p0, p1⟩, fun A9 i9 j9 f9 x0 => (by rw [← x0]; exact ⟨rfl, i9, j9, f9⟩)⟩
  exact ⟨hk.1 ▸ hB, hk.2⟩
