/-! bits of a small set -/
theorem kb1 : ∀ l < 256, ∀ b < 8, ia (sr ((l : Nat) : Int) ((b : Nat) : Int)) 1 = 1 → (0 ≤ ia (l : Int) (ix (sl 1 (b : Int)) (-1)) ∧ ia (l : Int) (ix (sl 1 (b : Int)) (-1)) < l) ∧ bc (ia (l : Int) (ix (sl 1 (b : Int)) (-1))) 8 = bc (l : Int) 8 - 1 := by decide +kernel
theorem kb2 : ∀ n < 9, ∀ l < 2 ^ n, bc ((l : Nat) : Int) ((n : Nat) : Int) = bc (l : Int) 8 := by decide +kernel
theorem kb3 : ∀ l < 256, 0 < l → 1 ≤ bc ((l : Nat) : Int) 8 := by decide +kernel
theorem kb4 : ∀ n < 9, bc (sl 1 ((n : Nat) : Int) - 1) 8 = n := by decide +kernel
theorem k1 {l b u w v : Int} (hu : u = sl 1 b) (hw : w = ix u (-1)) (hv : v = ia l w) (l0 : 0 ≤ l) (l1 : l < 256) (b0 : 0 ≤ b) (b1 : b < 8) (hb : ia (sr l b) 1 = 1) : (0 ≤ v ∧ v < l) ∧ bc v 8 = bc l 8 - 1 := by
  have := kb1 l.toNat (by (first | (clear hm hnf; omega) | omega)) b.toNat (by (first | (clear hm hnf; omega) | omega))
  rw [show ((l.toNat : Nat) : Int) = l by (first | (clear hm hnf; omega) | omega), show ((b.toNat : Nat) : Int) = b by (first | (clear hm hnf; omega) | omega)] at this
  subst hu hw hv
  exact this hb
theorem k2 {l n : Int} (l0 : 0 ≤ l) (l1 : l < sl 1 n) (n0 : 0 ≤ n) (n1 : n ≤ 8) : bc l n = bc l 8 := by
  rw [sl_1 n0 (by (first | (clear hm hnf; omega) | omega))] at l1
  have := kb2 n.toNat (by (first | (clear hm hnf; omega) | omega)) l.toNat (by (first | (clear hm hnf; omega) | omega))
  rw [show ((l.toNat : Nat) : Int) = l by (first | (clear hm hnf; omega) | omega), show ((n.toNat : Nat) : Int) = n by (first | (clear hm hnf; omega) | omega)] at this
  exact this
theorem k3 {l : Int} (l0 : 0 < l) (l1 : l < 256) : 1 ≤ bc l 8 := by
  have := kb3 l.toNat (by (first | (clear hm hnf; omega) | omega)) (by (first | (clear hm hnf; omega) | omega))
  rw [show ((l.toNat : Nat) : Int) = l by (first | (clear hm hnf; omega) | omega)] at this
  exact this
theorem k4 {n v : Int} (n0 : 0 ≤ n) (n1 : n ≤ 8) (hv : v = sl 1 n - 1) : bc v 8 = n ∧ 0 ≤ v ∧ v < sl 1 n ∧ v < 256 := by
  have := kb4 n.toNat (by (first | (clear hm hnf; omega) | omega))
  rw [show ((n.toNat : Nat) : Int) = n by (first | (clear hm hnf; omega) | omega)] at this
  have h2 := sl_bd (b := n) 8 (by decide) n0 (by (first | (clear hm hnf; omega) | omega))
  subst hv
  exact ⟨this, by (first | (clear hm hnf; omega) | omega), by (first | (clear hm hnf; omega) | omega), by (first | (clear hm hnf; omega) | omega)⟩
/-! the rounds' hours -/
def HB (A : qA) (l : Int) : Prop := ∀ x a, 0 ≤ x → x < l → 0 ≤ a → a < A 0 (fd 63) → 0 ≤ A 53 (8 * x + a) ∧ A 53 (8 * x + a) ≤ 300 * x
def HA (A : qA) (l k : Int) : Prop := ∀ a, 0 ≤ a → a < k → 0 ≤ A 53 (8 * l + a) ∧ A 53 (8 * l + a) ≤ 300 * l
theorem HB_k {A A' : qA} {l l' : Int} (h : HB A l) (h53 : A' 53 = A 53) (h63 : A' 0 (fd 63) = A 0 (fd 63)) (hl : l' ≤ l) : HB A' l' := by
  intro x a x0 x1 a0 a1
  rw [h53]
  exact h x a x0 (by (first | (clear hm hnf; omega) | omega)) a0 (by (first | (clear hm hnf; omega) | omega))
theorem HB_u {A A' : qA} {l a j v : Int} (h : HB A l) (h53 : A' 53 = (fun i : Int => if i = j then v else A 53 i)) (hj : j = 8 * l + a) (a0 : 0 ≤ a) (h63 : A' 0 (fd 63) = A 0 (fd 63)) (h8 : A 0 (fd 63) ≤ 8) : HB A' l := by
  intro x b x0 x1 b0 b1
  rw [up_n h53 (by (first | (clear hm hnf; omega) | omega))]
  exact h x b x0 x1 b0 (by (first | (clear hm hnf; omega) | omega))
theorem HA_u {A A' : qA} {l a j v a' : Int} (h : HA A l a) (h53 : A' 53 = (fun i : Int => if i = j then v else A 53 i)) (hj : j = 8 * l + a) (hv : 0 ≤ v ∧ v ≤ 300 * l) (ha : a' = a + 1) : HA A' l a' := by
  intro b b0 b1
  by_cases hb : b = a
  · rw [hb, ← hj, up_e h53]; exact hv
  · rw [up_n h53 (by (first | (clear hm hnf; omega) | omega))]; exact h b b0 (by (first | (clear hm hnf; omega) | omega))
theorem HA_0 (A : qA) (l : Int) : HA A l 0 := fun a _ _ => by (first | (clear hm hnf; omega) | omega)
theorem HB_0 (A : qA) : HB A 0 := fun x a _ _ _ _ => by (first | (clear hm hnf; omega) | omega)
theorem HB_n {A : qA} {l l' n : Int} (h : HB A l) (h2 : HA A l n) (hn : A 0 (fd 63) ≤ n) (hl : l' = l + 1) : HB A l' := by
  intro x a x0 x1 a0 a1
  by_cases hx : x = l
  · rw [hx]; exact h2 a a0 (by (first | (clear hm hnf; omega) | omega))
  · exact h x a x0 (by (first | (clear hm hnf; omega) | omega)) a0 a1
theorem HB_at {A : qA} {l x a j : Int} (h : HB A l) (x0 : 0 ≤ x) (x1 : x < l) (a0 : 0 ≤ a) (a1 : a < A 0 (fd 63)) (hj : j = 8 * x + a) : 0 ≤ A 53 j ∧ A 53 j ≤ 300 * x := by
  rw [hj]; exact h x a x0 x1 a0 a1
def fM_laysHours_c2 (rec : Nat → List Int → qA → qA) (l : Int) (B : qA) : qA := qlet (B 0 (fd 63)) fun v1 => qlet (sl 1 v1) fun v4 => (if l < v4 then rec 10 [l, 0] B else B)
def fM_laysHours_c10 (rec : Nat → List Int → qA → qA) (l a : Int) (B : qA) : qA := qlet (B 0 (fd 63)) fun v8 => (if a < v8 then (if l = 0 then rec 22 [l, a, 0, 0] B else rec 22 [l, a, ((qn 1000000000)), 0] B) else qlet (l + 1) fun v12 => rec 2 [v12] B)
def fM_laysHours_c22 (rec : Nat → List Int → qA → qA) (l a s b : Int) (B : qA) : qA := qlet (B 0 (fd 63)) fun v16 => (if b < v16 then qlet (sr l b) fun v32 => qlet (ia v32 1) fun v35 => (if v35 = 1 then qlet (B 50 a) fun v41 => qlet (B 50 b) fun v44 => qlet (fM_way v41 v44 B) fun r47 => qlet (sl 1 b) fun v51 => qlet (ix v51 (-1)) fun v54 => qlet (ia l v54) fun v56 => qlet (8 * v56) fun v59 => qlet (v59 + b) fun v61 => qlet (B 53 v61) fun v63 => qlet (r47 + v63) fun v65 => qlet (fM_less s v65 B) fun r67 => qlet (b + 1) fun v71 => rec 22 [l, a, r67, v71] B else qlet (b + 1) fun v39 => rec 22 [l, a, s, v39] B) else qlet (8 * l) fun v20 => qlet (v20 + a) fun v22 => qlet (qu B 53 v22 s) fun A24 => qlet (a + 1) fun v30 => rec 10 [l, v30] A24)
def fM_laysHours_L : Nat → Nat → List Int → qA → qA
  | 0 => fun _ _ B => B
  | nF + 1 => fun k zs B => bif Nat.beq k 2 then (match zs with | [l] => fM_laysHours_c2 (fM_laysHours_L nF) l B | _ => B) else bif Nat.beq k 10 then (match zs with | [l, a] => fM_laysHours_c10 (fM_laysHours_L nF) l a B | _ => B) else bif Nat.beq k 22 then (match zs with | [l, a, s, b] => fM_laysHours_c22 (fM_laysHours_L nF) l a s b B | _ => B) else B
theorem fM_laysHours_L2 (nF : Nat) (l : Int) (B : qA) : fM_laysHours_L (nF + 1) 2 [l] B = fM_laysHours_c2 (fM_laysHours_L nF) l B := (congrFun (congrFun (congrFun (fM_laysHours_L.eq_2 nF) 2) [l]) B).trans (qL1 rfl rfl)
theorem fM_laysHours_L10 (nF : Nat) (l a : Int) (B : qA) : fM_laysHours_L (nF + 1) 10 [l, a] B = fM_laysHours_c10 (fM_laysHours_L nF) l a B := (congrFun (congrFun (congrFun (fM_laysHours_L.eq_2 nF) 10) [l, a]) B).trans (qL0 rfl (qL1 rfl rfl))
theorem fM_laysHours_L22 (nF : Nat) (l a s b : Int) (B : qA) : fM_laysHours_L (nF + 1) 22 [l, a, s, b] B = fM_laysHours_c22 (fM_laysHours_L nF) l a s b B := (congrFun (congrFun (congrFun (fM_laysHours_L.eq_2 nF) 22) [l, a, s, b]) B).trans (qL0 rfl (qL0 rfl (qL1 rfl rfl)))
def fM_laysHours (A : qA) : qA := (fM_laysHours_L 1000000) 2 [0] A
def sM_laysHours : qS := fun as A K => as = [rf 0] ∧ (iva IM A ∧ ivf JM A) ∧ (∀ A' : qA, iva IM A' → ivf JM A' → frm [53] [] A A' → (HB A' (sl 1 (A 0 (fd 63)))) → (A' = fM_laysHours A) → K none A')
theorem okM_laysHours : okM LM 3 222 sM_laysHours := by
  refine qmeth [] false [(221, sM_way), (146, sM_less)] 82 rfl ⟨okM_way.le (by decide), ⟨okM_less.le (by decide), trivial⟩⟩ ?_
  rintro _ A K hA has ⟨rfl, ⟨i0, j0⟩, hK⟩
  have f0 := frm_0 [53] [] A
  have hb_0_63 := ivf_at j0 2 rfl
  have hT : _ = fM_laysHours A := (fM_laysHours.eq_1 A).symm
  refine ⟨Nat.le_of_ble_eq_true rfl, [(2, [(0, 2, 0), (1, 0, 0)], fun zs B nn => match zs with | [l] => iva IM B ∧ ivf JM B ∧ frm [53] [] A B ∧ nn = ((256 - l) * 1000 + 999 : Int).toNat ∧ (0 ≤ l) ∧ (l ≤ 256) ∧ (l ≤ sl 1 (A 0 (fd 63))) ∧ (HB B l) ∧ (∃ nf : Nat, nn < nf ∧ fM_laysHours_L nf 2 [l] B = fM_laysHours A) | _ => False), (10, [(0, 2, 0), (1, 0, 0), (2, 0, 0)], fun zs B nn => match zs with | [l, a] => iva IM B ∧ ivf JM B ∧ frm [53] [] A B ∧ nn = ((256 - l) * 1000 + 900 - a * 20 : Int).toNat ∧ (0 ≤ l) ∧ (l ≤ 255) ∧ (l < sl 1 (A 0 (fd 63))) ∧ (HB B l) ∧ (0 ≤ a) ∧ (a ≤ A 0 (fd 63)) ∧ (HA B l a) ∧ (∃ nf : Nat, nn < nf ∧ fM_laysHours_L nf 10 [l, a] B = fM_laysHours A) | _ => False), (22, [(0, 2, 0), (1, 0, 0), (2, 0, 0), (3, 0, 0), (4, 0, 0)], fun zs B nn => match zs with | [l, a, s, b] => iva IM B ∧ ivf JM B ∧ frm [53] [] A B ∧ nn = ((256 - l) * 1000 + 900 - a * 20 - 1 - b : Int).toNat ∧ (0 ≤ l) ∧ (l ≤ 255) ∧ (l < sl 1 (A 0 (fd 63))) ∧ (HB B l) ∧ (0 ≤ a) ∧ (a < A 0 (fd 63)) ∧ (HA B l a) ∧ (0 ≤ b) ∧ (b ≤ A 0 (fd 63)) ∧ (0 ≤ s) ∧ (s ≤ 1000000000) ∧ (s ≤ 300 * l ∨ bc l b = 0) ∧ (l = 0 → s ≤ 0) ∧ (∃ nf : Nat, nn < nf ∧ fM_laysHours_L nf 22 [l, a, s, b] B = fM_laysHours A) | _ => False)], ?_, ?_⟩
  · refine ⟨⟨rfl, ?_⟩, ⟨rfl, ?_⟩, ⟨rfl, ?_⟩, trivial⟩
    · refine fun l B mm hB hz hI => ?_
      obtain ⟨i1, j1, f1, hm, c0, c1, c2, c3, ⟨nf, hnf, hT⟩⟩ := hI
      obtain ⟨hz_l, _⟩ := hz
      obtain ⟨ng, rfl⟩ : ∃ k, nf = k + 1 := ⟨nf - 1, by omega⟩
      replace hT := (fM_laysHours_c2.eq_1 (fM_laysHours_L ng) l B).symm.trans ((fM_laysHours_L2 ng l B).symm.trans hT)
      have hc_0_63 := ivf_at j1 2 rfl
      have h63 : B 0 (fd 63) = A 0 (fd 63) := frm_f f1 rfl
      have hsl := sl_bd (b := A 0 (fd 63)) 8 (by decide) (by (first | (clear hm hnf; omega) | omega)) (by (first | (clear hm hnf; omega) | omega))
      refine fun v1 gv1 e2 => ?_
      replace hT := qlc e2 hT
      have b3 := ivf_at j1 2 rfl
      refine fun v4 e5 => ?_
      replace hT := qlc e5 hT
      have h6 := sl_bd (b := v1) 8 (by decide) (by (first | (clear hm hnf; omega) | omega)) (by (first | (clear hm hnf; omega) | omega))
      have hs9 : v4 = sl 1 (A 0 (fd 63)) := by rw [← h63]; subst_vars; rfl
      refine And.intro (fun h7 => ?_) (fun h7 => ?_)
      · replace hT := (if_neg (Int.not_lt.mpr h7)).symm.trans hT
        exact hK _ i1 j1 f1 (HB_k (by assumption : HB B l) rfl rfl (by (first | (clear hm hnf; omega) | omega))) hT
      · replace hT := (if_pos h7).symm.trans hT
        exact Exists.intro ((256 - l) * 1000 + 900 - 0 * 20 : Int).toNat (And.intro (by first | exact qtn hm (by (try clear hm hnf); omega) | omega) (And.intro i1 (And.intro j1 (And.intro f1 (And.intro rfl (And.intro (by (first | (clear hm hnf; omega) | omega)) (And.intro (by (first | (clear hm hnf; omega) | omega)) (And.intro (by (first | (clear hm hnf; omega) | omega)) (And.intro (by first | assumption | exact HB_u (by assumption : HB B l) rfl (by (first | (clear hm hnf; omega) | omega) : _ = 8 * l + a) (by (first | (clear hm hnf; omega) | omega)) (by (first | (clear hm hnf; omega) | omega)) (by (first | (clear hm hnf; omega) | omega))) (And.intro (by (first | (clear hm hnf; omega) | omega)) (And.intro (by (first | (clear hm hnf; omega) | omega)) (And.intro (by first | exact HA_0 _ _ | exact HA_u (by assumption : HA B l a) rfl (by (first | (clear hm hnf; omega) | omega)) (by (first | (clear hm hnf; omega) | omega)) (by (first | (clear hm hnf; omega) | omega))) (Exists.intro ng (And.intro (by first | exact qtm hm hnf (by (try clear hm hnf); omega) | omega) hT))))))))))))))
    · refine fun l a B mm hB hz hI => ?_
      obtain ⟨i1, j1, f1, hm, c0, c1, c2, c3, c4, c5, c6, ⟨nf, hnf, hT⟩⟩ := hI
      obtain ⟨hz_l, hz_a, _⟩ := hz
      obtain ⟨ng, rfl⟩ : ∃ k, nf = k + 1 := ⟨nf - 1, by omega⟩
      replace hT := (fM_laysHours_c10.eq_1 (fM_laysHours_L ng) l a B).symm.trans ((fM_laysHours_L10 ng l a B).symm.trans hT)
      have hc_0_63 := ivf_at j1 2 rfl
      have h63 : B 0 (fd 63) = A 0 (fd 63) := frm_f f1 rfl
      refine fun v8 gv8 e9 => ?_
      replace hT := qlc e9 hT
      have b10 := ivf_at j1 2 rfl
      refine And.intro (fun h11 => ?_) (fun h11 => ?_)
      · replace hT := (if_neg (Int.not_lt.mpr h11)).symm.trans hT
        refine fun v12 e13 => ?_
        replace hT := qlc e13 hT
        exact And.intro (by (first | (clear hm hnf; omega) | omega)) (Exists.intro ((256 - v12) * 1000 + 999 : Int).toNat (And.intro (by first | exact qtn hm (by (try clear hm hnf); omega) | omega) (And.intro i1 (And.intro j1 (And.intro f1 (And.intro rfl (And.intro (by (first | (clear hm hnf; omega) | omega)) (And.intro (by (first | (clear hm hnf; omega) | omega)) (And.intro (by first | omega | (have hsl := sl_bd (b := A 0 (fd 63)) 8 (by decide) (by (first | (clear hm hnf; omega) | omega)) (by (first | (clear hm hnf; omega) | omega)); omega)) (And.intro (by first | exact HB_0 _ | exact HB_n (by assumption : HB B l) (by assumption : HA B l a) (by (first | (clear hm hnf; omega) | omega)) (by (first | (clear hm hnf; omega) | omega))) (Exists.intro ng (And.intro (by first | exact qtm hm hnf (by (try clear hm hnf); omega) | omega) hT))))))))))))
      · replace hT := (if_pos h11).symm.trans hT
        refine And.intro (fun h14 => ?_) (fun h14 => ?_)
        · replace hT := (if_neg h14).symm.trans hT
          have k15 : qn 1000000000 = 1000000000 := by decide
          exact Exists.intro ((256 - l) * 1000 + 900 - a * 20 - 1 - 0 : Int).toNat (And.intro (by first | exact qtn hm (by (try clear hm hnf); omega) | omega) (And.intro i1 (And.intro j1 (And.intro f1 (And.intro rfl (And.intro (by (first | (clear hm hnf; omega) | omega)) (And.intro (by (first | (clear hm hnf; omega) | omega)) (And.intro (by (first | (clear hm hnf; omega) | omega)) (And.intro (by assumption) (And.intro (by (first | (clear hm hnf; omega) | omega)) (And.intro (by (first | (clear hm hnf; omega) | omega)) (And.intro (by assumption) (And.intro (by (first | (clear hm hnf; omega) | omega)) (And.intro (by (first | (clear hm hnf; omega) | omega)) (And.intro (by (first | (clear hm hnf; omega) | omega)) (And.intro (by (first | (clear hm hnf; omega) | omega)) (And.intro (by first | omega | (have q := bc_0 l; omega) | (rw [show 0 = b + 1 by (first | (clear hm hnf; omega) | omega)]; omega)) (And.intro (by (first | (clear hm hnf; omega) | omega)) (Exists.intro ng (And.intro (by first | exact qtm hm hnf (by (try clear hm hnf); omega) | omega) hT))))))))))))))))))))
        · replace hT := (if_pos h14).symm.trans hT
          exact Exists.intro ((256 - l) * 1000 + 900 - a * 20 - 1 - 0 : Int).toNat (And.intro (by first | exact qtn hm (by (try clear hm hnf); omega) | omega) (And.intro i1 (And.intro j1 (And.intro f1 (And.intro rfl (And.intro (by (first | (clear hm hnf; omega) | omega)) (And.intro (by (first | (clear hm hnf; omega) | omega)) (And.intro (by (first | (clear hm hnf; omega) | omega)) (And.intro (by assumption) (And.intro (by (first | (clear hm hnf; omega) | omega)) (And.intro (by (first | (clear hm hnf; omega) | omega)) (And.intro (by assumption) (And.intro (by (first | (clear hm hnf; omega) | omega)) (And.intro (by (first | (clear hm hnf; omega) | omega)) (And.intro (by (first | (clear hm hnf; omega) | omega)) (And.intro (by (first | (clear hm hnf; omega) | omega)) (And.intro (by first | omega | (have q := bc_0 l; omega) | (rw [show 0 = b + 1 by (first | (clear hm hnf; omega) | omega)]; omega)) (And.intro (by (first | (clear hm hnf; omega) | omega)) (Exists.intro ng (And.intro (by first | exact qtm hm hnf (by (try clear hm hnf); omega) | omega) hT))))))))))))))))))))
    · refine fun l a s b B mm hB hz hI => ?_
      obtain ⟨i1, j1, f1, hm, c0, c1, c2, c3, c4, c5, c6, c7, c8, c9, c10, c11, c12, ⟨nf, hnf, hT⟩⟩ := hI
      obtain ⟨hz_l, hz_a, hz_s, hz_b, _⟩ := hz
      obtain ⟨ng, rfl⟩ : ∃ k, nf = k + 1 := ⟨nf - 1, by omega⟩
      replace hT := (fM_laysHours_c22.eq_1 (fM_laysHours_L ng) l a s b B).symm.trans ((fM_laysHours_L22 ng l a s b B).symm.trans hT)
      have hc_0_63 := ivf_at j1 2 rfl
      have h63 : B 0 (fd 63) = A 0 (fd 63) := frm_f f1 rfl
      refine fun v16 gv16 e17 => ?_
      replace hT := qlc e17 hT
      have b18 := ivf_at j1 2 rfl
      refine And.intro (fun h19 => ?_) (fun h19 => ?_)
      · replace hT := (if_neg (Int.not_lt.mpr h19)).symm.trans hT
        have hsl := sl_bd (b := A 0 (fd 63)) 8 (by decide) (by (first | (clear hm hnf; omega) | omega)) (by (first | (clear hm hnf; omega) | omega))
        have hk2 := k2 (l := l) (n := A 0 (fd 63)) (by (first | (clear hm hnf; omega) | omega)) (by (first | (clear hm hnf; omega) | omega)) (by (first | (clear hm hnf; omega) | omega)) (by (first | (clear hm hnf; omega) | omega))
        have hbe : bc l b = bc l (A 0 (fd 63)) := by rw [show b = A 0 (fd 63) by (first | (clear hm hnf; omega) | omega)]
        have hk3 : l = 0 ∨ 1 ≤ bc l 8 := by by_cases q : l = 0; exact Or.inl q; exact Or.inr (k3 (by (first | (clear hm hnf; omega) | omega)) (by (first | (clear hm hnf; omega) | omega)))
        refine fun v20 e21 => ?_
        replace hT := qlc e21 hT
        refine fun v22 e23 => ?_
        replace hT := qlc e23 hT
        refine And.intro (by (first | (clear hm hnf; omega) | omega)) (fun A24 e25 => ?_)
        replace hT := qlc e25 hT
        have i26 := iva_st i1 e25 trivial
        have j27 := ivf_sa j1 e25 rfl
        have f28 := frm_s f1 e25 rfl
        have t29 : A24 0 (fd 63) = B 0 (fd 63) := (congrFun (st_a e25 rfl) _)
        refine fun v30 e31 => ?_
        replace hT := qlc e31 hT
        exact And.intro (by (first | (clear hm hnf; omega) | omega)) (Exists.intro ((256 - l) * 1000 + 900 - v30 * 20 : Int).toNat (And.intro (by first | exact qtn hm (by (try clear hm hnf); omega) | omega) (And.intro i26 (And.intro j27 (And.intro f28 (And.intro rfl (And.intro (by (first | (clear hm hnf; omega) | omega)) (And.intro (by (first | (clear hm hnf; omega) | omega)) (And.intro (by (first | (clear hm hnf; omega) | omega)) (And.intro (by first | assumption | exact HB_u (by assumption : HB B l) (st_u e25) (by (first | (clear hm hnf; omega) | omega) : _ = 8 * l + a) (by (first | (clear hm hnf; omega) | omega)) (by (first | (clear hm hnf; omega) | omega)) (by (first | (clear hm hnf; omega) | omega))) (And.intro (by (first | (clear hm hnf; omega) | omega)) (And.intro (by (first | (clear hm hnf; omega) | omega)) (And.intro (by first | exact HA_0 _ _ | exact HA_u (by assumption : HA B l a) (st_u e25) (by (first | (clear hm hnf; omega) | omega)) (by (first | (clear hm hnf; omega) | omega)) (by (first | (clear hm hnf; omega) | omega))) (Exists.intro ng (And.intro (by first | exact qtm hm hnf (by (try clear hm hnf); omega) | omega) hT)))))))))))))))
      · replace hT := (if_pos h19).symm.trans hT
        refine fun v32 e33 => ?_
        replace hT := qlc e33 hT
        have h34 := sr_bd (a := l) (b := b) (by (first | (clear hm hnf; omega) | omega)) (by (first | (clear hm hnf; omega) | omega))
        refine fun v35 e36 => ?_
        replace hT := qlc e36 hT
        have h37 := ia_bd (a := v32) (b := 1) (by (first | (clear hm hnf; omega) | omega)) (by (first | (clear hm hnf; omega) | omega))
        have hbt : ia (sr l b) 1 = v35 := by subst_vars; rfl
        have hbc : bc l (b + 1) = bc l b + ia (sr l b) 1 := bc_s (by (first | (clear hm hnf; omega) | omega))
        refine And.intro (fun h38 => ?_) (fun h38 => ?_)
        · replace hT := (if_neg h38).symm.trans hT
          refine fun v39 e40 => ?_
          replace hT := qlc e40 hT
          exact And.intro (by (first | (clear hm hnf; omega) | omega)) (Exists.intro ((256 - l) * 1000 + 900 - a * 20 - 1 - v39 : Int).toNat (And.intro (by first | exact qtn hm (by (try clear hm hnf); omega) | omega) (And.intro i1 (And.intro j1 (And.intro f1 (And.intro rfl (And.intro (by (first | (clear hm hnf; omega) | omega)) (And.intro (by (first | (clear hm hnf; omega) | omega)) (And.intro (by (first | (clear hm hnf; omega) | omega)) (And.intro (by assumption) (And.intro (by (first | (clear hm hnf; omega) | omega)) (And.intro (by (first | (clear hm hnf; omega) | omega)) (And.intro (by assumption) (And.intro (by (first | (clear hm hnf; omega) | omega)) (And.intro (by (first | (clear hm hnf; omega) | omega)) (And.intro (by (first | (clear hm hnf; omega) | omega)) (And.intro (by (first | (clear hm hnf; omega) | omega)) (And.intro (by first | omega | (have q := bc_0 l; omega) | (rw [show v39 = b + 1 by (first | (clear hm hnf; omega) | omega)]; omega)) (And.intro (by (first | (clear hm hnf; omega) | omega)) (Exists.intro ng (And.intro (by first | exact qtm hm hnf (by (try clear hm hnf); omega) | omega) hT)))))))))))))))))))))
        · replace hT := (if_pos h38).symm.trans hT
          refine And.intro (by (first | (clear hm hnf; omega) | omega)) (fun v41 gv41 e42 => ?_)
          replace hT := qlc e42 hT
          have b43 := iva_at i1 21 rfl (i := a) (by (first | (clear hm hnf; omega) | omega)) (by (first | (clear hm hnf; omega) | omega))
          refine And.intro (by (first | (clear hm hnf; omega) | omega)) (fun v44 gv44 e45 => ?_)
          replace hT := qlc e45 hT
          have b46 := iva_at i1 21 rfl (i := b) (by (first | (clear hm hnf; omega) | omega)) (by (first | (clear hm hnf; omega) | omega))
          refine Exists.intro v41 (Exists.intro v44 (And.intro rfl (And.intro (And.intro (by (first | (clear hm hnf; omega) | omega)) (And.intro (by (first | (clear hm hnf; omega) | omega)) (And.intro (by (first | (clear hm hnf; omega) | omega)) (by (first | (clear hm hnf; omega) | omega))))) (fun r47 g49 g50 g48 => ?_))))
          replace hT := qlc g48 hT
          clear g48
          refine fun v51 e52 => ?_
          replace hT := qlc e52 hT
          have h53 := sl_bd (b := b) 7 (by decide) (by (first | (clear hm hnf; omega) | omega)) (by (first | (clear hm hnf; omega) | omega))
          obtain ⟨u9, hu9⟩ : ∃ u, u = v51 := ⟨_, rfl⟩
          have hu8 : u9 = sl 1 b := by rw [hu9]; assumption
          refine fun v54 e55 => ?_
          replace hT := qlc e55 hT
          have hw9 : v54 = ix u9 (-1) := by rw [hu9]; assumption
          refine fun v56 e57 => ?_
          replace hT := qlc e57 hT
          have h58 := ia_bd (a := v54) (b := l) (by (first | (clear hm hnf; omega) | omega)) (by (first | (clear hm hnf; omega) | omega))
          rw [ia_comm] at h58
          have hk1 := k1 hu8 hw9 (by assumption : v56 = ia l _) (by (first | (clear hm hnf; omega) | omega)) (by (first | (clear hm hnf; omega) | omega)) (by (first | (clear hm hnf; omega) | omega)) (by (first | (clear hm hnf; omega) | omega)) (by (first | (clear hm hnf; omega) | omega))
          obtain ⟨v9, hv9⟩ : ∃ v, v = v56 := ⟨_, rfl⟩
          refine fun v59 e60 => ?_
          replace hT := qlc e60 hT
          refine fun v61 e62 => ?_
          replace hT := qlc e62 hT
          have hr9 := HB_at (x := v9) (a := b) (j := v61) (by assumption : HB B l) (by (first | (clear hm hnf; omega) | omega)) (by (first | (clear hm hnf; omega) | omega)) (by (first | (clear hm hnf; omega) | omega)) (by (first | (clear hm hnf; omega) | omega)) (by (first | (clear hm hnf; omega) | omega))
          refine And.intro (by (first | (clear hm hnf; omega) | omega)) (fun v63 gv63 e64 => ?_)
          replace hT := qlc e64 hT
          refine fun v65 e66 => ?_
          replace hT := qlc e66 hT
          refine And.intro (by (first | (clear hm hnf; omega) | omega)) (Exists.intro s (Exists.intro v65 (And.intro rfl (fun r67 g70 g68 g69 => ?_))))
          replace hT := qlc g69 hT
          clear g69
          refine fun v71 e72 => ?_
          replace hT := qlc e72 hT
          exact And.intro (by (first | (clear hm hnf; omega) | omega)) (Exists.intro ((256 - l) * 1000 + 900 - a * 20 - 1 - v71 : Int).toNat (And.intro (by first | exact qtn hm (by (try clear hm hnf); omega) | omega) (And.intro i1 (And.intro j1 (And.intro f1 (And.intro rfl (And.intro (by (first | (clear hm hnf; omega) | omega)) (And.intro (by (first | (clear hm hnf; omega) | omega)) (And.intro (by (first | (clear hm hnf; omega) | omega)) (And.intro (by assumption) (And.intro (by (first | (clear hm hnf; omega) | omega)) (And.intro (by (first | (clear hm hnf; omega) | omega)) (And.intro (by assumption) (And.intro (by (first | (clear hm hnf; omega) | omega)) (And.intro (by (first | (clear hm hnf; omega) | omega)) (And.intro (by (first | (clear hm hnf; omega) | omega)) (And.intro (by (first | (clear hm hnf; omega) | omega)) (And.intro (by first | omega | (have q := bc_0 l; omega) | (rw [show v71 = b + 1 by (first | (clear hm hnf; omega) | omega)]; omega)) (And.intro (by (first | (clear hm hnf; omega) | omega)) (Exists.intro ng (And.intro (by first | exact qtm hm hnf (by (try clear hm hnf); omega) | omega) hT)))))))))))))))))))))
  · exact Exists.intro ((256 - 0) * 1000 + 999 : Int).toNat (And.intro i0 (And.intro j0 (And.intro f0 (And.intro rfl (And.intro (by (first | (clear hm hnf; omega) | omega)) (And.intro (by (first | (clear hm hnf; omega) | omega)) (And.intro (by first | omega | (have hsl := sl_bd (b := A 0 (fd 63)) 8 (by decide) (by (first | (clear hm hnf; omega) | omega)) (by (first | (clear hm hnf; omega) | omega)); omega)) (And.intro (by first | exact HB_0 _ | exact HB_n (by assumption : HB B l) (by assumption : HA B l a) (by (first | (clear hm hnf; omega) | omega)) (by (first | (clear hm hnf; omega) | omega))) (Exists.intro 1000000 (And.intro (by (first | (clear hm hnf; omega) | omega)) hT))))))))))
theorem pM_laysHours {A : qA} (hA : qokA LM A) (p0 : iva IM A) (p1 : ivf JM A) : qokA LM (fM_laysHours A) ∧ iva IM (fM_laysHours A) ∧ ivf JM (fM_laysHours A) ∧ frm [53] [] A (fM_laysHours A) ∧ (HB (fM_laysHours A) (sl 1 (A 0 (fd 63)))) := by
  obtain ⟨r, B, hB, _, hk⟩ := okM_ex okM_laysHours (as := [rf 0]) (K := fun _ B => B = (fM_laysHours A) ∧ iva IM (fM_laysHours A) ∧ ivf JM (fM_laysHours A) ∧ frm [53] [] A (fM_laysHours A) ∧ (HB (fM_laysHours A) (sl 1 (A 0 (fd 63))))) hA (qoks_c (show qok (rf _) from trivial) qoks_n) ⟨rfl, ⟨p0, p1⟩, fun A9 i9 j9 f9 x0 x1 => (by rw [← x1]; exact ⟨rfl, i9, j9, f9, x0⟩)⟩
  exact ⟨hk.1 ▸ hB, hk.2⟩
def fM_work_c27 (rec : Nat → List Int → qA → Int × qA) (l1 l2 l5 k : Int) (B : qA) : Int × qA := qlet (B 0 (fd 63)) fun v28 => (if k < v28 then qlet (B 50 k) fun v49 => qlet (fM_mayBe l1 v49 B) fun r52 => (if r52 = 0 then ((-2), B) else qlet (k + 1) fun v57 => rec 27 [l1, l2, l5, v57] B) else qlet (fM_laysHours B) fun A32 => qlet (A32 0 (fd 63)) fun v40 => qlet (sl 1 v28) fun v44 => qlet (v44 - 1) fun v47 => rec 60 [l5, v47, ((6 * l2 + 0)), (-1), 0] A32)
def fM_work_c60 (rec : Nat → List Int → qA → Int × qA) (l5 l f s p : Int) (B : qA) : Int × qA := qlet (B 0 (fd 63)) fun v59 => (if p < v59 then rec 70 [l5, l, f, s, p, (-1), ((qn 1000000000)), 0] B else (s, B))
def fM_work_c70 (rec : Nat → List Int → qA → Int × qA) (l5 l f s p g t b : Int) (B : qA) : Int × qA := qlet (B 0 (fd 63)) fun v64 => (if b < v64 then qlet (sr l b) fun v103 => qlet (ia v103 1) fun v106 => (if v106 = 0 then qlet (b + 1) fun v138 => rec 70 [l5, l, f, s, p, g, t, v138] B else qlet (B 50 b) fun v110 => qlet (fM_way f v110 B) fun r113 => qlet (sl 1 b) fun v117 => qlet (ix v117 (-1)) fun v120 => qlet (ia l v120) fun v122 => qlet (8 * v122) fun v125 => qlet (v125 + b) fun v127 => qlet (B 53 v127) fun v129 => qlet (r113 + v129) fun v131 => (if v131 < t then qlet (b + 1) fun v134 => rec 70 [l5, l, f, s, p, b, v131, v134] B else qlet (b + 1) fun v136 => rec 70 [l5, l, f, s, p, g, t, v136] B)) else (if s = (-1) then (if p = l5 then qlet (B 50 g) fun v100 => (v100, B) else qlet (B 50 g) fun v87 => qlet (sl 1 g) fun v90 => qlet (ix v90 (-1)) fun v93 => qlet (ia l v93) fun v95 => qlet (p + 1) fun v98 => rec 60 [l5, v95, v87, t, v98] B) else (if p = l5 then qlet (B 50 g) fun v83 => (v83, B) else qlet (B 50 g) fun v70 => qlet (sl 1 g) fun v73 => qlet (ix v73 (-1)) fun v76 => qlet (ia l v76) fun v78 => qlet (p + 1) fun v81 => rec 60 [l5, v78, v70, s, v81] B)))
def fM_work_L : Nat → Nat → List Int → qA → Int × qA
  | 0 => fun _ _ B => (0, B)
  | nF + 1 => fun k zs B => bif Nat.beq k 27 then (match zs with | [l1, l2, l5, k] => fM_work_c27 (fM_work_L nF) l1 l2 l5 k B | _ => (0, B)) else bif Nat.beq k 60 then (match zs with | [l5, l, f, s, p] => fM_work_c60 (fM_work_L nF) l5 l f s p B | _ => (0, B)) else bif Nat.beq k 70 then (match zs with | [l5, l, f, s, p, g, t, b] => fM_work_c70 (fM_work_L nF) l5 l f s p g t b B | _ => (0, B)) else (0, B)
theorem fM_work_L27 (nF : Nat) (l1 l2 l5 k : Int) (B : qA) : fM_work_L (nF + 1) 27 [l1, l2, l5, k] B = fM_work_c27 (fM_work_L nF) l1 l2 l5 k B := (congrFun (congrFun (congrFun (fM_work_L.eq_2 nF) 27) [l1, l2, l5, k]) B).trans (qL1 rfl rfl)
theorem fM_work_L60 (nF : Nat) (l5 l f s p : Int) (B : qA) : fM_work_L (nF + 1) 60 [l5, l, f, s, p] B = fM_work_c60 (fM_work_L nF) l5 l f s p B := (congrFun (congrFun (congrFun (fM_work_L.eq_2 nF) 60) [l5, l, f, s, p]) B).trans (qL0 rfl (qL1 rfl rfl))
theorem fM_work_L70 (nF : Nat) (l5 l f s p g t b : Int) (B : qA) : fM_work_L (nF + 1) 70 [l5, l, f, s, p, g, t, b] B = fM_work_c70 (fM_work_L nF) l5 l f s p g t b B := (congrFun (congrFun (congrFun (fM_work_L.eq_2 nF) 70) [l5, l, f, s, p, g, t, b]) B).trans (qL0 rfl (qL0 rfl (qL1 rfl rfl)))
def fM_work (w c x h : Int) (A : qA) : Int × qA := (if 1 ≤ w ∧ w ≤ 99 then (if 0 ≤ c ∧ c ≤ 7 then qlp (fM_lays x 8 A) fun r9 A5 => (if r9 = 0 then ((-3), A5) else qlet (A5 0 (fd 63)) fun v18 => qlet (v18 - 1) fun v21 => (if (-1) ≤ h ∧ h ≤ v21 then (fM_work_L 100000) 27 [w, c, h, 0] A5 else ((-3), A5))) else ((-3), A)) else ((-3), A))
def sM_work : qS := fun as A K => ∃ w c x h : Int, as = [rf 0, ni w, ni c, nl x, ni h] ∧ (iva IM A ∧ ivf JM A) ∧ (∀ A' : qA, iva IM A' → ivf JM A' → frm [50, 53] [(0, 63)] A A' → ∀ r : Int, rng r → (r = (fM_work w c x h A).1) → (A' = (fM_work w c x h A).2) → K (some (ni r)) A')
theorem okM_work : okM LM 4 223 sM_work := by
  refine qmeth [] false [(145, sM_in), (217, sM_lays), (222, sM_laysHours), (149, sM_at), (218, sM_mayBe), (221, sM_way)] 151 rfl ⟨okM_in.le (by decide), ⟨okM_lays.le (by decide), ⟨okM_laysHours.le (by decide), ⟨okM_at.le (by decide), ⟨okM_mayBe.le (by decide), ⟨okM_way.le (by decide), trivial⟩⟩⟩⟩⟩⟩ ?_
  rintro _ A K hA has ⟨w, c, x, h, rfl, ⟨i0, j0⟩, hK⟩
  have rg_w : rng w := has (ni w) (by simp)
  have rg_c : rng c := has (ni c) (by simp)
  have rg_x : rngL x := has (nl x) (by simp)
  have rg_h : rng h := has (ni h) (by simp)
  have f0 := frm_0 [50, 53] [(0, 63)] A
  have hb_0_63 := ivf_at j0 2 rfl
  have hT : _ = fM_work w c x h A := (fM_work.eq_1 w c x h A).symm
  refine ⟨Nat.le_of_ble_eq_true rfl, [(27, [(0, 2, 0), (1, 0, 0), (2, 0, 0), (5, 0, 0), (6, 0, 0)], fun zs B nn => match zs with | [l1, l2, l5, k] => iva IM B ∧ ivf JM B ∧ frm [50, 53] [(0, 63)] A B ∧ nn = (10000 - k : Int).toNat ∧ (l1 = w) ∧ (l2 = c) ∧ (l5 = h) ∧ (1 ≤ w) ∧ (w ≤ 99) ∧ (0 ≤ c) ∧ (c ≤ 7) ∧ (0 ≤ k) ∧ (k ≤ 8) ∧ (∃ nf : Nat, nn < nf ∧ fM_work_L nf 27 [l1, l2, l5, k] B = fM_work w c x h A) | _ => False), (60, [(0, 2, 0), (5, 0, 0), (6, 0, 0), (7, 0, 0), (8, 0, 0), (9, 0, 0)], fun zs B nn => match zs with | [l5, l, f, s, p] => iva IM B ∧ ivf JM B ∧ frm [50, 53] [(0, 63)] A B ∧ nn = ((8 - p) * 100 + 90 : Int).toNat ∧ (l5 = h) ∧ (0 ≤ l) ∧ (l ≤ 255) ∧ (l < sl 1 (B 0 (fd 63))) ∧ (0 ≤ f) ∧ (f ≤ 47) ∧ (0 ≤ p) ∧ (bc l 8 = B 0 (fd 63) - p) ∧ (HB B (sl 1 (B 0 (fd 63)))) ∧ (p ≤ B 0 (fd 63)) ∧ (∃ nf : Nat, nn < nf ∧ fM_work_L nf 60 [l5, l, f, s, p] B = fM_work w c x h A) | _ => False), (70, [(0, 2, 0), (5, 0, 0), (6, 0, 0), (7, 0, 0), (8, 0, 0), (9, 0, 0), (10, 0, 0), (11, 0, 0), (12, 0, 0)], fun zs B nn => match zs with | [l5, l, f, s, p, g, t, b] => iva IM B ∧ ivf JM B ∧ frm [50, 53] [(0, 63)] A B ∧ nn = ((8 - p) * 100 + 80 - b : Int).toNat ∧ (l5 = h) ∧ (0 ≤ l) ∧ (l ≤ 255) ∧ (l < sl 1 (B 0 (fd 63))) ∧ (0 ≤ f) ∧ (f ≤ 47) ∧ (0 ≤ p) ∧ (bc l 8 = B 0 (fd 63) - p) ∧ (HB B (sl 1 (B 0 (fd 63)))) ∧ (p < B 0 (fd 63)) ∧ (0 ≤ b) ∧ (b ≤ B 0 (fd 63)) ∧ ((-1) ≤ g) ∧ (g < B 0 (fd 63)) ∧ (t ≤ 1000000000) ∧ (g = -1 → t = 1000000000) ∧ (g = -1 → bc l b = 0) ∧ (0 ≤ g → ia (sr l g) 1 = 1) ∧ (∃ nf : Nat, nn < nf ∧ fM_work_L nf 70 [l5, l, f, s, p, g, t, b] B = fM_work w c x h A) | _ => False)], ?_, ?_⟩
  · refine ⟨⟨rfl, ?_⟩, ⟨rfl, ?_⟩, ⟨rfl, ?_⟩, trivial⟩
    · refine fun l1 l2 l5 k B mm hB hz hI => ?_
      obtain ⟨i1, j1, f1, hm, c0, c1, c2, c3, c4, c5, c6, c7, c8, ⟨nf, hnf, hT⟩⟩ := hI
      obtain ⟨hz_l1, hz_l2, hz_l5, hz_k, _⟩ := hz
      obtain ⟨ng, rfl⟩ : ∃ k, nf = k + 1 := ⟨nf - 1, by omega⟩
      replace hT := (fM_work_c27.eq_1 (fM_work_L ng) l1 l2 l5 k B).symm.trans ((fM_work_L27 ng l1 l2 l5 k B).symm.trans hT)
      have hc_0_63 := ivf_at j1 2 rfl
      refine fun v28 gv28 e29 => ?_
      replace hT := qlc e29 hT
      have b30 := ivf_at j1 2 rfl
      refine And.intro (fun h31 => ?_) (fun h31 => ?_)
      · replace hT := (if_neg (Int.not_lt.mpr h31)).symm.trans hT
        refine And.intro rfl (And.intro (And.intro i1 j1) (fun A32 i33 j34 f35 g36 g37 => ?_))
        replace hT := qlc g37 hT
        have f38 := frm_c f1 f35 rfl
        have t39 : A32 0 (fd 63) = B 0 (fd 63) := (frm_f f35 rfl)
        refine fun v40 gv40 e41 => ?_
        replace hT := qlc e41 hT
        have b42 := ivf_at j34 2 rfl
        have q43 : v28 = v40 := (e41.trans ((frm_f f35 rfl).trans e29.symm)).symm
        subst q43
        obtain ⟨n9, hn9⟩ : ∃ n, n = v28 := ⟨_, rfl⟩
        have hn8 : n9 = A32 0 (fd 63) := by (first | (clear hm hnf; omega) | omega)
        refine fun v44 e45 => ?_
        replace hT := qlc e45 hT
        have h46 := sl_bd (b := v28) 8 (by decide) (by (first | (clear hm hnf; omega) | omega)) (by (first | (clear hm hnf; omega) | omega))
        have hs8 : v44 = sl 1 n9 := by rw [hn9]; assumption
        refine fun v47 e48 => ?_
        replace hT := qlc e48 hT
        have hk4 := k4 (n := n9) (v := v47) (by (first | (clear hm hnf; omega) | omega)) (by (first | (clear hm hnf; omega) | omega)) (by (first | (clear hm hnf; omega) | omega))
        rw [hn8] at hk4
        refine Exists.intro l2 (Exists.intro 0 (And.intro rfl (And.intro (And.intro (by (first | (clear hm hnf; omega) | omega)) (And.intro (by (first | (clear hm hnf; omega) | omega)) (And.intro (by (first | (clear hm hnf; omega) | omega)) (by (first | (clear hm hnf; omega) | omega))))) ?_)))
        exact And.intro (by (first | (clear hm hnf; omega) | omega)) (Exists.intro ((8 - 0) * 100 + 90 : Int).toNat (And.intro (by first | exact qtn hm (by (try clear hm hnf); omega) | omega) (And.intro i33 (And.intro j34 (And.intro f38 (And.intro rfl (And.intro (by (first | (clear hm hnf; omega) | omega)) (And.intro (by (first | (clear hm hnf; omega) | omega)) (And.intro (by (first | (clear hm hnf; omega) | omega)) (And.intro (by (first | (clear hm hnf; omega) | omega)) (And.intro (by (first | (clear hm hnf; omega) | omega)) (And.intro (by (first | (clear hm hnf; omega) | omega)) (And.intro (by (first | (clear hm hnf; omega) | omega)) (And.intro (by (first | (clear hm hnf; omega) | omega)) (And.intro (by first | assumption | (rw [show A32 0 (fd 63) = _ by assumption]; exact g36)) (And.intro (by (first | (clear hm hnf; omega) | omega)) (Exists.intro ng (And.intro (by first | exact qtm hm hnf (by (try clear hm hnf); omega) | omega) hT))))))))))))))))))
      · replace hT := (if_pos h31).symm.trans hT
        refine And.intro (by (first | (clear hm hnf; omega) | omega)) (fun v49 gv49 e50 => ?_)
        replace hT := qlc e50 hT
        have b51 := iva_at i1 21 rfl (i := k) (by (first | (clear hm hnf; omega) | omega)) (by (first | (clear hm hnf; omega) | omega))
        refine Exists.intro l1 (Exists.intro v49 (And.intro rfl (And.intro (And.intro i1 (And.intro j1 (And.intro (by (first | (clear hm hnf; omega) | omega)) (And.intro (by (first | (clear hm hnf; omega) | omega)) (And.intro (by (first | (clear hm hnf; omega) | omega)) (by (first | (clear hm hnf; omega) | omega))))))) (fun r52 g54 g55 g53 => ?_))))
        replace hT := qlc g53 hT
        clear g53
        refine And.intro (fun h56 => ?_) (fun h56 => ?_)
        · replace hT := (if_neg h56).symm.trans hT
          refine fun v57 e58 => ?_
          replace hT := qlc e58 hT
          exact And.intro (by (first | (clear hm hnf; omega) | omega)) (Exists.intro (10000 - v57 : Int).toNat (And.intro (by first | exact qtn hm (by (try clear hm hnf); omega) | omega) (And.intro i1 (And.intro j1 (And.intro f1 (And.intro rfl (And.intro (by (first | (clear hm hnf; omega) | omega)) (And.intro (by (first | (clear hm hnf; omega) | omega)) (And.intro (by (first | (clear hm hnf; omega) | omega)) (And.intro (by (first | (clear hm hnf; omega) | omega)) (And.intro (by (first | (clear hm hnf; omega) | omega)) (And.intro (by (first | (clear hm hnf; omega) | omega)) (And.intro (by (first | (clear hm hnf; omega) | omega)) (And.intro (by (first | (clear hm hnf; omega) | omega)) (And.intro (by (first | (clear hm hnf; omega) | omega)) (Exists.intro ng (And.intro (by first | exact qtm hm hnf (by (try clear hm hnf); omega) | omega) hT)))))))))))))))))
        · replace hT := (if_pos h56).symm.trans hT
          exact hK _ i1 j1 f1 _ (by first | assumption | exact ⟨by (first | (clear hm hnf; omega) | omega), by (first | (clear hm hnf; omega) | omega)⟩ | exact wI_rng _ | exact i_rng _ | (subst_vars; exact i_rng _) | exact (hA _ _).2 rfl) (congrArg Prod.fst hT) (congrArg Prod.snd hT)
    · refine fun l5 l f s p B mm hB hz hI => ?_
      obtain ⟨i1, j1, f1, hm, c0, c1, c2, c3, c4, c5, c6, c7, c8, c9, ⟨nf, hnf, hT⟩⟩ := hI
      obtain ⟨hz_l5, hz_l, hz_f, hz_s, hz_p, _⟩ := hz
      obtain ⟨ng, rfl⟩ : ∃ k, nf = k + 1 := ⟨nf - 1, by omega⟩
      replace hT := (fM_work_c60.eq_1 (fM_work_L ng) l5 l f s p B).symm.trans ((fM_work_L60 ng l5 l f s p B).symm.trans hT)
      have hc_0_63 := ivf_at j1 2 rfl
      refine fun v59 gv59 e60 => ?_
      replace hT := qlc e60 hT
      have b61 := ivf_at j1 2 rfl
      refine And.intro (fun h62 => ?_) (fun h62 => ?_)
      · replace hT := (if_neg (Int.not_lt.mpr h62)).symm.trans hT
        exact hK _ i1 j1 f1 _ (by first | assumption | exact ⟨by (first | (clear hm hnf; omega) | omega), by (first | (clear hm hnf; omega) | omega)⟩ | exact wI_rng _ | exact i_rng _ | (subst_vars; exact i_rng _) | exact (hA _ _).2 rfl) (congrArg Prod.fst hT) (congrArg Prod.snd hT)
      · replace hT := (if_pos h62).symm.trans hT
        have k63 : qn 1000000000 = 1000000000 := by decide
        exact Exists.intro ((8 - p) * 100 + 80 - 0 : Int).toNat (And.intro (by first | exact qtn hm (by (try clear hm hnf); omega) | omega) (And.intro i1 (And.intro j1 (And.intro f1 (And.intro rfl (And.intro (by (first | (clear hm hnf; omega) | omega)) (And.intro (by (first | (clear hm hnf; omega) | omega)) (And.intro (by (first | (clear hm hnf; omega) | omega)) (And.intro (by (first | (clear hm hnf; omega) | omega)) (And.intro (by (first | (clear hm hnf; omega) | omega)) (And.intro (by (first | (clear hm hnf; omega) | omega)) (And.intro (by (first | (clear hm hnf; omega) | omega)) (And.intro (by (first | (clear hm hnf; omega) | omega)) (And.intro (by first | assumption | (rw [show B 0 (fd 63) = _ by assumption]; exact hE)) (And.intro (by (first | (clear hm hnf; omega) | omega)) (And.intro (by (first | (clear hm hnf; omega) | omega)) (And.intro (by (first | (clear hm hnf; omega) | omega)) (And.intro (by (first | (clear hm hnf; omega) | omega)) (And.intro (by (first | (clear hm hnf; omega) | omega)) (And.intro (by (first | (clear hm hnf; omega) | omega)) (And.intro (by (first | (clear hm hnf; omega) | omega)) (And.intro (by first | omega | (have q := bc_0 l; omega) | (rw [show 0 = b + 1 by (first | (clear hm hnf; omega) | omega)]; omega)) (And.intro (by first | omega | assumption | (intro _; omega)) (Exists.intro ng (And.intro (by first | exact qtm hm hnf (by (try clear hm hnf); omega) | omega) hT)))))))))))))))))))))))))
    · refine fun l5 l f s p g t b B mm hB hz hI => ?_
      obtain ⟨i1, j1, f1, hm, c0, c1, c2, c3, c4, c5, c6, c7, c8, c9, c10, c11, c12, c13, c14, c15, c16, c17, ⟨nf, hnf, hT⟩⟩ := hI
      obtain ⟨hz_l5, hz_l, hz_f, hz_s, hz_p, hz_g, hz_t, hz_b, _⟩ := hz
      obtain ⟨ng, rfl⟩ : ∃ k, nf = k + 1 := ⟨nf - 1, by omega⟩
      replace hT := (fM_work_c70.eq_1 (fM_work_L ng) l5 l f s p g t b B).symm.trans ((fM_work_L70 ng l5 l f s p g t b B).symm.trans hT)
      have hc_0_63 := ivf_at j1 2 rfl
      refine fun v64 gv64 e65 => ?_
      replace hT := qlc e65 hT
      have b66 := ivf_at j1 2 rfl
      refine And.intro (fun h67 => ?_) (fun h67 => ?_)
      · replace hT := (if_neg (Int.not_lt.mpr h67)).symm.trans hT
        have hk2 := k2 (l := l) (n := B 0 (fd 63)) (by (first | (clear hm hnf; omega) | omega)) (by (first | (clear hm hnf; omega) | omega)) (by (first | (clear hm hnf; omega) | omega)) (by (first | (clear hm hnf; omega) | omega))
        have hbe : bc l b = bc l (B 0 (fd 63)) := by rw [show b = B 0 (fd 63) by (first | (clear hm hnf; omega) | omega)]
        refine And.intro (fun h68 => ?_) (fun h68 => ?_)
        · replace hT := (if_neg h68).symm.trans hT
          refine And.intro (fun h69 => ?_) (fun h69 => ?_)
          · replace hT := (if_neg h69).symm.trans hT
            refine And.intro (by (first | (clear hm hnf; omega) | omega)) (fun v70 gv70 e71 => ?_)
            replace hT := qlc e71 hT
            have b72 := iva_at i1 21 rfl (i := g) (by (first | (clear hm hnf; omega) | omega)) (by (first | (clear hm hnf; omega) | omega))
            refine fun v73 e74 => ?_
            replace hT := qlc e74 hT
            have h75 := sl_bd (b := g) 7 (by decide) (by (first | (clear hm hnf; omega) | omega)) (by (first | (clear hm hnf; omega) | omega))
            obtain ⟨u9, hu9⟩ : ∃ u, u = v73 := ⟨_, rfl⟩
            have hu8 : u9 = sl 1 g := by rw [hu9]; assumption
            refine fun v76 e77 => ?_
            replace hT := qlc e77 hT
            have hw9 : v76 = ix u9 (-1) := by rw [hu9]; assumption
            refine fun v78 e79 => ?_
            replace hT := qlc e79 hT
            have h80 := ia_bd (a := v76) (b := l) (by (first | (clear hm hnf; omega) | omega)) (by (first | (clear hm hnf; omega) | omega))
            rw [ia_comm] at h80
            have hk1 := k1 hu8 hw9 (by assumption : v78 = ia l _) (by (first | (clear hm hnf; omega) | omega)) (by (first | (clear hm hnf; omega) | omega)) (by (first | (clear hm hnf; omega) | omega)) (by (first | (clear hm hnf; omega) | omega)) (by (first | (clear hm hnf; omega) | omega))
            refine fun v81 e82 => ?_
            replace hT := qlc e82 hT
            exact And.intro (by (first | (clear hm hnf; omega) | omega)) (Exists.intro ((8 - v81) * 100 + 90 : Int).toNat (And.intro (by first | exact qtn hm (by (try clear hm hnf); omega) | omega) (And.intro i1 (And.intro j1 (And.intro f1 (And.intro rfl (And.intro (by (first | (clear hm hnf; omega) | omega)) (And.intro (by (first | (clear hm hnf; omega) | omega)) (And.intro (by (first | (clear hm hnf; omega) | omega)) (And.intro (by (first | (clear hm hnf; omega) | omega)) (And.intro (by (first | (clear hm hnf; omega) | omega)) (And.intro (by (first | (clear hm hnf; omega) | omega)) (And.intro (by (first | (clear hm hnf; omega) | omega)) (And.intro (by (first | (clear hm hnf; omega) | omega)) (And.intro (by first | assumption | (rw [show B 0 (fd 63) = _ by assumption]; exact hE)) (And.intro (by (first | (clear hm hnf; omega) | omega)) (Exists.intro ng (And.intro (by first | exact qtm hm hnf (by (try clear hm hnf); omega) | omega) hT))))))))))))))))))
          · replace hT := (if_pos h69).symm.trans hT
            refine And.intro (by (first | (clear hm hnf; omega) | omega)) (fun v83 gv83 e84 => ?_)
            replace hT := qlc e84 hT
            have b85 := iva_at i1 21 rfl (i := g) (by (first | (clear hm hnf; omega) | omega)) (by (first | (clear hm hnf; omega) | omega))
            exact hK _ i1 j1 f1 _ (by first | assumption | exact ⟨by (first | (clear hm hnf; omega) | omega), by (first | (clear hm hnf; omega) | omega)⟩ | exact wI_rng _ | exact i_rng _ | (subst_vars; exact i_rng _) | exact (hA _ _).2 rfl) (congrArg Prod.fst hT) (congrArg Prod.snd hT)
        · replace hT := (if_pos h68).symm.trans hT
          refine And.intro (fun h86 => ?_) (fun h86 => ?_)
          · replace hT := (if_neg h86).symm.trans hT
            refine And.intro (by (first | (clear hm hnf; omega) | omega)) (fun v87 gv87 e88 => ?_)
            replace hT := qlc e88 hT
            have b89 := iva_at i1 21 rfl (i := g) (by (first | (clear hm hnf; omega) | omega)) (by (first | (clear hm hnf; omega) | omega))
            refine fun v90 e91 => ?_
            replace hT := qlc e91 hT
            have h92 := sl_bd (b := g) 7 (by decide) (by (first | (clear hm hnf; omega) | omega)) (by (first | (clear hm hnf; omega) | omega))
            obtain ⟨u9, hu9⟩ : ∃ u, u = v90 := ⟨_, rfl⟩
            have hu8 : u9 = sl 1 g := by rw [hu9]; assumption
            refine fun v93 e94 => ?_
            replace hT := qlc e94 hT
            have hw9 : v93 = ix u9 (-1) := by rw [hu9]; assumption
            refine fun v95 e96 => ?_
            replace hT := qlc e96 hT
            have h97 := ia_bd (a := v93) (b := l) (by (first | (clear hm hnf; omega) | omega)) (by (first | (clear hm hnf; omega) | omega))
            rw [ia_comm] at h97
            have hk1 := k1 hu8 hw9 (by assumption : v95 = ia l _) (by (first | (clear hm hnf; omega) | omega)) (by (first | (clear hm hnf; omega) | omega)) (by (first | (clear hm hnf; omega) | omega)) (by (first | (clear hm hnf; omega) | omega)) (by (first | (clear hm hnf; omega) | omega))
            refine fun v98 e99 => ?_
            replace hT := qlc e99 hT
            exact And.intro (by (first | (clear hm hnf; omega) | omega)) (Exists.intro ((8 - v98) * 100 + 90 : Int).toNat (And.intro (by first | exact qtn hm (by (try clear hm hnf); omega) | omega) (And.intro i1 (And.intro j1 (And.intro f1 (And.intro rfl (And.intro (by (first | (clear hm hnf; omega) | omega)) (And.intro (by (first | (clear hm hnf; omega) | omega)) (And.intro (by (first | (clear hm hnf; omega) | omega)) (And.intro (by (first | (clear hm hnf; omega) | omega)) (And.intro (by (first | (clear hm hnf; omega) | omega)) (And.intro (by (first | (clear hm hnf; omega) | omega)) (And.intro (by (first | (clear hm hnf; omega) | omega)) (And.intro (by (first | (clear hm hnf; omega) | omega)) (And.intro (by first | assumption | (rw [show B 0 (fd 63) = _ by assumption]; exact hE)) (And.intro (by (first | (clear hm hnf; omega) | omega)) (Exists.intro ng (And.intro (by first | exact qtm hm hnf (by (try clear hm hnf); omega) | omega) hT))))))))))))))))))
          · replace hT := (if_pos h86).symm.trans hT
            refine And.intro (by (first | (clear hm hnf; omega) | omega)) (fun v100 gv100 e101 => ?_)
            replace hT := qlc e101 hT
            have b102 := iva_at i1 21 rfl (i := g) (by (first | (clear hm hnf; omega) | omega)) (by (first | (clear hm hnf; omega) | omega))
            exact hK _ i1 j1 f1 _ (by first | assumption | exact ⟨by (first | (clear hm hnf; omega) | omega), by (first | (clear hm hnf; omega) | omega)⟩ | exact wI_rng _ | exact i_rng _ | (subst_vars; exact i_rng _) | exact (hA _ _).2 rfl) (congrArg Prod.fst hT) (congrArg Prod.snd hT)
      · replace hT := (if_pos h67).symm.trans hT
        refine fun v103 e104 => ?_
        replace hT := qlc e104 hT
        have h105 := sr_bd (a := l) (b := b) (by (first | (clear hm hnf; omega) | omega)) (by (first | (clear hm hnf; omega) | omega))
        refine fun v106 e107 => ?_
        replace hT := qlc e107 hT
        have h108 := ia_bd (a := v103) (b := 1) (by (first | (clear hm hnf; omega) | omega)) (by (first | (clear hm hnf; omega) | omega))
        have hbt : ia (sr l b) 1 = v106 := by subst_vars; rfl
        have hbc : bc l (b + 1) = bc l b + ia (sr l b) 1 := bc_s (by (first | (clear hm hnf; omega) | omega))
        refine And.intro (fun h109 => ?_) (fun h109 => ?_)
        · replace hT := (if_neg h109).symm.trans hT
          refine And.intro (by (first | (clear hm hnf; omega) | omega)) (fun v110 gv110 e111 => ?_)
          replace hT := qlc e111 hT
          have b112 := iva_at i1 21 rfl (i := b) (by (first | (clear hm hnf; omega) | omega)) (by (first | (clear hm hnf; omega) | omega))
          refine Exists.intro f (Exists.intro v110 (And.intro rfl (And.intro (And.intro (by (first | (clear hm hnf; omega) | omega)) (And.intro (by (first | (clear hm hnf; omega) | omega)) (And.intro (by (first | (clear hm hnf; omega) | omega)) (by (first | (clear hm hnf; omega) | omega))))) (fun r113 g115 g116 g114 => ?_))))
          replace hT := qlc g114 hT
          clear g114
          refine fun v117 e118 => ?_
          replace hT := qlc e118 hT
          have h119 := sl_bd (b := b) 7 (by decide) (by (first | (clear hm hnf; omega) | omega)) (by (first | (clear hm hnf; omega) | omega))
          obtain ⟨u9, hu9⟩ : ∃ u, u = v117 := ⟨_, rfl⟩
          have hu8 : u9 = sl 1 b := by rw [hu9]; assumption
          refine fun v120 e121 => ?_
          replace hT := qlc e121 hT
          have hw9 : v120 = ix u9 (-1) := by rw [hu9]; assumption
          refine fun v122 e123 => ?_
          replace hT := qlc e123 hT
          have h124 := ia_bd (a := v120) (b := l) (by (first | (clear hm hnf; omega) | omega)) (by (first | (clear hm hnf; omega) | omega))
          rw [ia_comm] at h124
          have hk1 := k1 hu8 hw9 (by assumption : v122 = ia l _) (by (first | (clear hm hnf; omega) | omega)) (by (first | (clear hm hnf; omega) | omega)) (by (first | (clear hm hnf; omega) | omega)) (by (first | (clear hm hnf; omega) | omega)) (by (first | (clear hm hnf; omega) | omega))
          obtain ⟨v9, hv9⟩ : ∃ v, v = v122 := ⟨_, rfl⟩
          refine fun v125 e126 => ?_
          replace hT := qlc e126 hT
          refine fun v127 e128 => ?_
          replace hT := qlc e128 hT
          have hr9 := HB_at (x := v9) (a := b) (j := v127) (by assumption : HB B (sl 1 (B 0 (fd 63)))) (by (first | (clear hm hnf; omega) | omega)) (by (first | (clear hm hnf; omega) | omega)) (by (first | (clear hm hnf; omega) | omega)) (by (first | (clear hm hnf; omega) | omega)) (by (first | (clear hm hnf; omega) | omega))
          refine And.intro (by (first | (clear hm hnf; omega) | omega)) (fun v129 gv129 e130 => ?_)
          replace hT := qlc e130 hT
          refine fun v131 e132 => ?_
          replace hT := qlc e132 hT
          refine And.intro (by (first | (clear hm hnf; omega) | omega)) (And.intro (fun h133 => ?_) (fun h133 => ?_))
          · replace hT := (if_pos h133).symm.trans hT
            refine fun v134 e135 => ?_
            replace hT := qlc e135 hT
            exact And.intro (by (first | (clear hm hnf; omega) | omega)) (And.intro (by (first | (clear hm hnf; omega) | omega)) (Exists.intro ((8 - p) * 100 + 80 - v134 : Int).toNat (And.intro (by first | exact qtn hm (by (try clear hm hnf); omega) | omega) (And.intro i1 (And.intro j1 (And.intro f1 (And.intro rfl (And.intro (by (first | (clear hm hnf; omega) | omega)) (And.intro (by (first | (clear hm hnf; omega) | omega)) (And.intro (by (first | (clear hm hnf; omega) | omega)) (And.intro (by (first | (clear hm hnf; omega) | omega)) (And.intro (by (first | (clear hm hnf; omega) | omega)) (And.intro (by (first | (clear hm hnf; omega) | omega)) (And.intro (by (first | (clear hm hnf; omega) | omega)) (And.intro (by (first | (clear hm hnf; omega) | omega)) (And.intro (by first | assumption | (rw [show B 0 (fd 63) = _ by assumption]; exact hE)) (And.intro (by (first | (clear hm hnf; omega) | omega)) (And.intro (by (first | (clear hm hnf; omega) | omega)) (And.intro (by (first | (clear hm hnf; omega) | omega)) (And.intro (by (first | (clear hm hnf; omega) | omega)) (And.intro (by (first | (clear hm hnf; omega) | omega)) (And.intro (by (first | (clear hm hnf; omega) | omega)) (And.intro (by (first | (clear hm hnf; omega) | omega)) (And.intro (by first | omega | (have q := bc_0 l; omega) | (rw [show v134 = b + 1 by (first | (clear hm hnf; omega) | omega)]; omega)) (And.intro (by first | omega | assumption | (intro _; omega)) (Exists.intro ng (And.intro (by first | exact qtm hm hnf (by (try clear hm hnf); omega) | omega) hT)))))))))))))))))))))))))))
          · replace hT := (if_neg (Int.not_lt.mpr h133)).symm.trans hT
            refine fun v136 e137 => ?_
            replace hT := qlc e137 hT
            exact And.intro (by (first | (clear hm hnf; omega) | omega)) (Exists.intro ((8 - p) * 100 + 80 - v136 : Int).toNat (And.intro (by first | exact qtn hm (by (try clear hm hnf); omega) | omega) (And.intro i1 (And.intro j1 (And.intro f1 (And.intro rfl (And.intro (by (first | (clear hm hnf; omega) | omega)) (And.intro (by (first | (clear hm hnf; omega) | omega)) (And.intro (by (first | (clear hm hnf; omega) | omega)) (And.intro (by (first | (clear hm hnf; omega) | omega)) (And.intro (by (first | (clear hm hnf; omega) | omega)) (And.intro (by (first | (clear hm hnf; omega) | omega)) (And.intro (by (first | (clear hm hnf; omega) | omega)) (And.intro (by (first | (clear hm hnf; omega) | omega)) (And.intro (by first | assumption | (rw [show B 0 (fd 63) = _ by assumption]; exact hE)) (And.intro (by (first | (clear hm hnf; omega) | omega)) (And.intro (by (first | (clear hm hnf; omega) | omega)) (And.intro (by (first | (clear hm hnf; omega) | omega)) (And.intro (by (first | (clear hm hnf; omega) | omega)) (And.intro (by (first | (clear hm hnf; omega) | omega)) (And.intro (by (first | (clear hm hnf; omega) | omega)) (And.intro (by (first | (clear hm hnf; omega) | omega)) (And.intro (by first | omega | (have q := bc_0 l; omega) | (rw [show v136 = b + 1 by (first | (clear hm hnf; omega) | omega)]; omega)) (And.intro (by first | omega | assumption | (intro _; omega)) (Exists.intro ng (And.intro (by first | exact qtm hm hnf (by (try clear hm hnf); omega) | omega) hT))))))))))))))))))))))))))
        · replace hT := (if_pos h109).symm.trans hT
          refine fun v138 e139 => ?_
          replace hT := qlc e139 hT
          exact And.intro (by (first | (clear hm hnf; omega) | omega)) (Exists.intro ((8 - p) * 100 + 80 - v138 : Int).toNat (And.intro (by first | exact qtn hm (by (try clear hm hnf); omega) | omega) (And.intro i1 (And.intro j1 (And.intro f1 (And.intro rfl (And.intro (by (first | (clear hm hnf; omega) | omega)) (And.intro (by (first | (clear hm hnf; omega) | omega)) (And.intro (by (first | (clear hm hnf; omega) | omega)) (And.intro (by (first | (clear hm hnf; omega) | omega)) (And.intro (by (first | (clear hm hnf; omega) | omega)) (And.intro (by (first | (clear hm hnf; omega) | omega)) (And.intro (by (first | (clear hm hnf; omega) | omega)) (And.intro (by (first | (clear hm hnf; omega) | omega)) (And.intro (by first | assumption | (rw [show B 0 (fd 63) = _ by assumption]; exact hE)) (And.intro (by (first | (clear hm hnf; omega) | omega)) (And.intro (by (first | (clear hm hnf; omega) | omega)) (And.intro (by (first | (clear hm hnf; omega) | omega)) (And.intro (by (first | (clear hm hnf; omega) | omega)) (And.intro (by (first | (clear hm hnf; omega) | omega)) (And.intro (by (first | (clear hm hnf; omega) | omega)) (And.intro (by (first | (clear hm hnf; omega) | omega)) (And.intro (by first | omega | (have q := bc_0 l; omega) | (rw [show v138 = b + 1 by (first | (clear hm hnf; omega) | omega)]; omega)) (And.intro (by first | omega | assumption | (intro _; omega)) (Exists.intro ng (And.intro (by first | exact qtm hm hnf (by (try clear hm hnf); omega) | omega) hT))))))))))))))))))))))))))
  · refine Exists.intro w (Exists.intro 1 (Exists.intro 99 (And.intro rfl (And.intro (fun h1 => ?_) (fun h1 => ?_)))))
    · replace hT := (if_pos h1).symm.trans hT
      refine And.intro (fun h2 => by exfalso; omega) (fun h2 => ?_)
      refine Exists.intro c (Exists.intro 0 (Exists.intro 7 (And.intro rfl (And.intro (fun h3 => ?_) (fun h3 => ?_)))))
      · replace hT := (if_pos h3).symm.trans hT
        refine And.intro (fun h4 => by exfalso; omega) (fun h4 => ?_)
        refine Exists.intro x (Exists.intro 8 (And.intro rfl (And.intro (And.intro i0 (And.intro j0 (And.intro (by (first | (clear hm hnf; omega) | omega)) (by (first | (clear hm hnf; omega) | omega))))) (fun A5 i6 j7 f8 r9 g13 g14 g10 g11 g12 => ?_))))
        replace hT := qlpc g11 g12 hT
        clear g11 g12
        have f15 := frm_c f0 f8 rfl
        have t16 := ivf_at j7 2 rfl
        refine And.intro (fun h17 => ?_) (fun h17 => ?_)
        · replace hT := (if_pos h17).symm.trans hT
          exact hK _ i6 j7 f15 _ (by first | assumption | exact ⟨by (first | (clear hm hnf; omega) | omega), by (first | (clear hm hnf; omega) | omega)⟩ | exact wI_rng _ | exact i_rng _ | (subst_vars; exact i_rng _) | exact (hA _ _).2 rfl) (congrArg Prod.fst hT) (congrArg Prod.snd hT)
        · replace hT := (if_neg h17).symm.trans hT
          refine fun v18 gv18 e19 => ?_
          replace hT := qlc e19 hT
          have b20 := ivf_at j7 2 rfl
          refine fun v21 e22 => ?_
          replace hT := qlc e22 hT
          refine And.intro (by (first | (clear hm hnf; omega) | omega)) (Exists.intro h (Exists.intro (-1) (Exists.intro v21 (And.intro rfl (And.intro (fun h23 => ?_) (fun h23 => ?_))))))
          · replace hT := (if_pos h23).symm.trans hT
            refine And.intro (fun h24 => ?_) (fun h24 => by exfalso; omega)
            exact Exists.intro (10000 - 0 : Int).toNat (And.intro i6 (And.intro j7 (And.intro f15 (And.intro rfl (And.intro (by (first | (clear hm hnf; omega) | omega)) (And.intro (by (first | (clear hm hnf; omega) | omega)) (And.intro (by (first | (clear hm hnf; omega) | omega)) (And.intro (by (first | (clear hm hnf; omega) | omega)) (And.intro (by (first | (clear hm hnf; omega) | omega)) (And.intro (by (first | (clear hm hnf; omega) | omega)) (And.intro (by (first | (clear hm hnf; omega) | omega)) (And.intro (by (first | (clear hm hnf; omega) | omega)) (And.intro (by (first | (clear hm hnf; omega) | omega)) (Exists.intro 100000 (And.intro (by (first | (clear hm hnf; omega) | omega)) hT)))))))))))))))
          · replace hT := (if_neg h23).symm.trans hT
            refine And.intro (fun h25 => by exfalso; omega) (fun h25 => ?_)
            exact hK _ i6 j7 f15 _ (by first | assumption | exact ⟨by (first | (clear hm hnf; omega) | omega), by (first | (clear hm hnf; omega) | omega)⟩ | exact wI_rng _ | exact i_rng _ | (subst_vars; exact i_rng _) | exact (hA _ _).2 rfl) (congrArg Prod.fst hT) (congrArg Prod.snd hT)
      · replace hT := (if_neg h3).symm.trans hT
        refine And.intro (fun h26 => ?_) (fun h26 => by exfalso; omega)
        exact hK _ i0 j0 f0 _ (by first | assumption | exact ⟨by (first | (clear hm hnf; omega) | omega), by (first | (clear hm hnf; omega) | omega)⟩ | exact wI_rng _ | exact i_rng _ | (subst_vars; exact i_rng _) | exact (hA _ _).2 rfl) (congrArg Prod.fst hT) (congrArg Prod.snd hT)
    · replace hT := (if_neg h1).symm.trans hT
      refine And.intro (fun h27 => ?_) (fun h27 => by exfalso; omega)
      exact hK _ i0 j0 f0 _ (by first | assumption | exact ⟨by (first | (clear hm hnf; omega) | omega), by (first | (clear hm hnf; omega) | omega)⟩ | exact wI_rng _ | exact i_rng _ | (subst_vars; exact i_rng _) | exact (hA _ _).2 rfl) (congrArg Prod.fst hT) (congrArg Prod.snd hT)
theorem pM_work {w c x h : Int} {A : qA} (hA : qokA LM A) (rg_w : rng w) (rg_c : rng c) (rg_x : rngL x) (rg_h : rng h) (p0 : iva IM A) (p1 : ivf JM A) : qokA LM (fM_work w c x h A).2 ∧ iva IM (fM_work w c x h A).2 ∧ ivf JM (fM_work w c x h A).2 ∧ frm [50, 53] [(0, 63)] A (fM_work w c x h A).2 ∧ rng (fM_work w c x h A).1 := by
  obtain ⟨r, B, hB, _, hk⟩ := okM_ex okM_work (as := [rf 0, ni w, ni c, nl x, ni h]) (K := fun _ B => B = (fM_work w c x h A).2 ∧ iva IM (fM_work w c x h A).2 ∧ ivf JM (fM_work w c x h A).2 ∧ frm [50, 53] [(0, 63)] A (fM_work w c x h A).2 ∧ rng (fM_work w c x h A).1) hA (qoks_c (show qok (rf _) from trivial) (qoks_c (rg_w) (qoks_c (rg_c) (qoks_c (rg_x) (qoks_c (rg_h) qoks_n))))) ⟨w, c, x, h, rfl, ⟨p0, p1⟩, fun A9 i9 j9 f9 r9 g9 x0 x1 => (by rw [← x1]; (try rw [← x0]); exact ⟨rfl, i9, j9, f9, g9⟩)⟩
  exact ⟨hk.1 ▸ hB, hk.2⟩
