/-- how many of the first bits are set -/
def bcN (x : Int) : Nat → Int
  | 0 => 0
  | n + 1 => bcN x n + ia (sr x n) 1
def bc (x k : Int) : Int := bcN x k.toNat
theorem bc_0 (x : Int) : bc x 0 = 0 := rfl
theorem bc_s {x k : Int} (h : 0 ≤ k) : bc x (k + 1) = bc x k + ia (sr x k) 1 := by
  obtain ⟨n, rfl⟩ := Int.eq_ofNat_of_zero_le h
  have e : ((n : Int) + 1).toNat = n + 1 := by (first | (clear hm hnf; omega) | omega)
  have e2 : ((n : Nat) : Int).toNat = n := by (first | (clear hm hnf; omega) | omega)
  unfold bc
  rw [e, e2]
  rfl
theorem bc_mN (x : Int) (n : Nat) : ∀ m, bcN x n ≤ bcN x (n + m)
  | 0 => Int.le_refl _
  | m + 1 => by
    have h1 := bc_mN x n m
    have h2 := ia_bd (a := sr x ((n + m : Nat) : Int)) (b := 1) ⟨by decide, by decide⟩ (by decide)
    show bcN x n ≤ bcN x (n + m) + ia (sr x ((n + m : Nat) : Int)) 1
    omega
theorem bc_m {x j k : Int} (h0 : 0 ≤ j) (h : j ≤ k) : bc x j ≤ bc x k := by
  have := bc_mN x j.toNat (k.toNat - j.toNat)
  rw [show j.toNat + (k.toNat - j.toNat) = k.toNat by (first | (clear hm hnf; omega) | omega)] at this
  exact this
def fM_bits2_c4 (rec : Nat → List Int → qA → Int) (l0 s k : Int) (A : qA) : Int := (if k < 8 then qlet (sr l0 k) fun v4 => qlet (ia v4 1) fun v7 => qlet (s + v7) fun v10 => qlet (k + 1) fun v12 => rec 4 [l0, v10, v12] A else s)
def fM_bits2_L : Nat → Nat → List Int → qA → Int
  | 0 => fun _ _ B => 0
  | nF + 1 => fun k zs B => bif Nat.beq k 4 then (match zs with | [l0, s, k] => fM_bits2_c4 (fM_bits2_L nF) l0 s k B | _ => 0) else 0
theorem fM_bits2_L4 (nF : Nat) (l0 s k : Int) (B : qA) : fM_bits2_L (nF + 1) 4 [l0, s, k] B = fM_bits2_c4 (fM_bits2_L nF) l0 s k B := (congrFun (congrFun (congrFun (fM_bits2_L.eq_2 nF) 4) [l0, s, k]) B).trans (qL1 rfl rfl)
def fM_bits2 (x : Int) (A : qA) : Int := (fM_bits2_L 100000) 4 [x, 0, 0] A
def sM_bits2 : qS := fun as A K => ∃ x : Int, as = [ni x] ∧ (1 ≤ x ∧ x ≤ 255) ∧ (∀ r : Int, 0 ≤ r → r ≤ 8 → (r = bc x 8) → (r = fM_bits2 x A) → K (some (ni r)) A)
theorem okM_bits2 : okM LM 1 236 sM_bits2 := by
  refine qmeth [] false [] 25 rfl trivial ?_
  rintro _ A K hA has ⟨x, rfl, ⟨p1, p2⟩, hK⟩
  have rg_x : rng x := has (ni x) (by simp)
  have hT : _ = fM_bits2 x A := (fM_bits2.eq_1 x A).symm
  refine ⟨Nat.le_of_ble_eq_true rfl, [(4, [(0, 0, 0), (1, 0, 0), (2, 0, 0)], fun zs B nn => match zs with | [l0, s, k] => A = B ∧ nn = (8 - k : Int).toNat ∧ (l0 = x) ∧ (0 ≤ k) ∧ (k ≤ 8) ∧ (0 ≤ s) ∧ (s ≤ k) ∧ (s = bc x k) ∧ (∃ nf : Nat, nn < nf ∧ fM_bits2_L nf 4 [l0, s, k] B = fM_bits2 x A) | _ => False)], ?_, ?_⟩
  · refine ⟨⟨rfl, ?_⟩, trivial⟩
    · refine fun l0 s k B mm hB hz hI => ?_
      obtain ⟨rfl, hm, c0, c1, c2, c3, c4, c5, ⟨nf, hnf, hT⟩⟩ := hI
      obtain ⟨hz_l0, hz_s, hz_k, _⟩ := hz
      obtain ⟨ng, rfl⟩ : ∃ k, nf = k + 1 := ⟨nf - 1, by omega⟩
      replace hT := (fM_bits2_c4.eq_1 (fM_bits2_L ng) l0 s k A).symm.trans ((fM_bits2_L4 ng l0 s k A).symm.trans hT)
      refine And.intro (fun h3 => ?_) (fun h3 => ?_)
      · replace hT := (if_neg (Int.not_lt.mpr h3)).symm.trans hT
        exact hK _ (by (first | (clear hm hnf; omega) | omega)) (by (first | (clear hm hnf; omega) | omega)) (by (have q9 : k = 8 := by (first | (clear hm hnf; omega) | omega)); subst q9; assumption) hT
      · replace hT := (if_pos h3).symm.trans hT
        refine fun v4 e5 => ?_
        replace hT := qlc e5 hT
        have h6 := sr_bd (a := l0) (b := k) (by (first | (clear hm hnf; omega) | omega)) (by (first | (clear hm hnf; omega) | omega))
        refine fun v7 e8 => ?_
        replace hT := qlc e8 hT
        have h9 := ia_bd (a := v4) (b := 1) (by (first | (clear hm hnf; omega) | omega)) (by (first | (clear hm hnf; omega) | omega))
        refine fun v10 e11 => ?_
        replace hT := qlc e11 hT
        refine fun v12 e13 => ?_
        replace hT := qlc e13 hT
        exact And.intro (by (first | (clear hm hnf; omega) | omega)) (And.intro (by (first | (clear hm hnf; omega) | omega)) (Exists.intro (8 - v12 : Int).toNat (And.intro (by first | exact qtn hm (by (try clear hm hnf); omega) | omega) (And.intro rfl (And.intro rfl (And.intro (by (first | (clear hm hnf; omega) | omega)) (And.intro (by (first | (clear hm hnf; omega) | omega)) (And.intro (by (first | (clear hm hnf; omega) | omega)) (And.intro (by (first | (clear hm hnf; omega) | omega)) (And.intro (by (first | (clear hm hnf; omega) | omega)) (And.intro (by first | exact (bc_0 _).symm | (subst_vars; exact (bc_s (by (first | (clear hm hnf; omega) | omega))).symm)) (Exists.intro ng (And.intro (by first | exact qtm hm hnf (by (try clear hm hnf); omega) | omega) hT)))))))))))))
  · exact Exists.intro (8 - 0 : Int).toNat (And.intro rfl (And.intro rfl (And.intro (by (first | (clear hm hnf; omega) | omega)) (And.intro (by (first | (clear hm hnf; omega) | omega)) (And.intro (by (first | (clear hm hnf; omega) | omega)) (And.intro (by (first | (clear hm hnf; omega) | omega)) (And.intro (by (first | (clear hm hnf; omega) | omega)) (And.intro (by first | exact (bc_0 _).symm | (subst_vars; exact (bc_s (by (first | (clear hm hnf; omega) | omega))).symm)) (Exists.intro 100000 (And.intro (by (first | (clear hm hnf; omega) | omega)) hT))))))))))
theorem pM_bits2 {x : Int} {A : qA} (hA : qokA LM A) (p0 : 1 ≤ x) (p1 : x ≤ 255) : (0 ≤ (fM_bits2 x A) ∧ (fM_bits2 x A) ≤ 8) ∧ ((fM_bits2 x A) = bc x 8) := by
  obtain ⟨r, B, hB, _, hk⟩ := okM_ex okM_bits2 (as := [ni x]) (K := fun _ B => B = A ∧ (0 ≤ (fM_bits2 x A) ∧ (fM_bits2 x A) ≤ 8) ∧ ((fM_bits2 x A) = bc x 8)) hA (qoks_c (show rng x from ⟨by (first | (clear hm hnf; omega) | omega), by (first | (clear hm hnf; omega) | omega)⟩) qoks_n) ⟨x, rfl, ⟨p0, p1⟩, fun r9 g8 g9 x0 x1 => (by rw [← x1]; exact ⟨rfl, ⟨g8, g9⟩, x0⟩)⟩
  exact hk.2
def fM_planted_c22 (rec : Nat → List Int → qA → Int × qA) (l3 y q : Int) (B : qA) : Int × qA := qlet (B 0 (fd 63)) fun v25 => (if q < v25 then qlet (B 50 q) fun v29 => qlet (B 1 v29) fun v32 => (if v32 = 0 then ((-3), B) else qlet (B 50 q) fun v36 => qlet (B 7 v29) fun v40 => (if v40 = (-1) then qlet (7 * y) fun v44 => qlet (q + 1) fun v46 => rec 22 [l3, ((wI v44)), ((wI v46))] B else ((-3), B))) else rec 55 [l3, y, (-1), 0] B)
def fM_planted_c55 (rec : Nat → List Int → qA → Int × qA) (l3 y b k : Int) (B : qA) : Int × qA := (if k < y then qlet (B 0 (fd 63)) fun v54 => qlet (v54 - 1) fun v57 => rec 67 [l3, y, b, k, k, 0, ((wI v57))] B else (if b = (-1) then ((-2), B) else rec 150 [l3, b, 0] B))
def fM_planted_c150 (rec : Nat → List Int → qA → Int × qA) (l3 b q : Int) (B : qA) : Int × qA := qlet (B 0 (fd 63)) fun v61 => (if q < v61 then (if l3 = 10 then qlet (B 50 q) fun v76 => qlet (B 52 q) fun v79 => qlet (qu B 7 v76 v79) fun A82 => qlet (q + 1) fun v88 => rec 150 [l3, b, ((wI v88))] A82 else (if l3 = (-1) then (b, B) else (if l3 = 10 then (b, B) else qlet (B 52 l3) fun v73 => (v73, B)))) else (if l3 = (-1) then (b, B) else (if l3 = 10 then (b, B) else qlet (B 52 l3) fun v67 => (v67, B))))
def fM_planted_c67 (rec : Nat → List Int → qA → Int × qA) (l3 y b k e s q : Int) (B : qA) : Int × qA := (if q < 0 then (if b = (-1) then qlet (fM_areWhole B) fun r94 => (if r94 = 0 then qlet (k + 1) fun v99 => rec 55 [l3, y, b, ((wI v99))] B else qlp (fM_bearsAll B) fun r107 A103 => (if r107 = 0 then qlet (k + 1) fun v115 => rec 55 [l3, y, b, ((wI v115))] A103 else rec 127 [l3, y, s, k, 0] A103)) else (if b < s then qlet (fM_areWhole B) fun r124 => (if r124 = 0 then qlet (k + 1) fun v129 => rec 55 [l3, y, b, ((wI v129))] B else qlp (fM_bearsAll B) fun r137 A133 => (if r137 = 0 then qlet (k + 1) fun v145 => rec 55 [l3, y, b, ((wI v145))] A133 else rec 127 [l3, y, s, k, 0] A133)) else qlet (k + 1) fun v120 => rec 55 [l3, y, b, ((wI v120))] B)) else qlet (qm e 7) fun v149 => qlet (v149 - 1) fun v152 => qlet (qu B 51 q (wI v152)) fun A154 => qlet (qd e 7) fun v162 => qlet (A154 51 q) fun v165 => (if (wI v152) = (-1) then qlet (s + 0) fun v196 => qlet (q + (-1)) fun v198 => rec 67 [l3, y, b, k, ((wI v162)), ((wI v196)), ((wI v198))] A154 else qlet (A154 51 q) fun v170 => qlet (A154 13 (wI v152)) fun v174 => qlet (A154 51 q) fun v177 => qlet (A154 12 (wI v152)) fun v181 => qlet (v174 * v181) fun v184 => qlet (s + v184) fun v187 => qlet (q + (-1)) fun v189 => rec 67 [l3, y, b, k, ((wI v162)), ((wI v187)), ((wI v189))] A154))
def fM_planted_c127 (rec : Nat → List Int → qA → Int × qA) (l3 y b k q : Int) (B : qA) : Int × qA := qlet (B 0 (fd 63)) fun v206 => (if q < v206 then qlet (B 51 q) fun v214 => qlet (qu B 52 q v214) fun A217 => qlet (q + 1) fun v223 => rec 127 [l3, y, b, k, ((wI v223))] A217 else qlet (k + 1) fun v210 => rec 55 [l3, y, b, ((wI v210))] B)
def fM_planted_L : Nat → Nat → List Int → qA → Int × qA
  | 0 => fun _ _ B => (0, B)
  | nF + 1 => fun k zs B => bif Nat.beq k 22 then (match zs with | [l3, y, q] => fM_planted_c22 (fM_planted_L nF) l3 y q B | _ => (0, B)) else bif Nat.beq k 55 then (match zs with | [l3, y, b, k] => fM_planted_c55 (fM_planted_L nF) l3 y b k B | _ => (0, B)) else bif Nat.beq k 150 then (match zs with | [l3, b, q] => fM_planted_c150 (fM_planted_L nF) l3 b q B | _ => (0, B)) else bif Nat.beq k 67 then (match zs with | [l3, y, b, k, e, s, q] => fM_planted_c67 (fM_planted_L nF) l3 y b k e s q B | _ => (0, B)) else bif Nat.beq k 127 then (match zs with | [l3, y, b, k, q] => fM_planted_c127 (fM_planted_L nF) l3 y b k q B | _ => (0, B)) else (0, B)
theorem fM_planted_L22 (nF : Nat) (l3 y q : Int) (B : qA) : fM_planted_L (nF + 1) 22 [l3, y, q] B = fM_planted_c22 (fM_planted_L nF) l3 y q B := (congrFun (congrFun (congrFun (fM_planted_L.eq_2 nF) 22) [l3, y, q]) B).trans (qL1 rfl rfl)
theorem fM_planted_L55 (nF : Nat) (l3 y b k : Int) (B : qA) : fM_planted_L (nF + 1) 55 [l3, y, b, k] B = fM_planted_c55 (fM_planted_L nF) l3 y b k B := (congrFun (congrFun (congrFun (fM_planted_L.eq_2 nF) 55) [l3, y, b, k]) B).trans (qL0 rfl (qL1 rfl rfl))
theorem fM_planted_L150 (nF : Nat) (l3 b q : Int) (B : qA) : fM_planted_L (nF + 1) 150 [l3, b, q] B = fM_planted_c150 (fM_planted_L nF) l3 b q B := (congrFun (congrFun (congrFun (fM_planted_L.eq_2 nF) 150) [l3, b, q]) B).trans (qL0 rfl (qL0 rfl (qL1 rfl rfl)))
theorem fM_planted_L67 (nF : Nat) (l3 y b k e s q : Int) (B : qA) : fM_planted_L (nF + 1) 67 [l3, y, b, k, e, s, q] B = fM_planted_c67 (fM_planted_L nF) l3 y b k e s q B := (congrFun (congrFun (congrFun (fM_planted_L.eq_2 nF) 67) [l3, y, b, k, e, s, q]) B).trans (qL0 rfl (qL0 rfl (qL0 rfl (qL1 rfl rfl))))
theorem fM_planted_L127 (nF : Nat) (l3 y b k q : Int) (B : qA) : fM_planted_L (nF + 1) 127 [l3, y, b, k, q] B = fM_planted_c127 (fM_planted_L nF) l3 y b k q B := (congrFun (congrFun (congrFun (fM_planted_L.eq_2 nF) 127) [l3, y, b, k, q]) B).trans (qL0 rfl (qL0 rfl (qL0 rfl (qL0 rfl (qL1 rfl rfl)))))
def fM_planted (x w : Int) (A : qA) : Int × qA := qlp (fM_lays x 5 A) fun r5 A1 => (if r5 = 0 then ((-3), A1) else (if w = 10 then (fM_planted_L 100000000) 22 [w, 1, 0] A1 else qlet (A1 0 (fd 63)) fun v15 => qlet (v15 - 1) fun v18 => (if (-1) ≤ w ∧ w ≤ (wI v18) then (fM_planted_L 100000000) 22 [w, 1, 0] A1 else ((-3), A1))))
def sM_planted : qS := fun as A K => ∃ x w : Int, as = [rf 0, nl x, ni w] ∧ (iva IM A ∧ ivf JM A) ∧ (∀ A' : qA, iva IM A' → ivf JM A' → frm [50, 51, 52, 58, 7] [(0, 63)] A A' → ∀ r : Int, rng r → (r = (fM_planted x w A).1) → (A' = (fM_planted x w A).2) → K (some (ni r)) A')
theorem okM_planted : okM LM 3 233 sM_planted := by
  refine qmeth [] true [(217, sM_lays), (145, sM_in), (232, sM_areWhole), (231, sM_bearsAll)] 189 rfl ⟨okM_lays.le (by decide), ⟨okM_in.le (by decide), ⟨okM_areWhole.le (by decide), ⟨okM_bearsAll.le (by decide), trivial⟩⟩⟩⟩ ?_
  rintro _ A K hA has ⟨x, w, rfl, ⟨i0, j0⟩, hK⟩
  have rg_x : rngL x := has (nl x) (by simp)
  have rg_w : rng w := has (ni w) (by simp)
  have f0 := frm_0 [50, 51, 52, 58, 7] [(0, 63)] A
  have hb_0_63 := ivf_at j0 2 rfl
  have hT : _ = fM_planted x w A := (fM_planted.eq_1 x w A).symm
  refine ⟨Nat.le_of_ble_eq_true rfl, [(22, [(0, 2, 0), (3, 0, 0), (4, 0, 0), (5, 0, 0)], fun zs B nn => match zs with | [l3, y, q] => iva IM B ∧ ivf JM B ∧ frm [50, 51, 52, 58, 7] [(0, 63)] A B ∧ nn = (90000000 - q : Int).toNat ∧ (l3 = w) ∧ (0 ≤ q) ∧ (q ≤ 5) ∧ (1 ≤ y) ∧ (y ≤ 16807) ∧ (w = 10 ∨ ((-1) ≤ w ∧ w ≤ 4)) ∧ (B 0 (fd 63) ≤ 5) ∧ (q = 0 → y = 1) ∧ (q = 1 → y = 7) ∧ (q = 2 → y = 49) ∧ (q = 3 → y = 343) ∧ (q = 4 → y = 2401) ∧ (q = 5 → y = 16807) ∧ (∃ nf : Nat, nn < nf ∧ fM_planted_L nf 22 [l3, y, q] B = fM_planted x w A) | _ => False), (55, [(0, 2, 0), (3, 0, 0), (4, 0, 0), (5, 0, 0), (6, 0, 0)], fun zs B nn => match zs with | [l3, y, b, k] => iva IM B ∧ ivf JM B ∧ frm [50, 51, 52, 58, 7] [(0, 63)] A B ∧ nn = ((16807 - k) * 1000 + 999 : Int).toNat ∧ (l3 = w) ∧ (0 ≤ k) ∧ (k ≤ 16807) ∧ (1 ≤ y) ∧ (y ≤ 16807) ∧ (w = 10 ∨ ((-1) ≤ w ∧ w ≤ 4)) ∧ (B 0 (fd 63) ≤ 5) ∧ (∃ nf : Nat, nn < nf ∧ fM_planted_L nf 55 [l3, y, b, k] B = fM_planted x w A) | _ => False), (150, [(0, 2, 0), (3, 0, 0), (5, 0, 0), (6, 0, 0)], fun zs B nn => match zs with | [l3, b, q] => iva IM B ∧ ivf JM B ∧ frm [50, 51, 52, 58, 7] [(0, 63)] A B ∧ nn = (20 - q : Int).toNat ∧ (l3 = w) ∧ (0 ≤ q) ∧ (q ≤ 5) ∧ (w = 10 ∨ ((-1) ≤ w ∧ w ≤ 4)) ∧ (B 0 (fd 63) ≤ 5) ∧ (∃ nf : Nat, nn < nf ∧ fM_planted_L nf 150 [l3, b, q] B = fM_planted x w A) | _ => False), (67, [(0, 2, 0), (3, 0, 0), (4, 0, 0), (5, 0, 0), (6, 0, 0), (7, 0, 0), (8, 0, 0), (9, 0, 0)], fun zs B nn => match zs with | [l3, y, b, k, e, s, q] => iva IM B ∧ ivf JM B ∧ frm [50, 51, 52, 58, 7] [(0, 63)] A B ∧ nn = ((16807 - k) * 1000 + 100 + q : Int).toNat ∧ (l3 = w) ∧ (0 ≤ k) ∧ (k ≤ 16806) ∧ (1 ≤ y) ∧ (y ≤ 16807) ∧ (w = 10 ∨ ((-1) ≤ w ∧ w ≤ 4)) ∧ (B 0 (fd 63) ≤ 5) ∧ ((-1) ≤ q) ∧ (q ≤ 4) ∧ (0 ≤ e) ∧ (∃ nf : Nat, nn < nf ∧ fM_planted_L nf 67 [l3, y, b, k, e, s, q] B = fM_planted x w A) | _ => False), (127, [(0, 2, 0), (3, 0, 0), (4, 0, 0), (5, 0, 0), (6, 0, 0), (9, 0, 0)], fun zs B nn => match zs with | [l3, y, b, k, q] => iva IM B ∧ ivf JM B ∧ frm [50, 51, 52, 58, 7] [(0, 63)] A B ∧ nn = ((16807 - k) * 1000 + 50 - q : Int).toNat ∧ (l3 = w) ∧ (0 ≤ k) ∧ (k ≤ 16806) ∧ (1 ≤ y) ∧ (y ≤ 16807) ∧ (w = 10 ∨ ((-1) ≤ w ∧ w ≤ 4)) ∧ (B 0 (fd 63) ≤ 5) ∧ (0 ≤ q) ∧ (q ≤ 5) ∧ (∃ nf : Nat, nn < nf ∧ fM_planted_L nf 127 [l3, y, b, k, q] B = fM_planted x w A) | _ => False)], ?_, ?_⟩
  · refine ⟨⟨rfl, ?_⟩, ⟨rfl, ?_⟩, ⟨rfl, ?_⟩, ⟨rfl, ?_⟩, ⟨rfl, ?_⟩, trivial⟩
    · refine fun l3 y q B mm hB hz hI => ?_
      obtain ⟨i1, j1, f1, hm, c0, c1, c2, c3, c4, c5, c6, c7, c8, c9, c10, c11, c12, ⟨nf, hnf, hT⟩⟩ := hI
      obtain ⟨hz_l3, hz_y, hz_q, _⟩ := hz
      obtain ⟨ng, rfl⟩ : ∃ k, nf = k + 1 := ⟨nf - 1, by omega⟩
      replace hT := (fM_planted_c22.eq_1 (fM_planted_L ng) l3 y q B).symm.trans ((fM_planted_L22 ng l3 y q B).symm.trans hT)
      have hc_0_63 := ivf_at j1 2 rfl
      refine fun v25 gv25 e26 => ?_
      replace hT := qlc e26 hT
      have b27 := ivf_at j1 2 rfl
      refine And.intro (fun h28 => ?_) (fun h28 => ?_)
      · replace hT := (if_neg (Int.not_lt.mpr h28)).symm.trans hT
        exact Exists.intro ((16807 - 0) * 1000 + 999 : Int).toNat (And.intro (by first | exact qtn hm (by (try clear hm hnf); omega) | omega) (And.intro i1 (And.intro j1 (And.intro f1 (And.intro rfl (And.intro (by (first | (clear hm hnf; omega) | omega)) (And.intro (by (first | (clear hm hnf; omega) | omega)) (And.intro (by (first | (clear hm hnf; omega) | omega)) (And.intro (by (first | (clear hm hnf; omega) | omega)) (And.intro (by (first | (clear hm hnf; omega) | omega)) (And.intro (by (first | (clear hm hnf; omega) | omega)) (And.intro (by (first | (clear hm hnf; omega) | omega)) (Exists.intro ng (And.intro (by first | exact qtm hm hnf (by (try clear hm hnf); omega) | omega) hT))))))))))))))
      · replace hT := (if_pos h28).symm.trans hT
        refine And.intro (by (first | (clear hm hnf; omega) | omega)) (fun v29 gv29 e30 => ?_)
        replace hT := qlc e30 hT
        have b31 := iva_at i1 21 rfl (i := q) (by (first | (clear hm hnf; omega) | omega)) (by (first | (clear hm hnf; omega) | omega))
        refine And.intro (by (first | (clear hm hnf; omega) | omega)) (fun v32 gv32 e33 => ?_)
        replace hT := qlc e33 hT
        have b34 := iva_at i1 0 rfl (i := v29) (by (first | (clear hm hnf; omega) | omega)) (by (first | (clear hm hnf; omega) | omega))
        refine And.intro (fun h35 => ?_) (fun h35 => ?_)
        · replace hT := (if_pos h35).symm.trans hT
          exact hK _ i1 j1 f1 _ (by first | assumption | exact ⟨by (first | (clear hm hnf; omega) | omega), by (first | (clear hm hnf; omega) | omega)⟩ | exact wI_rng _ | exact i_rng _ | (subst_vars; exact i_rng _) | exact (hA _ _).2 rfl) (congrArg Prod.fst hT) (congrArg Prod.snd hT)
        · replace hT := (if_neg h35).symm.trans hT
          refine And.intro (by (first | (clear hm hnf; omega) | omega)) (fun v36 gv36 e37 => ?_)
          replace hT := qlc e37 hT
          have b38 := iva_at i1 21 rfl (i := q) (by (first | (clear hm hnf; omega) | omega)) (by (first | (clear hm hnf; omega) | omega))
          have q39 : v29 = v36 := (e37.trans e30.symm).symm
          subst q39
          refine And.intro (by (first | (clear hm hnf; omega) | omega)) (fun v40 gv40 e41 => ?_)
          replace hT := qlc e41 hT
          have b42 := iva_at i1 2 rfl (i := v29) (by (first | (clear hm hnf; omega) | omega)) (by (first | (clear hm hnf; omega) | omega))
          refine And.intro (fun h43 => ?_) (fun h43 => ?_)
          · replace hT := (if_pos h43).symm.trans hT
            refine fun v44 e45 => ?_
            replace hT := qlc e45 hT
            refine fun v46 e47 => ?_
            replace hT := qlc e47 hT
            have w48 := wI_rng v44
            have w49 : wI v44 = v44 := wI_id (by (first | (clear hm hnf; omega) | omega))
            have w50 := wI_rng v46
            have w51 : wI v46 = v46 := wI_id (by (first | (clear hm hnf; omega) | omega))
            exact Exists.intro (90000000 - ((wI v46)) : Int).toNat (And.intro (by first | exact qtn hm (by (try clear hm hnf); omega) | omega) (And.intro i1 (And.intro j1 (And.intro f1 (And.intro rfl (And.intro (by (first | (clear hm hnf; omega) | omega)) (And.intro (by (first | (clear hm hnf; omega) | omega)) (And.intro (by (first | (clear hm hnf; omega) | omega)) (And.intro (by (first | (clear hm hnf; omega) | omega)) (And.intro (by (first | (clear hm hnf; omega) | omega)) (And.intro (by (first | (clear hm hnf; omega) | omega)) (And.intro (by (first | (clear hm hnf; omega) | omega)) (And.intro (by (first | (clear hm hnf; omega) | omega)) (And.intro (by (first | (clear hm hnf; omega) | omega)) (And.intro (by (first | (clear hm hnf; omega) | omega)) (And.intro (by (first | (clear hm hnf; omega) | omega)) (And.intro (by (first | (clear hm hnf; omega) | omega)) (And.intro (by (first | (clear hm hnf; omega) | omega)) (Exists.intro ng (And.intro (by first | exact qtm hm hnf (by (try clear hm hnf); omega) | omega) hT))))))))))))))))))))
          · replace hT := (if_neg h43).symm.trans hT
            exact hK _ i1 j1 f1 _ (by first | assumption | exact ⟨by (first | (clear hm hnf; omega) | omega), by (first | (clear hm hnf; omega) | omega)⟩ | exact wI_rng _ | exact i_rng _ | (subst_vars; exact i_rng _) | exact (hA _ _).2 rfl) (congrArg Prod.fst hT) (congrArg Prod.snd hT)
    · refine fun l3 y b k B mm hB hz hI => ?_
      obtain ⟨i1, j1, f1, hm, c0, c1, c2, c3, c4, c5, c6, ⟨nf, hnf, hT⟩⟩ := hI
      obtain ⟨hz_l3, hz_y, hz_b, hz_k, _⟩ := hz
      obtain ⟨ng, rfl⟩ : ∃ k, nf = k + 1 := ⟨nf - 1, by omega⟩
      replace hT := (fM_planted_c55.eq_1 (fM_planted_L ng) l3 y b k B).symm.trans ((fM_planted_L55 ng l3 y b k B).symm.trans hT)
      have hc_0_63 := ivf_at j1 2 rfl
      refine And.intro (fun h52 => ?_) (fun h52 => ?_)
      · replace hT := (if_neg (Int.not_lt.mpr h52)).symm.trans hT
        refine And.intro (fun h53 => ?_) (fun h53 => ?_)
        · replace hT := (if_neg h53).symm.trans hT
          exact Exists.intro (20 - 0 : Int).toNat (And.intro (by first | exact qtn hm (by (try clear hm hnf); omega) | omega) (And.intro i1 (And.intro j1 (And.intro f1 (And.intro rfl (And.intro (by (first | (clear hm hnf; omega) | omega)) (And.intro (by (first | (clear hm hnf; omega) | omega)) (And.intro (by (first | (clear hm hnf; omega) | omega)) (And.intro (by (first | (clear hm hnf; omega) | omega)) (And.intro (by (first | (clear hm hnf; omega) | omega)) (Exists.intro ng (And.intro (by first | exact qtm hm hnf (by (try clear hm hnf); omega) | omega) hT))))))))))))
        · replace hT := (if_pos h53).symm.trans hT
          exact hK _ i1 j1 f1 _ (by first | assumption | exact ⟨by (first | (clear hm hnf; omega) | omega), by (first | (clear hm hnf; omega) | omega)⟩ | exact wI_rng _ | exact i_rng _ | (subst_vars; exact i_rng _) | exact (hA _ _).2 rfl) (congrArg Prod.fst hT) (congrArg Prod.snd hT)
      · replace hT := (if_pos h52).symm.trans hT
        refine fun v54 gv54 e55 => ?_
        replace hT := qlc e55 hT
        have b56 := ivf_at j1 2 rfl
        refine fun v57 e58 => ?_
        replace hT := qlc e58 hT
        have w59 := wI_rng v57
        have w60 : wI v57 = v57 := wI_id (by (first | (clear hm hnf; omega) | omega))
        exact Exists.intro ((16807 - k) * 1000 + 100 + ((wI v57)) : Int).toNat (And.intro (by first | exact qtn hm (by (try clear hm hnf); omega) | omega) (And.intro i1 (And.intro j1 (And.intro f1 (And.intro rfl (And.intro (by (first | (clear hm hnf; omega) | omega)) (And.intro (by (first | (clear hm hnf; omega) | omega)) (And.intro (by (first | (clear hm hnf; omega) | omega)) (And.intro (by (first | (clear hm hnf; omega) | omega)) (And.intro (by (first | (clear hm hnf; omega) | omega)) (And.intro (by (first | (clear hm hnf; omega) | omega)) (And.intro (by (first | (clear hm hnf; omega) | omega)) (And.intro (by (first | (clear hm hnf; omega) | omega)) (And.intro (by (first | (clear hm hnf; omega) | omega)) (And.intro (by (first | (clear hm hnf; omega) | omega)) (Exists.intro ng (And.intro (by first | exact qtm hm hnf (by (try clear hm hnf); omega) | omega) hT)))))))))))))))))
    · refine fun l3 b q B mm hB hz hI => ?_
      obtain ⟨i1, j1, f1, hm, c0, c1, c2, c3, c4, ⟨nf, hnf, hT⟩⟩ := hI
      obtain ⟨hz_l3, hz_b, hz_q, _⟩ := hz
      obtain ⟨ng, rfl⟩ : ∃ k, nf = k + 1 := ⟨nf - 1, by omega⟩
      replace hT := (fM_planted_c150.eq_1 (fM_planted_L ng) l3 b q B).symm.trans ((fM_planted_L150 ng l3 b q B).symm.trans hT)
      have hc_0_63 := ivf_at j1 2 rfl
      refine fun v61 gv61 e62 => ?_
      replace hT := qlc e62 hT
      have b63 := ivf_at j1 2 rfl
      refine And.intro (fun h64 => ?_) (fun h64 => ?_)
      · replace hT := (if_neg (Int.not_lt.mpr h64)).symm.trans hT
        refine And.intro (fun h65 => ?_) (fun h65 => ?_)
        · replace hT := (if_pos h65).symm.trans hT
          exact hK _ i1 j1 f1 _ (by first | assumption | exact ⟨by (first | (clear hm hnf; omega) | omega), by (first | (clear hm hnf; omega) | omega)⟩ | exact wI_rng _ | exact i_rng _ | (subst_vars; exact i_rng _) | exact (hA _ _).2 rfl) (congrArg Prod.fst hT) (congrArg Prod.snd hT)
        · replace hT := (if_neg h65).symm.trans hT
          refine And.intro (fun h66 => ?_) (fun h66 => ?_)
          · replace hT := (if_neg h66).symm.trans hT
            refine And.intro (by (first | (clear hm hnf; omega) | omega)) (fun v67 gv67 e68 => ?_)
            replace hT := qlc e68 hT
            have b69 := iva_at i1 23 rfl (i := l3) (by (first | (clear hm hnf; omega) | omega)) (by (first | (clear hm hnf; omega) | omega))
            exact hK _ i1 j1 f1 _ (by first | assumption | exact ⟨by (first | (clear hm hnf; omega) | omega), by (first | (clear hm hnf; omega) | omega)⟩ | exact wI_rng _ | exact i_rng _ | (subst_vars; exact i_rng _) | exact (hA _ _).2 rfl) (congrArg Prod.fst hT) (congrArg Prod.snd hT)
          · replace hT := (if_pos h66).symm.trans hT
            exact hK _ i1 j1 f1 _ (by first | assumption | exact ⟨by (first | (clear hm hnf; omega) | omega), by (first | (clear hm hnf; omega) | omega)⟩ | exact wI_rng _ | exact i_rng _ | (subst_vars; exact i_rng _) | exact (hA _ _).2 rfl) (congrArg Prod.fst hT) (congrArg Prod.snd hT)
      · replace hT := (if_pos h64).symm.trans hT
        refine And.intro (fun h70 => ?_) (fun h70 => ?_)
        · replace hT := (if_neg h70).symm.trans hT
          refine And.intro (fun h71 => ?_) (fun h71 => ?_)
          · replace hT := (if_pos h71).symm.trans hT
            exact hK _ i1 j1 f1 _ (by first | assumption | exact ⟨by (first | (clear hm hnf; omega) | omega), by (first | (clear hm hnf; omega) | omega)⟩ | exact wI_rng _ | exact i_rng _ | (subst_vars; exact i_rng _) | exact (hA _ _).2 rfl) (congrArg Prod.fst hT) (congrArg Prod.snd hT)
          · replace hT := (if_neg h71).symm.trans hT
            refine And.intro (fun h72 => ?_) (fun h72 => ?_)
            · replace hT := (if_neg h72).symm.trans hT
              refine And.intro (by (first | (clear hm hnf; omega) | omega)) (fun v73 gv73 e74 => ?_)
              replace hT := qlc e74 hT
              have b75 := iva_at i1 23 rfl (i := l3) (by (first | (clear hm hnf; omega) | omega)) (by (first | (clear hm hnf; omega) | omega))
              exact hK _ i1 j1 f1 _ (by first | assumption | exact ⟨by (first | (clear hm hnf; omega) | omega), by (first | (clear hm hnf; omega) | omega)⟩ | exact wI_rng _ | exact i_rng _ | (subst_vars; exact i_rng _) | exact (hA _ _).2 rfl) (congrArg Prod.fst hT) (congrArg Prod.snd hT)
            · replace hT := (if_pos h72).symm.trans hT
              exact hK _ i1 j1 f1 _ (by first | assumption | exact ⟨by (first | (clear hm hnf; omega) | omega), by (first | (clear hm hnf; omega) | omega)⟩ | exact wI_rng _ | exact i_rng _ | (subst_vars; exact i_rng _) | exact (hA _ _).2 rfl) (congrArg Prod.fst hT) (congrArg Prod.snd hT)
        · replace hT := (if_pos h70).symm.trans hT
          refine And.intro (by (first | (clear hm hnf; omega) | omega)) (fun v76 gv76 e77 => ?_)
          replace hT := qlc e77 hT
          have b78 := iva_at i1 21 rfl (i := q) (by (first | (clear hm hnf; omega) | omega)) (by (first | (clear hm hnf; omega) | omega))
          refine And.intro (by (first | (clear hm hnf; omega) | omega)) (fun v79 gv79 e80 => ?_)
          replace hT := qlc e80 hT
          have b81 := iva_at i1 23 rfl (i := q) (by (first | (clear hm hnf; omega) | omega)) (by (first | (clear hm hnf; omega) | omega))
          refine And.intro (by (first | (clear hm hnf; omega) | omega)) (fun A82 e83 => ?_)
          replace hT := qlc e83 hT
          have i84 := iva_st i1 e83 (And.intro (by (first | (clear hm hnf; omega) | omega)) trivial)
          have j85 := ivf_sa j1 e83 rfl
          have f86 := frm_s f1 e83 rfl
          have t87 : A82 0 (fd 63) = B 0 (fd 63) := (congrFun (st_a e83 rfl) _)
          refine fun v88 e89 => ?_
          replace hT := qlc e89 hT
          have w90 := wI_rng v88
          have w91 : wI v88 = v88 := wI_id (by (first | (clear hm hnf; omega) | omega))
          exact Exists.intro (20 - ((wI v88)) : Int).toNat (And.intro (by first | exact qtn hm (by (try clear hm hnf); omega) | omega) (And.intro i84 (And.intro j85 (And.intro f86 (And.intro rfl (And.intro (by (first | (clear hm hnf; omega) | omega)) (And.intro (by (first | (clear hm hnf; omega) | omega)) (And.intro (by (first | (clear hm hnf; omega) | omega)) (And.intro (by (first | (clear hm hnf; omega) | omega)) (And.intro (by (first | (clear hm hnf; omega) | omega)) (Exists.intro ng (And.intro (by first | exact qtm hm hnf (by (try clear hm hnf); omega) | omega) hT))))))))))))
    · refine fun l3 y b k e s q B mm hB hz hI => ?_
      obtain ⟨i1, j1, f1, hm, c0, c1, c2, c3, c4, c5, c6, c7, c8, c9, ⟨nf, hnf, hT⟩⟩ := hI
      obtain ⟨hz_l3, hz_y, hz_b, hz_k, hz_e, hz_s, hz_q, _⟩ := hz
      obtain ⟨ng, rfl⟩ : ∃ k, nf = k + 1 := ⟨nf - 1, by omega⟩
      replace hT := (fM_planted_c67.eq_1 (fM_planted_L ng) l3 y b k e s q B).symm.trans ((fM_planted_L67 ng l3 y b k e s q B).symm.trans hT)
      have hc_0_63 := ivf_at j1 2 rfl
      refine And.intro (fun h92 => ?_) (fun h92 => ?_)
      · replace hT := (if_pos h92).symm.trans hT
        refine And.intro (fun h93 => ?_) (fun h93 => ?_)
        · replace hT := (if_pos h93).symm.trans hT
          refine And.intro rfl (And.intro (And.intro i1 j1) (fun r94 g96 g97 g95 => ?_))
          replace hT := qlc g95 hT
          clear g95
          refine And.intro (fun h98 => ?_) (fun h98 => ?_)
          · replace hT := (if_pos h98).symm.trans hT
            refine fun v99 e100 => ?_
            replace hT := qlc e100 hT
            have w101 := wI_rng v99
            have w102 : wI v99 = v99 := wI_id (by (first | (clear hm hnf; omega) | omega))
            exact Exists.intro ((16807 - ((wI v99))) * 1000 + 999 : Int).toNat (And.intro (by first | exact qtn hm (by (try clear hm hnf); omega) | omega) (And.intro i1 (And.intro j1 (And.intro f1 (And.intro rfl (And.intro (by (first | (clear hm hnf; omega) | omega)) (And.intro (by (first | (clear hm hnf; omega) | omega)) (And.intro (by (first | (clear hm hnf; omega) | omega)) (And.intro (by (first | (clear hm hnf; omega) | omega)) (And.intro (by (first | (clear hm hnf; omega) | omega)) (And.intro (by (first | (clear hm hnf; omega) | omega)) (And.intro (by (first | (clear hm hnf; omega) | omega)) (Exists.intro ng (And.intro (by first | exact qtm hm hnf (by (try clear hm hnf); omega) | omega) hT))))))))))))))
          · replace hT := (if_neg h98).symm.trans hT
            refine And.intro rfl (And.intro (And.intro i1 j1) (fun A103 i104 j105 f106 r107 g110 g111 g108 g109 => ?_))
            replace hT := qlpc g108 g109 hT
            clear g108 g109
            have f112 := frm_c f1 f106 rfl
            have t113 : A103 0 (fd 63) = B 0 (fd 63) := (frm_f f106 rfl)
            refine And.intro (fun h114 => ?_) (fun h114 => ?_)
            · replace hT := (if_neg h114).symm.trans hT
              exact Exists.intro ((16807 - k) * 1000 + 50 - 0 : Int).toNat (And.intro (by first | exact qtn hm (by (try clear hm hnf); omega) | omega) (And.intro i104 (And.intro j105 (And.intro f112 (And.intro rfl (And.intro (by (first | (clear hm hnf; omega) | omega)) (And.intro (by (first | (clear hm hnf; omega) | omega)) (And.intro (by (first | (clear hm hnf; omega) | omega)) (And.intro (by (first | (clear hm hnf; omega) | omega)) (And.intro (by (first | (clear hm hnf; omega) | omega)) (And.intro (by (first | (clear hm hnf; omega) | omega)) (And.intro (by (first | (clear hm hnf; omega) | omega)) (And.intro (by (first | (clear hm hnf; omega) | omega)) (And.intro (by (first | (clear hm hnf; omega) | omega)) (Exists.intro ng (And.intro (by first | exact qtm hm hnf (by (try clear hm hnf); omega) | omega) hT))))))))))))))))
            · replace hT := (if_pos h114).symm.trans hT
              refine fun v115 e116 => ?_
              replace hT := qlc e116 hT
              have w117 := wI_rng v115
              have w118 : wI v115 = v115 := wI_id (by (first | (clear hm hnf; omega) | omega))
              exact Exists.intro ((16807 - ((wI v115))) * 1000 + 999 : Int).toNat (And.intro (by first | exact qtn hm (by (try clear hm hnf); omega) | omega) (And.intro i104 (And.intro j105 (And.intro f112 (And.intro rfl (And.intro (by (first | (clear hm hnf; omega) | omega)) (And.intro (by (first | (clear hm hnf; omega) | omega)) (And.intro (by (first | (clear hm hnf; omega) | omega)) (And.intro (by (first | (clear hm hnf; omega) | omega)) (And.intro (by (first | (clear hm hnf; omega) | omega)) (And.intro (by (first | (clear hm hnf; omega) | omega)) (And.intro (by (first | (clear hm hnf; omega) | omega)) (Exists.intro ng (And.intro (by first | exact qtm hm hnf (by (try clear hm hnf); omega) | omega) hT))))))))))))))
        · replace hT := (if_neg h93).symm.trans hT
          refine And.intro (fun h119 => ?_) (fun h119 => ?_)
          · replace hT := (if_neg (Int.not_lt.mpr h119)).symm.trans hT
            refine fun v120 e121 => ?_
            replace hT := qlc e121 hT
            have w122 := wI_rng v120
            have w123 : wI v120 = v120 := wI_id (by (first | (clear hm hnf; omega) | omega))
            exact Exists.intro ((16807 - ((wI v120))) * 1000 + 999 : Int).toNat (And.intro (by first | exact qtn hm (by (try clear hm hnf); omega) | omega) (And.intro i1 (And.intro j1 (And.intro f1 (And.intro rfl (And.intro (by (first | (clear hm hnf; omega) | omega)) (And.intro (by (first | (clear hm hnf; omega) | omega)) (And.intro (by (first | (clear hm hnf; omega) | omega)) (And.intro (by (first | (clear hm hnf; omega) | omega)) (And.intro (by (first | (clear hm hnf; omega) | omega)) (And.intro (by (first | (clear hm hnf; omega) | omega)) (And.intro (by (first | (clear hm hnf; omega) | omega)) (Exists.intro ng (And.intro (by first | exact qtm hm hnf (by (try clear hm hnf); omega) | omega) hT))))))))))))))
          · replace hT := (if_pos h119).symm.trans hT
            refine And.intro rfl (And.intro (And.intro i1 j1) (fun r124 g126 g127 g125 => ?_))
            replace hT := qlc g125 hT
            clear g125
            refine And.intro (fun h128 => ?_) (fun h128 => ?_)
            · replace hT := (if_pos h128).symm.trans hT
              refine fun v129 e130 => ?_
              replace hT := qlc e130 hT
              have w131 := wI_rng v129
              have w132 : wI v129 = v129 := wI_id (by (first | (clear hm hnf; omega) | omega))
              exact Exists.intro ((16807 - ((wI v129))) * 1000 + 999 : Int).toNat (And.intro (by first | exact qtn hm (by (try clear hm hnf); omega) | omega) (And.intro i1 (And.intro j1 (And.intro f1 (And.intro rfl (And.intro (by (first | (clear hm hnf; omega) | omega)) (And.intro (by (first | (clear hm hnf; omega) | omega)) (And.intro (by (first | (clear hm hnf; omega) | omega)) (And.intro (by (first | (clear hm hnf; omega) | omega)) (And.intro (by (first | (clear hm hnf; omega) | omega)) (And.intro (by (first | (clear hm hnf; omega) | omega)) (And.intro (by (first | (clear hm hnf; omega) | omega)) (Exists.intro ng (And.intro (by first | exact qtm hm hnf (by (try clear hm hnf); omega) | omega) hT))))))))))))))
            · replace hT := (if_neg h128).symm.trans hT
              refine And.intro rfl (And.intro (And.intro i1 j1) (fun A133 i134 j135 f136 r137 g140 g141 g138 g139 => ?_))
              replace hT := qlpc g138 g139 hT
              clear g138 g139
              have f142 := frm_c f1 f136 rfl
              have t143 : A133 0 (fd 63) = B 0 (fd 63) := (frm_f f136 rfl)
              refine And.intro (fun h144 => ?_) (fun h144 => ?_)
              · replace hT := (if_neg h144).symm.trans hT
                exact Exists.intro ((16807 - k) * 1000 + 50 - 0 : Int).toNat (And.intro (by first | exact qtn hm (by (try clear hm hnf); omega) | omega) (And.intro i134 (And.intro j135 (And.intro f142 (And.intro rfl (And.intro (by (first | (clear hm hnf; omega) | omega)) (And.intro (by (first | (clear hm hnf; omega) | omega)) (And.intro (by (first | (clear hm hnf; omega) | omega)) (And.intro (by (first | (clear hm hnf; omega) | omega)) (And.intro (by (first | (clear hm hnf; omega) | omega)) (And.intro (by (first | (clear hm hnf; omega) | omega)) (And.intro (by (first | (clear hm hnf; omega) | omega)) (And.intro (by (first | (clear hm hnf; omega) | omega)) (And.intro (by (first | (clear hm hnf; omega) | omega)) (Exists.intro ng (And.intro (by first | exact qtm hm hnf (by (try clear hm hnf); omega) | omega) hT))))))))))))))))
              · replace hT := (if_pos h144).symm.trans hT
                refine fun v145 e146 => ?_
                replace hT := qlc e146 hT
                have w147 := wI_rng v145
                have w148 : wI v145 = v145 := wI_id (by (first | (clear hm hnf; omega) | omega))
                exact Exists.intro ((16807 - ((wI v145))) * 1000 + 999 : Int).toNat (And.intro (by first | exact qtn hm (by (try clear hm hnf); omega) | omega) (And.intro i134 (And.intro j135 (And.intro f142 (And.intro rfl (And.intro (by (first | (clear hm hnf; omega) | omega)) (And.intro (by (first | (clear hm hnf; omega) | omega)) (And.intro (by (first | (clear hm hnf; omega) | omega)) (And.intro (by (first | (clear hm hnf; omega) | omega)) (And.intro (by (first | (clear hm hnf; omega) | omega)) (And.intro (by (first | (clear hm hnf; omega) | omega)) (And.intro (by (first | (clear hm hnf; omega) | omega)) (Exists.intro ng (And.intro (by first | exact qtm hm hnf (by (try clear hm hnf); omega) | omega) hT))))))))))))))
      · replace hT := (if_neg (Int.not_lt.mpr h92)).symm.trans hT
        refine And.intro (by (first | (clear hm hnf; omega) | omega)) (fun v149 e150 => ?_)
        replace hT := qlc e150 hT
        have h151 := qm_nn (a := e) (b := 7) (by (first | (clear hm hnf; omega) | omega))
        refine fun v152 e153 => ?_
        replace hT := qlc e153 hT
        have w156 := wI_rng v152
        have w157 : wI v152 = v152 := wI_id (by (first | (clear hm hnf; omega) | omega))
        refine And.intro (by (first | (clear hm hnf; omega) | omega)) (fun A154 e155 => ?_)
        replace hT := qlc e155 hT
        have i158 := iva_st i1 e155 (And.intro (by (first | (clear hm hnf; omega) | omega)) trivial)
        have j159 := ivf_sa j1 e155 rfl
        have f160 := frm_s f1 e155 rfl
        have t161 : A154 0 (fd 63) = B 0 (fd 63) := (congrFun (st_a e155 rfl) _)
        refine And.intro (by (first | (clear hm hnf; omega) | omega)) (fun v162 e163 => ?_)
        replace hT := qlc e163 hT
        have h164 := qd_nn (a := e) (b := 7) (by (first | (clear hm hnf; omega) | omega))
        refine And.intro (by (first | (clear hm hnf; omega) | omega)) (fun v165 gv165 e166 => ?_)
        replace hT := qlc e166 hT
        have b167 := iva_at i158 22 rfl (i := q) (by (first | (clear hm hnf; omega) | omega)) (by (first | (clear hm hnf; omega) | omega))
        have q168 : (wI v152) = v165 := (e166.trans (st_v e155)).symm
        subst q168
        refine And.intro (fun h169 => ?_) (fun h169 => ?_)
        · replace hT := (if_neg h169).symm.trans hT
          refine And.intro (by (first | (clear hm hnf; omega) | omega)) (fun v170 gv170 e171 => ?_)
          replace hT := qlc e171 hT
          have b172 := iva_at i158 22 rfl (i := q) (by (first | (clear hm hnf; omega) | omega)) (by (first | (clear hm hnf; omega) | omega))
          have q173 : (wI v152) = v170 := (e171.trans e166.symm).symm
          subst q173
          refine And.intro (by (first | (clear hm hnf; omega) | omega)) (fun v174 gv174 e175 => ?_)
          replace hT := qlc e175 hT
          have b176 := iva_at i158 5 rfl (i := (wI v152)) (by (first | (clear hm hnf; omega) | omega)) (by (first | (clear hm hnf; omega) | omega))
          refine And.intro (by (first | (clear hm hnf; omega) | omega)) (fun v177 gv177 e178 => ?_)
          replace hT := qlc e178 hT
          have b179 := iva_at i158 22 rfl (i := q) (by (first | (clear hm hnf; omega) | omega)) (by (first | (clear hm hnf; omega) | omega))
          have q180 : (wI v152) = v177 := (e178.trans e171.symm).symm
          subst q180
          refine And.intro (by (first | (clear hm hnf; omega) | omega)) (fun v181 gv181 e182 => ?_)
          replace hT := qlc e182 hT
          have b183 := iva_at i158 4 rfl (i := (wI v152)) (by (first | (clear hm hnf; omega) | omega)) (by (first | (clear hm hnf; omega) | omega))
          refine fun v184 e185 => ?_
          replace hT := qlc e185 hT
          have h186 := mul_bd (a := v174) (b := v181) (p := 99) (q := 200) (by (first | (clear hm hnf; omega) | omega)) (by (first | (clear hm hnf; omega) | omega)) (by (first | (clear hm hnf; omega) | omega)) (by (first | (clear hm hnf; omega) | omega))
          rw [← e185] at h186
          refine fun v187 e188 => ?_
          replace hT := qlc e188 hT
          refine fun v189 e190 => ?_
          replace hT := qlc e190 hT
          have w191 := wI_rng v162
          have w192 : wI v162 = v162 := wI_id (by (first | (clear hm hnf; omega) | omega))
          have w193 := wI_rng v187
          have w194 := wI_rng v189
          have w195 : wI v189 = v189 := wI_id (by (first | (clear hm hnf; omega) | omega))
          exact Exists.intro ((16807 - k) * 1000 + 100 + ((wI v189)) : Int).toNat (And.intro (by first | exact qtn hm (by (try clear hm hnf); omega) | omega) (And.intro i158 (And.intro j159 (And.intro f160 (And.intro rfl (And.intro (by (first | (clear hm hnf; omega) | omega)) (And.intro (by (first | (clear hm hnf; omega) | omega)) (And.intro (by (first | (clear hm hnf; omega) | omega)) (And.intro (by (first | (clear hm hnf; omega) | omega)) (And.intro (by (first | (clear hm hnf; omega) | omega)) (And.intro (by (first | (clear hm hnf; omega) | omega)) (And.intro (by (first | (clear hm hnf; omega) | omega)) (And.intro (by (first | (clear hm hnf; omega) | omega)) (And.intro (by (first | (clear hm hnf; omega) | omega)) (And.intro (by (first | (clear hm hnf; omega) | omega)) (Exists.intro ng (And.intro (by first | exact qtm hm hnf (by (try clear hm hnf); omega) | omega) hT)))))))))))))))))
        · replace hT := (if_pos h169).symm.trans hT
          refine fun v196 e197 => ?_
          replace hT := qlc e197 hT
          refine fun v198 e199 => ?_
          replace hT := qlc e199 hT
          have w200 := wI_rng v162
          have w201 : wI v162 = v162 := wI_id (by (first | (clear hm hnf; omega) | omega))
          have w202 := wI_rng v196
          have w203 : wI v196 = v196 := wI_id (by (first | (clear hm hnf; omega) | omega))
          have w204 := wI_rng v198
          have w205 : wI v198 = v198 := wI_id (by (first | (clear hm hnf; omega) | omega))
          exact Exists.intro ((16807 - k) * 1000 + 100 + ((wI v198)) : Int).toNat (And.intro (by first | exact qtn hm (by (try clear hm hnf); omega) | omega) (And.intro i158 (And.intro j159 (And.intro f160 (And.intro rfl (And.intro (by (first | (clear hm hnf; omega) | omega)) (And.intro (by (first | (clear hm hnf; omega) | omega)) (And.intro (by (first | (clear hm hnf; omega) | omega)) (And.intro (by (first | (clear hm hnf; omega) | omega)) (And.intro (by (first | (clear hm hnf; omega) | omega)) (And.intro (by (first | (clear hm hnf; omega) | omega)) (And.intro (by (first | (clear hm hnf; omega) | omega)) (And.intro (by (first | (clear hm hnf; omega) | omega)) (And.intro (by (first | (clear hm hnf; omega) | omega)) (And.intro (by (first | (clear hm hnf; omega) | omega)) (Exists.intro ng (And.intro (by first | exact qtm hm hnf (by (try clear hm hnf); omega) | omega) hT)))))))))))))))))
    · refine fun l3 y b k q B mm hB hz hI => ?_
      obtain ⟨i1, j1, f1, hm, c0, c1, c2, c3, c4, c5, c6, c7, c8, ⟨nf, hnf, hT⟩⟩ := hI
      obtain ⟨hz_l3, hz_y, hz_b, hz_k, hz_q, _⟩ := hz
      obtain ⟨ng, rfl⟩ : ∃ k, nf = k + 1 := ⟨nf - 1, by omega⟩
      replace hT := (fM_planted_c127.eq_1 (fM_planted_L ng) l3 y b k q B).symm.trans ((fM_planted_L127 ng l3 y b k q B).symm.trans hT)
      have hc_0_63 := ivf_at j1 2 rfl
      refine fun v206 gv206 e207 => ?_
      replace hT := qlc e207 hT
      have b208 := ivf_at j1 2 rfl
      refine And.intro (fun h209 => ?_) (fun h209 => ?_)
      · replace hT := (if_neg (Int.not_lt.mpr h209)).symm.trans hT
        refine fun v210 e211 => ?_
        replace hT := qlc e211 hT
        have w212 := wI_rng v210
        have w213 : wI v210 = v210 := wI_id (by (first | (clear hm hnf; omega) | omega))
        exact Exists.intro ((16807 - ((wI v210))) * 1000 + 999 : Int).toNat (And.intro (by first | exact qtn hm (by (try clear hm hnf); omega) | omega) (And.intro i1 (And.intro j1 (And.intro f1 (And.intro rfl (And.intro (by (first | (clear hm hnf; omega) | omega)) (And.intro (by (first | (clear hm hnf; omega) | omega)) (And.intro (by (first | (clear hm hnf; omega) | omega)) (And.intro (by (first | (clear hm hnf; omega) | omega)) (And.intro (by (first | (clear hm hnf; omega) | omega)) (And.intro (by (first | (clear hm hnf; omega) | omega)) (And.intro (by (first | (clear hm hnf; omega) | omega)) (Exists.intro ng (And.intro (by first | exact qtm hm hnf (by (try clear hm hnf); omega) | omega) hT))))))))))))))
      · replace hT := (if_pos h209).symm.trans hT
        refine And.intro (by (first | (clear hm hnf; omega) | omega)) (fun v214 gv214 e215 => ?_)
        replace hT := qlc e215 hT
        have b216 := iva_at i1 22 rfl (i := q) (by (first | (clear hm hnf; omega) | omega)) (by (first | (clear hm hnf; omega) | omega))
        refine And.intro (by (first | (clear hm hnf; omega) | omega)) (fun A217 e218 => ?_)
        replace hT := qlc e218 hT
        have i219 := iva_st i1 e218 (And.intro (by (first | (clear hm hnf; omega) | omega)) trivial)
        have j220 := ivf_sa j1 e218 rfl
        have f221 := frm_s f1 e218 rfl
        have t222 : A217 0 (fd 63) = B 0 (fd 63) := (congrFun (st_a e218 rfl) _)
        refine fun v223 e224 => ?_
        replace hT := qlc e224 hT
        have w225 := wI_rng v223
        have w226 : wI v223 = v223 := wI_id (by (first | (clear hm hnf; omega) | omega))
        exact Exists.intro ((16807 - k) * 1000 + 50 - ((wI v223)) : Int).toNat (And.intro (by first | exact qtn hm (by (try clear hm hnf); omega) | omega) (And.intro i219 (And.intro j220 (And.intro f221 (And.intro rfl (And.intro (by (first | (clear hm hnf; omega) | omega)) (And.intro (by (first | (clear hm hnf; omega) | omega)) (And.intro (by (first | (clear hm hnf; omega) | omega)) (And.intro (by (first | (clear hm hnf; omega) | omega)) (And.intro (by (first | (clear hm hnf; omega) | omega)) (And.intro (by (first | (clear hm hnf; omega) | omega)) (And.intro (by (first | (clear hm hnf; omega) | omega)) (And.intro (by (first | (clear hm hnf; omega) | omega)) (And.intro (by (first | (clear hm hnf; omega) | omega)) (Exists.intro ng (And.intro (by first | exact qtm hm hnf (by (try clear hm hnf); omega) | omega) hT))))))))))))))))
  · refine Exists.intro x (Exists.intro 5 (And.intro rfl (And.intro (And.intro i0 (And.intro j0 (And.intro (by (first | (clear hm hnf; omega) | omega)) (by (first | (clear hm hnf; omega) | omega))))) (fun A1 i2 j3 f4 r5 g9 g10 g6 g7 g8 => ?_))))
    replace hT := qlpc g7 g8 hT
    clear g7 g8
    have f11 := frm_c f0 f4 rfl
    have t12 := ivf_at j3 2 rfl
    refine And.intro (fun h13 => ?_) (fun h13 => ?_)
    · replace hT := (if_pos h13).symm.trans hT
      exact hK _ i2 j3 f11 _ (by first | assumption | exact ⟨by (first | (clear hm hnf; omega) | omega), by (first | (clear hm hnf; omega) | omega)⟩ | exact wI_rng _ | exact i_rng _ | (subst_vars; exact i_rng _) | exact (hA _ _).2 rfl) (congrArg Prod.fst hT) (congrArg Prod.snd hT)
    · replace hT := (if_neg h13).symm.trans hT
      refine And.intro (fun h14 => ?_) (fun h14 => ?_)
      · replace hT := (if_pos h14).symm.trans hT
        exact Exists.intro (90000000 - 0 : Int).toNat (And.intro i2 (And.intro j3 (And.intro f11 (And.intro rfl (And.intro (by (first | (clear hm hnf; omega) | omega)) (And.intro (by (first | (clear hm hnf; omega) | omega)) (And.intro (by (first | (clear hm hnf; omega) | omega)) (And.intro (by (first | (clear hm hnf; omega) | omega)) (And.intro (by (first | (clear hm hnf; omega) | omega)) (And.intro (by (first | (clear hm hnf; omega) | omega)) (And.intro (by (first | (clear hm hnf; omega) | omega)) (And.intro (by (first | (clear hm hnf; omega) | omega)) (And.intro (by (first | (clear hm hnf; omega) | omega)) (And.intro (by (first | (clear hm hnf; omega) | omega)) (And.intro (by (first | (clear hm hnf; omega) | omega)) (And.intro (by (first | (clear hm hnf; omega) | omega)) (And.intro (by (first | (clear hm hnf; omega) | omega)) (Exists.intro 100000000 (And.intro (by (first | (clear hm hnf; omega) | omega)) hT)))))))))))))))))))
      · replace hT := (if_neg h14).symm.trans hT
        refine fun v15 gv15 e16 => ?_
        replace hT := qlc e16 hT
        have b17 := ivf_at j3 2 rfl
        refine fun v18 e19 => ?_
        replace hT := qlc e19 hT
        have w20 := wI_rng v18
        have w21 : wI v18 = v18 := wI_id (by (first | (clear hm hnf; omega) | omega))
        refine Exists.intro w (Exists.intro (-1) (Exists.intro (wI v18) (And.intro rfl (And.intro (fun h22 => ?_) (fun h22 => ?_)))))
        · replace hT := (if_pos h22).symm.trans hT
          refine And.intro (fun h23 => ?_) (fun h23 => by exfalso; omega)
          exact Exists.intro (90000000 - 0 : Int).toNat (And.intro i2 (And.intro j3 (And.intro f11 (And.intro rfl (And.intro (by (first | (clear hm hnf; omega) | omega)) (And.intro (by (first | (clear hm hnf; omega) | omega)) (And.intro (by (first | (clear hm hnf; omega) | omega)) (And.intro (by (first | (clear hm hnf; omega) | omega)) (And.intro (by (first | (clear hm hnf; omega) | omega)) (And.intro (by (first | (clear hm hnf; omega) | omega)) (And.intro (by (first | (clear hm hnf; omega) | omega)) (And.intro (by (first | (clear hm hnf; omega) | omega)) (And.intro (by (first | (clear hm hnf; omega) | omega)) (And.intro (by (first | (clear hm hnf; omega) | omega)) (And.intro (by (first | (clear hm hnf; omega) | omega)) (And.intro (by (first | (clear hm hnf; omega) | omega)) (And.intro (by (first | (clear hm hnf; omega) | omega)) (Exists.intro 100000000 (And.intro (by (first | (clear hm hnf; omega) | omega)) hT)))))))))))))))))))
        · replace hT := (if_neg h22).symm.trans hT
          refine And.intro (fun h24 => by exfalso; omega) (fun h24 => ?_)
          exact hK _ i2 j3 f11 _ (by first | assumption | exact ⟨by (first | (clear hm hnf; omega) | omega), by (first | (clear hm hnf; omega) | omega)⟩ | exact wI_rng _ | exact i_rng _ | (subst_vars; exact i_rng _) | exact (hA _ _).2 rfl) (congrArg Prod.fst hT) (congrArg Prod.snd hT)
theorem pM_planted {x w : Int} {A : qA} (hA : qokA LM A) (rg_x : rngL x) (rg_w : rng w) (p0 : iva IM A) (p1 : ivf JM A) : qokA LM (fM_planted x w A).2 ∧ iva IM (fM_planted x w A).2 ∧ ivf JM (fM_planted x w A).2 ∧ frm [50, 51, 52, 58, 7] [(0, 63)] A (fM_planted x w A).2 ∧ rng (fM_planted x w A).1 := by
  obtain ⟨r, B, hB, _, hk⟩ := okM_ex okM_planted (as := [rf 0, nl x, ni w]) (K := fun _ B => B = (fM_planted x w A).2 ∧ iva IM (fM_planted x w A).2 ∧ ivf JM (fM_planted x w A).2 ∧ frm [50, 51, 52, 58, 7] [(0, 63)] A (fM_planted x w A).2 ∧ rng (fM_planted x w A).1) hA (qoks_c (show qok (rf _) from trivial) (qoks_c (rg_x) (qoks_c (rg_w) qoks_n))) ⟨x, w, rfl, ⟨p0, p1⟩, fun A9 i9 j9 f9 r9 g9 x0 x1 => (by rw [← x1]; (try rw [← x0]); exact ⟨rfl, i9, j9, f9, g9⟩)⟩
  exact ⟨hk.1 ▸ hB, hk.2⟩
def fM_drought_c20 (rec : Nat → List Int → qA → Int × qA) (l1 l2 l3 y x : Int) (B : qA) : Int × qA := (if x < 8 then qlet (sr l2 x) fun v22 => qlet (ia v22 1) fun v24 => (if v24 = 0 then qlet (x + 1) fun v41 => rec 20 [l1, l2, l3, y, ((wI v41))] B else qlet (qu B 60 y x) fun A28 => qlet (y + 1) fun v33 => qlet (x + 1) fun v35 => rec 20 [l1, l2, l3, ((wI v33)), ((wI v35))] A28) else qlet (y - 1) fun v15 => (if (-1) ≤ l3 ∧ l3 ≤ (wI v15) then rec 52 [l1, l3, y, 0] B else ((-2), B)))
def fM_drought_c52 (rec : Nat → List Int → qA → Int × qA) (l1 l3 y j : Int) (B : qA) : Int × qA := (if j < 48 then qlet (B 10 j) fun v46 => qlet (qu B 59 j v46) fun A48 => qlet (j + 1) fun v53 => rec 52 [l1, l3, y, ((wI v53))] A48 else rec 69 [l1, l3, y, 1, 0] B)
def fM_drought_c69 (rec : Nat → List Int → qA → Int × qA) (l1 l3 y u q : Int) (B : qA) : Int × qA := (if q < y then qlet (10 * u) fun v58 => qlet (q + 1) fun v60 => rec 69 [l1, l3, y, ((wI v58)), ((wI v60))] B else rec 82 [l1, l3, y, u, (-1), 0] B)
def fM_drought_c82 (rec : Nat → List Int → qA → Int × qA) (l1 l3 y u b k : Int) (B : qA) : Int × qA := (if k < u then rec 91 [l1, l3, y, u, b, k, k, 0, 0] B else rec 172 [l3, b, 0] B)
def fM_drought_c172 (rec : Nat → List Int → qA → Int × qA) (l3 b j : Int) (B : qA) : Int × qA := (if j < 48 then qlet (B 59 j) fun v72 => qlet (qu B 10 j v72) fun A74 => qlet (j + 1) fun v79 => rec 172 [l3, b, ((wI v79))] A74 else (if l3 = (-1) then (b, B) else qlet (B 61 l3) fun v69 => (v69, B)))
def fM_drought_c91 (rec : Nat → List Int → qA → Int × qA) (l1 l3 y u b k e s j : Int) (B : qA) : Int × qA := (if j < 8 then qlet (qu B 36 j 0) fun A88 => qlet (j + 1) fun v93 => rec 91 [l1, l3, y, u, b, k, e, s, ((wI v93))] A88 else qlet (y - 1) fun v84 => rec 105 [l1, l3, y, u, b, k, e, s, ((wI v84))] B)
def fM_drought_c105 (rec : Nat → List Int → qA → Int × qA) (l1 l3 y u b k e s j : Int) (B : qA) : Int × qA := (if j < 0 then (if l1 < s then qlet (k + 1) fun v119 => rec 82 [l1, l3, y, u, b, ((wI v119))] B else qlet (fM_flows B) fun A99 => qlp (fM_growth A99) fun r109 A105 => (if b < r109 then rec 155 [l1, l3, y, u, r109, k, 0] A105 else qlet (k + 1) fun v115 => rec 82 [l1, l3, y, u, b, ((wI v115))] A105)) else qlet (qm e 10) fun v123 => qlet (qu B 62 j v123) fun A126 => qlet (qd e 10) fun v131 => qlet (A126 62 j) fun v134 => qlet (s + v123) fun v138 => qlet (A126 60 j) fun v140 => qlet (A126 62 j) fun v143 => qlet (qu A126 36 v140 v123) fun A147 => qlet (j + (-1)) fun v152 => rec 105 [l1, l3, y, u, b, k, ((wI v131)), ((wI v138)), ((wI v152))] A147)
def fM_drought_c155 (rec : Nat → List Int → qA → Int × qA) (l1 l3 y u b k j : Int) (B : qA) : Int × qA := (if j < y then qlet (B 62 j) fun v164 => qlet (qu B 61 j v164) fun A167 => qlet (j + 1) fun v172 => rec 155 [l1, l3, y, u, b, k, ((wI v172))] A167 else qlet (k + 1) fun v160 => rec 82 [l1, l3, y, u, b, ((wI v160))] B)
def fM_drought_L : Nat → Nat → List Int → qA → Int × qA
  | 0 => fun _ _ B => (0, B)
  | nF + 1 => fun k zs B => bif Nat.beq k 20 then (match zs with | [l1, l2, l3, y, x] => fM_drought_c20 (fM_drought_L nF) l1 l2 l3 y x B | _ => (0, B)) else bif Nat.beq k 52 then (match zs with | [l1, l3, y, j] => fM_drought_c52 (fM_drought_L nF) l1 l3 y j B | _ => (0, B)) else bif Nat.beq k 69 then (match zs with | [l1, l3, y, u, q] => fM_drought_c69 (fM_drought_L nF) l1 l3 y u q B | _ => (0, B)) else bif Nat.beq k 82 then (match zs with | [l1, l3, y, u, b, k] => fM_drought_c82 (fM_drought_L nF) l1 l3 y u b k B | _ => (0, B)) else bif Nat.beq k 172 then (match zs with | [l3, b, j] => fM_drought_c172 (fM_drought_L nF) l3 b j B | _ => (0, B)) else bif Nat.beq k 91 then (match zs with | [l1, l3, y, u, b, k, e, s, j] => fM_drought_c91 (fM_drought_L nF) l1 l3 y u b k e s j B | _ => (0, B)) else bif Nat.beq k 105 then (match zs with | [l1, l3, y, u, b, k, e, s, j] => fM_drought_c105 (fM_drought_L nF) l1 l3 y u b k e s j B | _ => (0, B)) else bif Nat.beq k 155 then (match zs with | [l1, l3, y, u, b, k, j] => fM_drought_c155 (fM_drought_L nF) l1 l3 y u b k j B | _ => (0, B)) else (0, B)
theorem fM_drought_L20 (nF : Nat) (l1 l2 l3 y x : Int) (B : qA) : fM_drought_L (nF + 1) 20 [l1, l2, l3, y, x] B = fM_drought_c20 (fM_drought_L nF) l1 l2 l3 y x B := (congrFun (congrFun (congrFun (fM_drought_L.eq_2 nF) 20) [l1, l2, l3, y, x]) B).trans (qL1 rfl rfl)
theorem fM_drought_L52 (nF : Nat) (l1 l3 y j : Int) (B : qA) : fM_drought_L (nF + 1) 52 [l1, l3, y, j] B = fM_drought_c52 (fM_drought_L nF) l1 l3 y j B := (congrFun (congrFun (congrFun (fM_drought_L.eq_2 nF) 52) [l1, l3, y, j]) B).trans (qL0 rfl (qL1 rfl rfl))
theorem fM_drought_L69 (nF : Nat) (l1 l3 y u q : Int) (B : qA) : fM_drought_L (nF + 1) 69 [l1, l3, y, u, q] B = fM_drought_c69 (fM_drought_L nF) l1 l3 y u q B := (congrFun (congrFun (congrFun (fM_drought_L.eq_2 nF) 69) [l1, l3, y, u, q]) B).trans (qL0 rfl (qL0 rfl (qL1 rfl rfl)))
theorem fM_drought_L82 (nF : Nat) (l1 l3 y u b k : Int) (B : qA) : fM_drought_L (nF + 1) 82 [l1, l3, y, u, b, k] B = fM_drought_c82 (fM_drought_L nF) l1 l3 y u b k B := (congrFun (congrFun (congrFun (fM_drought_L.eq_2 nF) 82) [l1, l3, y, u, b, k]) B).trans (qL0 rfl (qL0 rfl (qL0 rfl (qL1 rfl rfl))))
theorem fM_drought_L172 (nF : Nat) (l3 b j : Int) (B : qA) : fM_drought_L (nF + 1) 172 [l3, b, j] B = fM_drought_c172 (fM_drought_L nF) l3 b j B := (congrFun (congrFun (congrFun (fM_drought_L.eq_2 nF) 172) [l3, b, j]) B).trans (qL0 rfl (qL0 rfl (qL0 rfl (qL0 rfl (qL1 rfl rfl)))))
theorem fM_drought_L91 (nF : Nat) (l1 l3 y u b k e s j : Int) (B : qA) : fM_drought_L (nF + 1) 91 [l1, l3, y, u, b, k, e, s, j] B = fM_drought_c91 (fM_drought_L nF) l1 l3 y u b k e s j B := (congrFun (congrFun (congrFun (fM_drought_L.eq_2 nF) 91) [l1, l3, y, u, b, k, e, s, j]) B).trans (qL0 rfl (qL0 rfl (qL0 rfl (qL0 rfl (qL0 rfl (qL1 rfl rfl))))))
theorem fM_drought_L105 (nF : Nat) (l1 l3 y u b k e s j : Int) (B : qA) : fM_drought_L (nF + 1) 105 [l1, l3, y, u, b, k, e, s, j] B = fM_drought_c105 (fM_drought_L nF) l1 l3 y u b k e s j B := (congrFun (congrFun (congrFun (fM_drought_L.eq_2 nF) 105) [l1, l3, y, u, b, k, e, s, j]) B).trans (qL0 rfl (qL0 rfl (qL0 rfl (qL0 rfl (qL0 rfl (qL0 rfl (qL1 rfl rfl)))))))
theorem fM_drought_L155 (nF : Nat) (l1 l3 y u b k j : Int) (B : qA) : fM_drought_L (nF + 1) 155 [l1, l3, y, u, b, k, j] B = fM_drought_c155 (fM_drought_L nF) l1 l3 y u b k j B := (congrFun (congrFun (congrFun (fM_drought_L.eq_2 nF) 155) [l1, l3, y, u, b, k, j]) B).trans (qL0 rfl (qL0 rfl (qL0 rfl (qL0 rfl (qL0 rfl (qL0 rfl (qL0 rfl (qL1 rfl rfl))))))))
def fM_drought (d c w : Int) (A : qA) : Int × qA := (if 0 ≤ d ∧ d ≤ 36 then (if 1 ≤ c ∧ c ≤ 255 then qlet (fM_bits2 c A) fun r6 => (if 4 < r6 then ((-2), A) else (fM_drought_L 100000000) 20 [d, c, w, 0, 0] A) else ((-2), A)) else ((-2), A))
def sM_drought : qS := fun as A K => ∃ d c w : Int, as = [rf 0, ni d, ni c, ni w] ∧ (iva IM A ∧ ivf JM A ∧ (WF A)) ∧ (∀ A' : qA, iva IM A' → ivf JM A' → frm [60, 59, 36, 37, 10, 62, 61, 34, 35] [] A A' → ∀ r : Int, rng r → (r = (fM_drought d c w A).1) → (A' = (fM_drought d c w A).2) → K (some (ni r)) A')
theorem okM_drought : okM LM 6 235 sM_drought := by
  refine qmeth [] true [(145, sM_in), (236, sM_bits2), (195, sM_flows), (234, sM_growth)] 201 rfl ⟨okM_in.le (by decide), ⟨okM_bits2.le (by decide), ⟨okM_flows.le (by decide), ⟨okM_growth.le (by decide), trivial⟩⟩⟩⟩ ?_
  rintro _ A K hA has ⟨d, c, w, rfl, ⟨i0, j0, p1⟩, hK⟩
  have rg_d : rng d := has (ni d) (by simp)
  have rg_c : rng c := has (ni c) (by simp)
  have rg_w : rng w := has (ni w) (by simp)
  have f0 := frm_0 [60, 59, 36, 37, 10, 62, 61, 34, 35] [] A
  have hT : _ = fM_drought d c w A := (fM_drought.eq_1 d c w A).symm
  refine ⟨Nat.le_of_ble_eq_true rfl, [(20, [(0, 2, 0), (1, 0, 0), (2, 0, 0), (3, 0, 0), (4, 0, 0), (5, 0, 0)], fun zs B nn => match zs with | [l1, l2, l3, y, x] => iva IM B ∧ ivf JM B ∧ frm [60, 59, 36, 37, 10, 62, 61, 34, 35] [] A B ∧ nn = (90000000 - x : Int).toNat ∧ (l1 = d) ∧ (l2 = c) ∧ (l3 = w) ∧ (0 ≤ x) ∧ (x ≤ 8) ∧ (0 ≤ y) ∧ (y = bc c x) ∧ (bc c 8 ≤ 4) ∧ (∃ nf : Nat, nn < nf ∧ fM_drought_L nf 20 [l1, l2, l3, y, x] B = fM_drought d c w A) | _ => False), (52, [(0, 2, 0), (1, 0, 0), (3, 0, 0), (4, 0, 0), (5, 0, 0)], fun zs B nn => match zs with | [l1, l3, y, j] => iva IM B ∧ ivf JM B ∧ frm [60, 59, 36, 37, 10, 62, 61, 34, 35] [] A B ∧ nn = (80000000 - j : Int).toNat ∧ (l1 = d) ∧ (l3 = w) ∧ (0 ≤ j) ∧ (j ≤ 48) ∧ (0 ≤ y) ∧ (y ≤ 4) ∧ ((-1) ≤ w) ∧ (w ≤ 3) ∧ (∃ nf : Nat, nn < nf ∧ fM_drought_L nf 52 [l1, l3, y, j] B = fM_drought d c w A) | _ => False), (69, [(0, 2, 0), (1, 0, 0), (3, 0, 0), (4, 0, 0), (5, 0, 0), (6, 0, 0)], fun zs B nn => match zs with | [l1, l3, y, u, q] => iva IM B ∧ ivf JM B ∧ frm [60, 59, 36, 37, 10, 62, 61, 34, 35] [] A B ∧ nn = (70000000 - q : Int).toNat ∧ (l1 = d) ∧ (l3 = w) ∧ (0 ≤ q) ∧ (q ≤ 4) ∧ (1 ≤ u) ∧ (u ≤ 10000) ∧ (0 ≤ y) ∧ (y ≤ 4) ∧ ((-1) ≤ w) ∧ (w ≤ 3) ∧ (q = 0 → u = 1) ∧ (q = 1 → u = 10) ∧ (q = 2 → u = 100) ∧ (q = 3 → u = 1000) ∧ (q = 4 → u = 10000) ∧ (∃ nf : Nat, nn < nf ∧ fM_drought_L nf 69 [l1, l3, y, u, q] B = fM_drought d c w A) | _ => False), (82, [(0, 2, 0), (1, 0, 0), (3, 0, 0), (4, 0, 0), (5, 0, 0), (6, 0, 0), (7, 0, 0)], fun zs B nn => match zs with | [l1, l3, y, u, b, k] => iva IM B ∧ ivf JM B ∧ frm [60, 59, 36, 37, 10, 62, 61, 34, 35] [] A B ∧ nn = ((10000 - k) * 2000 + 1999 : Int).toNat ∧ (l1 = d) ∧ (l3 = w) ∧ (0 ≤ k) ∧ (k ≤ 10000) ∧ (1 ≤ u) ∧ (u ≤ 10000) ∧ (0 ≤ y) ∧ (y ≤ 4) ∧ ((-1) ≤ w) ∧ (w ≤ 3) ∧ (∃ nf : Nat, nn < nf ∧ fM_drought_L nf 82 [l1, l3, y, u, b, k] B = fM_drought d c w A) | _ => False), (172, [(0, 2, 0), (3, 0, 0), (6, 0, 0), (7, 0, 0)], fun zs B nn => match zs with | [l3, b, j] => iva IM B ∧ ivf JM B ∧ frm [60, 59, 36, 37, 10, 62, 61, 34, 35] [] A B ∧ nn = (48 - j : Int).toNat ∧ (l3 = w) ∧ (0 ≤ j) ∧ (j ≤ 48) ∧ ((-1) ≤ w) ∧ (w ≤ 3) ∧ (∃ nf : Nat, nn < nf ∧ fM_drought_L nf 172 [l3, b, j] B = fM_drought d c w A) | _ => False), (91, [(0, 2, 0), (1, 0, 0), (3, 0, 0), (4, 0, 0), (5, 0, 0), (6, 0, 0), (7, 0, 0), (8, 0, 0), (9, 0, 0), (10, 0, 0)], fun zs B nn => match zs with | [l1, l3, y, u, b, k, e, s, j] => iva IM B ∧ ivf JM B ∧ frm [60, 59, 36, 37, 10, 62, 61, 34, 35] [] A B ∧ nn = ((10000 - k) * 2000 + 900 - j : Int).toNat ∧ (l1 = d) ∧ (l3 = w) ∧ (0 ≤ k) ∧ (k ≤ 9999) ∧ (1 ≤ u) ∧ (u ≤ 10000) ∧ (0 ≤ j) ∧ (j ≤ 8) ∧ (0 ≤ e) ∧ (0 ≤ y) ∧ (y ≤ 4) ∧ ((-1) ≤ w) ∧ (w ≤ 3) ∧ (∃ nf : Nat, nn < nf ∧ fM_drought_L nf 91 [l1, l3, y, u, b, k, e, s, j] B = fM_drought d c w A) | _ => False), (105, [(0, 2, 0), (1, 0, 0), (3, 0, 0), (4, 0, 0), (5, 0, 0), (6, 0, 0), (7, 0, 0), (8, 0, 0), (9, 0, 0), (10, 0, 0)], fun zs B nn => match zs with | [l1, l3, y, u, b, k, e, s, j] => iva IM B ∧ ivf JM B ∧ frm [60, 59, 36, 37, 10, 62, 61, 34, 35] [] A B ∧ nn = ((10000 - k) * 2000 + 800 + j : Int).toNat ∧ (l1 = d) ∧ (l3 = w) ∧ (0 ≤ k) ∧ (k ≤ 9999) ∧ (1 ≤ u) ∧ (u ≤ 10000) ∧ ((-1) ≤ j) ∧ (j ≤ 3) ∧ (0 ≤ e) ∧ (0 ≤ y) ∧ (y ≤ 4) ∧ ((-1) ≤ w) ∧ (w ≤ 3) ∧ (∃ nf : Nat, nn < nf ∧ fM_drought_L nf 105 [l1, l3, y, u, b, k, e, s, j] B = fM_drought d c w A) | _ => False), (155, [(0, 2, 0), (1, 0, 0), (3, 0, 0), (4, 0, 0), (5, 0, 0), (6, 0, 0), (7, 0, 0), (11, 0, 0)], fun zs B nn => match zs with | [l1, l3, y, u, b, k, j] => iva IM B ∧ ivf JM B ∧ frm [60, 59, 36, 37, 10, 62, 61, 34, 35] [] A B ∧ nn = ((10000 - k) * 2000 + 700 - j : Int).toNat ∧ (l1 = d) ∧ (l3 = w) ∧ (0 ≤ k) ∧ (k ≤ 9999) ∧ (1 ≤ u) ∧ (u ≤ 10000) ∧ (0 ≤ j) ∧ (j ≤ 4) ∧ (0 ≤ y) ∧ (y ≤ 4) ∧ ((-1) ≤ w) ∧ (w ≤ 3) ∧ (∃ nf : Nat, nn < nf ∧ fM_drought_L nf 155 [l1, l3, y, u, b, k, j] B = fM_drought d c w A) | _ => False)], ?_, ?_⟩
  · refine ⟨⟨rfl, ?_⟩, ⟨rfl, ?_⟩, ⟨rfl, ?_⟩, ⟨rfl, ?_⟩, ⟨rfl, ?_⟩, ⟨rfl, ?_⟩, ⟨rfl, ?_⟩, ⟨rfl, ?_⟩, trivial⟩
    · refine fun l1 l2 l3 y x B mm hB hz hI => ?_
      obtain ⟨i1, j1, f1, hm, c0, c1, c2, c3, c4, c5, c6, c7, ⟨nf, hnf, hT⟩⟩ := hI
      obtain ⟨hz_l1, hz_l2, hz_l3, hz_y, hz_x, _⟩ := hz
      obtain ⟨ng, rfl⟩ : ∃ k, nf = k + 1 := ⟨nf - 1, by omega⟩
      replace hT := (fM_drought_c20.eq_1 (fM_drought_L ng) l1 l2 l3 y x B).symm.trans ((fM_drought_L20 ng l1 l2 l3 y x B).symm.trans hT)
      refine And.intro (fun h14 => ?_) (fun h14 => ?_)
      · replace hT := (if_neg (Int.not_lt.mpr h14)).symm.trans hT
        have q3 : bc c x = bc c 8 := by rw [show x = 8 by (first | (clear hm hnf; omega) | omega)]
        refine fun v15 e16 => ?_
        replace hT := qlc e16 hT
        have w17 := wI_rng v15
        have w18 : wI v15 = v15 := wI_id (by (first | (clear hm hnf; omega) | omega))
        refine Exists.intro l3 (Exists.intro (-1) (Exists.intro (wI v15) (And.intro rfl (And.intro (fun h19 => ?_) (fun h19 => ?_)))))
        · replace hT := (if_pos h19).symm.trans hT
          refine And.intro (fun h20 => ?_) (fun h20 => by exfalso; omega)
          exact Exists.intro (80000000 - 0 : Int).toNat (And.intro (by first | exact qtn hm (by (try clear hm hnf); omega) | omega) (And.intro i1 (And.intro j1 (And.intro f1 (And.intro rfl (And.intro (by (first | (clear hm hnf; omega) | omega)) (And.intro (by (first | (clear hm hnf; omega) | omega)) (And.intro (by (first | (clear hm hnf; omega) | omega)) (And.intro (by (first | (clear hm hnf; omega) | omega)) (And.intro (by (first | (clear hm hnf; omega) | omega)) (And.intro (by (first | (clear hm hnf; omega) | omega)) (And.intro (by (first | (clear hm hnf; omega) | omega)) (And.intro (by (first | (clear hm hnf; omega) | omega)) (Exists.intro ng (And.intro (by first | exact qtm hm hnf (by (try clear hm hnf); omega) | omega) hT)))))))))))))))
        · replace hT := (if_neg h19).symm.trans hT
          refine And.intro (fun h21 => by exfalso; omega) (fun h21 => ?_)
          exact hK _ i1 j1 f1 _ (by first | assumption | exact ⟨by (first | (clear hm hnf; omega) | omega), by (first | (clear hm hnf; omega) | omega)⟩ | exact wI_rng _ | exact i_rng _ | (subst_vars; exact i_rng _) | exact (hA _ _).2 rfl) (congrArg Prod.fst hT) (congrArg Prod.snd hT)
      · replace hT := (if_pos h14).symm.trans hT
        refine fun v22 e23 => ?_
        replace hT := qlc e23 hT
        refine fun v24 e25 => ?_
        replace hT := qlc e25 hT
        have h26 := ia_bd (a := v22) (b := 1) (by (first | (clear hm hnf; omega) | omega)) (by (first | (clear hm hnf; omega) | omega))
        have q1 : bc c (x + 1) = bc c x + v24 := by rw [bc_s (by (first | (clear hm hnf; omega) | omega))]; subst_vars; rfl
        have q2 := bc_m (x := c) (j := x + 1) (k := 8) (by (first | (clear hm hnf; omega) | omega)) (by (first | (clear hm hnf; omega) | omega))
        refine And.intro (fun h27 => ?_) (fun h27 => ?_)
        · replace hT := (if_neg h27).symm.trans hT
          refine And.intro (by (first | (clear hm hnf; omega) | omega)) (fun A28 e29 => ?_)
          replace hT := qlc e29 hT
          have i30 := iva_st i1 e29 (And.intro (by (first | (clear hm hnf; omega) | omega)) trivial)
          have j31 := ivf_sa j1 e29 rfl
          have f32 := frm_s f1 e29 rfl
          refine fun v33 e34 => ?_
          replace hT := qlc e34 hT
          refine fun v35 e36 => ?_
          replace hT := qlc e36 hT
          have w37 := wI_rng v33
          have w38 : wI v33 = v33 := wI_id (by (first | (clear hm hnf; omega) | omega))
          have w39 := wI_rng v35
          have w40 : wI v35 = v35 := wI_id (by (first | (clear hm hnf; omega) | omega))
          exact Exists.intro (90000000 - ((wI v35)) : Int).toNat (And.intro (by first | exact qtn hm (by (try clear hm hnf); omega) | omega) (And.intro i30 (And.intro j31 (And.intro f32 (And.intro rfl (And.intro (by (first | (clear hm hnf; omega) | omega)) (And.intro (by (first | (clear hm hnf; omega) | omega)) (And.intro (by (first | (clear hm hnf; omega) | omega)) (And.intro (by (first | (clear hm hnf; omega) | omega)) (And.intro (by (first | (clear hm hnf; omega) | omega)) (And.intro (by (first | (clear hm hnf; omega) | omega)) (And.intro (by first | exact (bc_0 c).symm | (rw [show ((wI v35)) = x + 1 by (first | (clear hm hnf; omega) | omega)]; omega)) (And.intro (by (first | (clear hm hnf; omega) | omega)) (Exists.intro ng (And.intro (by first | exact qtm hm hnf (by (try clear hm hnf); omega) | omega) hT)))))))))))))))
        · replace hT := (if_pos h27).symm.trans hT
          refine fun v41 e42 => ?_
          replace hT := qlc e42 hT
          have w43 := wI_rng v41
          have w44 : wI v41 = v41 := wI_id (by (first | (clear hm hnf; omega) | omega))
          exact Exists.intro (90000000 - ((wI v41)) : Int).toNat (And.intro (by first | exact qtn hm (by (try clear hm hnf); omega) | omega) (And.intro i1 (And.intro j1 (And.intro f1 (And.intro rfl (And.intro (by (first | (clear hm hnf; omega) | omega)) (And.intro (by (first | (clear hm hnf; omega) | omega)) (And.intro (by (first | (clear hm hnf; omega) | omega)) (And.intro (by (first | (clear hm hnf; omega) | omega)) (And.intro (by (first | (clear hm hnf; omega) | omega)) (And.intro (by (first | (clear hm hnf; omega) | omega)) (And.intro (by first | exact (bc_0 c).symm | (rw [show ((wI v41)) = x + 1 by (first | (clear hm hnf; omega) | omega)]; omega)) (And.intro (by (first | (clear hm hnf; omega) | omega)) (Exists.intro ng (And.intro (by first | exact qtm hm hnf (by (try clear hm hnf); omega) | omega) hT)))))))))))))))
    · refine fun l1 l3 y j B mm hB hz hI => ?_
      obtain ⟨i1, j1, f1, hm, c0, c1, c2, c3, c4, c5, c6, c7, ⟨nf, hnf, hT⟩⟩ := hI
      obtain ⟨hz_l1, hz_l3, hz_y, hz_j, _⟩ := hz
      obtain ⟨ng, rfl⟩ : ∃ k, nf = k + 1 := ⟨nf - 1, by omega⟩
      replace hT := (fM_drought_c52.eq_1 (fM_drought_L ng) l1 l3 y j B).symm.trans ((fM_drought_L52 ng l1 l3 y j B).symm.trans hT)
      refine And.intro (fun h45 => ?_) (fun h45 => ?_)
      · replace hT := (if_neg (Int.not_lt.mpr h45)).symm.trans hT
        exact Exists.intro (70000000 - 0 : Int).toNat (And.intro (by first | exact qtn hm (by (try clear hm hnf); omega) | omega) (And.intro i1 (And.intro j1 (And.intro f1 (And.intro rfl (And.intro (by (first | (clear hm hnf; omega) | omega)) (And.intro (by (first | (clear hm hnf; omega) | omega)) (And.intro (by (first | (clear hm hnf; omega) | omega)) (And.intro (by (first | (clear hm hnf; omega) | omega)) (And.intro (by (first | (clear hm hnf; omega) | omega)) (And.intro (by (first | (clear hm hnf; omega) | omega)) (And.intro (by (first | (clear hm hnf; omega) | omega)) (And.intro (by (first | (clear hm hnf; omega) | omega)) (And.intro (by (first | (clear hm hnf; omega) | omega)) (And.intro (by (first | (clear hm hnf; omega) | omega)) (And.intro (by (first | (clear hm hnf; omega) | omega)) (And.intro (by (first | (clear hm hnf; omega) | omega)) (And.intro (by (first | (clear hm hnf; omega) | omega)) (And.intro (by (first | (clear hm hnf; omega) | omega)) (And.intro (by (first | (clear hm hnf; omega) | omega)) (Exists.intro ng (And.intro (by first | exact qtm hm hnf (by (try clear hm hnf); omega) | omega) hT))))))))))))))))))))))
      · replace hT := (if_pos h45).symm.trans hT
        refine And.intro (by (first | (clear hm hnf; omega) | omega)) (fun v46 gv46 e47 => ?_)
        replace hT := qlc e47 hT
        refine And.intro (by (first | (clear hm hnf; omega) | omega)) (fun A48 e49 => ?_)
        replace hT := qlc e49 hT
        have i50 := iva_st i1 e49 trivial
        have j51 := ivf_sa j1 e49 rfl
        have f52 := frm_s f1 e49 rfl
        refine fun v53 e54 => ?_
        replace hT := qlc e54 hT
        have w55 := wI_rng v53
        have w56 : wI v53 = v53 := wI_id (by (first | (clear hm hnf; omega) | omega))
        exact Exists.intro (80000000 - ((wI v53)) : Int).toNat (And.intro (by first | exact qtn hm (by (try clear hm hnf); omega) | omega) (And.intro i50 (And.intro j51 (And.intro f52 (And.intro rfl (And.intro (by (first | (clear hm hnf; omega) | omega)) (And.intro (by (first | (clear hm hnf; omega) | omega)) (And.intro (by (first | (clear hm hnf; omega) | omega)) (And.intro (by (first | (clear hm hnf; omega) | omega)) (And.intro (by (first | (clear hm hnf; omega) | omega)) (And.intro (by (first | (clear hm hnf; omega) | omega)) (And.intro (by (first | (clear hm hnf; omega) | omega)) (And.intro (by (first | (clear hm hnf; omega) | omega)) (Exists.intro ng (And.intro (by first | exact qtm hm hnf (by (try clear hm hnf); omega) | omega) hT)))))))))))))))
    · refine fun l1 l3 y u q B mm hB hz hI => ?_
      obtain ⟨i1, j1, f1, hm, c0, c1, c2, c3, c4, c5, c6, c7, c8, c9, c10, c11, c12, c13, c14, ⟨nf, hnf, hT⟩⟩ := hI
      obtain ⟨hz_l1, hz_l3, hz_y, hz_u, hz_q, _⟩ := hz
      obtain ⟨ng, rfl⟩ : ∃ k, nf = k + 1 := ⟨nf - 1, by omega⟩
      replace hT := (fM_drought_c69.eq_1 (fM_drought_L ng) l1 l3 y u q B).symm.trans ((fM_drought_L69 ng l1 l3 y u q B).symm.trans hT)
      refine And.intro (fun h57 => ?_) (fun h57 => ?_)
      · replace hT := (if_neg (Int.not_lt.mpr h57)).symm.trans hT
        exact Exists.intro ((10000 - 0) * 2000 + 1999 : Int).toNat (And.intro (by first | exact qtn hm (by (try clear hm hnf); omega) | omega) (And.intro i1 (And.intro j1 (And.intro f1 (And.intro rfl (And.intro (by (first | (clear hm hnf; omega) | omega)) (And.intro (by (first | (clear hm hnf; omega) | omega)) (And.intro (by (first | (clear hm hnf; omega) | omega)) (And.intro (by (first | (clear hm hnf; omega) | omega)) (And.intro (by (first | (clear hm hnf; omega) | omega)) (And.intro (by (first | (clear hm hnf; omega) | omega)) (And.intro (by (first | (clear hm hnf; omega) | omega)) (And.intro (by (first | (clear hm hnf; omega) | omega)) (And.intro (by (first | (clear hm hnf; omega) | omega)) (And.intro (by (first | (clear hm hnf; omega) | omega)) (Exists.intro ng (And.intro (by first | exact qtm hm hnf (by (try clear hm hnf); omega) | omega) hT)))))))))))))))))
      · replace hT := (if_pos h57).symm.trans hT
        refine fun v58 e59 => ?_
        replace hT := qlc e59 hT
        refine fun v60 e61 => ?_
        replace hT := qlc e61 hT
        have w62 := wI_rng v58
        have w63 : wI v58 = v58 := wI_id (by (first | (clear hm hnf; omega) | omega))
        have w64 := wI_rng v60
        have w65 : wI v60 = v60 := wI_id (by (first | (clear hm hnf; omega) | omega))
        exact Exists.intro (70000000 - ((wI v60)) : Int).toNat (And.intro (by first | exact qtn hm (by (try clear hm hnf); omega) | omega) (And.intro i1 (And.intro j1 (And.intro f1 (And.intro rfl (And.intro (by (first | (clear hm hnf; omega) | omega)) (And.intro (by (first | (clear hm hnf; omega) | omega)) (And.intro (by (first | (clear hm hnf; omega) | omega)) (And.intro (by (first | (clear hm hnf; omega) | omega)) (And.intro (by (first | (clear hm hnf; omega) | omega)) (And.intro (by (first | (clear hm hnf; omega) | omega)) (And.intro (by (first | (clear hm hnf; omega) | omega)) (And.intro (by (first | (clear hm hnf; omega) | omega)) (And.intro (by (first | (clear hm hnf; omega) | omega)) (And.intro (by (first | (clear hm hnf; omega) | omega)) (And.intro (by (first | (clear hm hnf; omega) | omega)) (And.intro (by (first | (clear hm hnf; omega) | omega)) (And.intro (by (first | (clear hm hnf; omega) | omega)) (And.intro (by (first | (clear hm hnf; omega) | omega)) (And.intro (by (first | (clear hm hnf; omega) | omega)) (Exists.intro ng (And.intro (by first | exact qtm hm hnf (by (try clear hm hnf); omega) | omega) hT))))))))))))))))))))))
    · refine fun l1 l3 y u b k B mm hB hz hI => ?_
      obtain ⟨i1, j1, f1, hm, c0, c1, c2, c3, c4, c5, c6, c7, c8, c9, ⟨nf, hnf, hT⟩⟩ := hI
      obtain ⟨hz_l1, hz_l3, hz_y, hz_u, hz_b, hz_k, _⟩ := hz
      obtain ⟨ng, rfl⟩ : ∃ k, nf = k + 1 := ⟨nf - 1, by omega⟩
      replace hT := (fM_drought_c82.eq_1 (fM_drought_L ng) l1 l3 y u b k B).symm.trans ((fM_drought_L82 ng l1 l3 y u b k B).symm.trans hT)
      refine And.intro (fun h66 => ?_) (fun h66 => ?_)
      · replace hT := (if_neg (Int.not_lt.mpr h66)).symm.trans hT
        exact Exists.intro (48 - 0 : Int).toNat (And.intro (by first | exact qtn hm (by (try clear hm hnf); omega) | omega) (And.intro i1 (And.intro j1 (And.intro f1 (And.intro rfl (And.intro (by (first | (clear hm hnf; omega) | omega)) (And.intro (by (first | (clear hm hnf; omega) | omega)) (And.intro (by (first | (clear hm hnf; omega) | omega)) (And.intro (by (first | (clear hm hnf; omega) | omega)) (And.intro (by (first | (clear hm hnf; omega) | omega)) (Exists.intro ng (And.intro (by first | exact qtm hm hnf (by (try clear hm hnf); omega) | omega) hT))))))))))))
      · replace hT := (if_pos h66).symm.trans hT
        exact Exists.intro ((10000 - k) * 2000 + 900 - 0 : Int).toNat (And.intro (by first | exact qtn hm (by (try clear hm hnf); omega) | omega) (And.intro i1 (And.intro j1 (And.intro f1 (And.intro rfl (And.intro (by (first | (clear hm hnf; omega) | omega)) (And.intro (by (first | (clear hm hnf; omega) | omega)) (And.intro (by (first | (clear hm hnf; omega) | omega)) (And.intro (by (first | (clear hm hnf; omega) | omega)) (And.intro (by (first | (clear hm hnf; omega) | omega)) (And.intro (by (first | (clear hm hnf; omega) | omega)) (And.intro (by (first | (clear hm hnf; omega) | omega)) (And.intro (by (first | (clear hm hnf; omega) | omega)) (And.intro (by (first | (clear hm hnf; omega) | omega)) (And.intro (by (first | (clear hm hnf; omega) | omega)) (And.intro (by (first | (clear hm hnf; omega) | omega)) (And.intro (by (first | (clear hm hnf; omega) | omega)) (And.intro (by (first | (clear hm hnf; omega) | omega)) (Exists.intro ng (And.intro (by first | exact qtm hm hnf (by (try clear hm hnf); omega) | omega) hT))))))))))))))))))))
    · refine fun l3 b j B mm hB hz hI => ?_
      obtain ⟨i1, j1, f1, hm, c0, c1, c2, c3, c4, ⟨nf, hnf, hT⟩⟩ := hI
      obtain ⟨hz_l3, hz_b, hz_j, _⟩ := hz
      obtain ⟨ng, rfl⟩ : ∃ k, nf = k + 1 := ⟨nf - 1, by omega⟩
      replace hT := (fM_drought_c172.eq_1 (fM_drought_L ng) l3 b j B).symm.trans ((fM_drought_L172 ng l3 b j B).symm.trans hT)
      refine And.intro (fun h67 => ?_) (fun h67 => ?_)
      · replace hT := (if_neg (Int.not_lt.mpr h67)).symm.trans hT
        refine And.intro (fun h68 => ?_) (fun h68 => ?_)
        · replace hT := (if_neg h68).symm.trans hT
          refine And.intro (by (first | (clear hm hnf; omega) | omega)) (fun v69 gv69 e70 => ?_)
          replace hT := qlc e70 hT
          have b71 := iva_at i1 25 rfl (i := l3) (by (first | (clear hm hnf; omega) | omega)) (by (first | (clear hm hnf; omega) | omega))
          exact hK _ i1 j1 f1 _ (by first | assumption | exact ⟨by (first | (clear hm hnf; omega) | omega), by (first | (clear hm hnf; omega) | omega)⟩ | exact wI_rng _ | exact i_rng _ | (subst_vars; exact i_rng _) | exact (hA _ _).2 rfl) (congrArg Prod.fst hT) (congrArg Prod.snd hT)
        · replace hT := (if_pos h68).symm.trans hT
          exact hK _ i1 j1 f1 _ (by first | assumption | exact ⟨by (first | (clear hm hnf; omega) | omega), by (first | (clear hm hnf; omega) | omega)⟩ | exact wI_rng _ | exact i_rng _ | (subst_vars; exact i_rng _) | exact (hA _ _).2 rfl) (congrArg Prod.fst hT) (congrArg Prod.snd hT)
      · replace hT := (if_pos h67).symm.trans hT
        refine And.intro (by (first | (clear hm hnf; omega) | omega)) (fun v72 gv72 e73 => ?_)
        replace hT := qlc e73 hT
        refine And.intro (by (first | (clear hm hnf; omega) | omega)) (fun A74 e75 => ?_)
        replace hT := qlc e75 hT
        have i76 := iva_st i1 e75 trivial
        have j77 := ivf_sa j1 e75 rfl
        have f78 := frm_s f1 e75 rfl
        refine fun v79 e80 => ?_
        replace hT := qlc e80 hT
        have w81 := wI_rng v79
        have w82 : wI v79 = v79 := wI_id (by (first | (clear hm hnf; omega) | omega))
        exact Exists.intro (48 - ((wI v79)) : Int).toNat (And.intro (by first | exact qtn hm (by (try clear hm hnf); omega) | omega) (And.intro i76 (And.intro j77 (And.intro f78 (And.intro rfl (And.intro (by (first | (clear hm hnf; omega) | omega)) (And.intro (by (first | (clear hm hnf; omega) | omega)) (And.intro (by (first | (clear hm hnf; omega) | omega)) (And.intro (by (first | (clear hm hnf; omega) | omega)) (And.intro (by (first | (clear hm hnf; omega) | omega)) (Exists.intro ng (And.intro (by first | exact qtm hm hnf (by (try clear hm hnf); omega) | omega) hT))))))))))))
    · refine fun l1 l3 y u b k e s j B mm hB hz hI => ?_
      obtain ⟨i1, j1, f1, hm, c0, c1, c2, c3, c4, c5, c6, c7, c8, c9, c10, c11, c12, ⟨nf, hnf, hT⟩⟩ := hI
      obtain ⟨hz_l1, hz_l3, hz_y, hz_u, hz_b, hz_k, hz_e, hz_s, hz_j, _⟩ := hz
      obtain ⟨ng, rfl⟩ : ∃ k, nf = k + 1 := ⟨nf - 1, by omega⟩
      replace hT := (fM_drought_c91.eq_1 (fM_drought_L ng) l1 l3 y u b k e s j B).symm.trans ((fM_drought_L91 ng l1 l3 y u b k e s j B).symm.trans hT)
      refine And.intro (fun h83 => ?_) (fun h83 => ?_)
      · replace hT := (if_neg (Int.not_lt.mpr h83)).symm.trans hT
        refine fun v84 e85 => ?_
        replace hT := qlc e85 hT
        have w86 := wI_rng v84
        have w87 : wI v84 = v84 := wI_id (by (first | (clear hm hnf; omega) | omega))
        exact Exists.intro ((10000 - k) * 2000 + 800 + ((wI v84)) : Int).toNat (And.intro (by first | exact qtn hm (by (try clear hm hnf); omega) | omega) (And.intro i1 (And.intro j1 (And.intro f1 (And.intro rfl (And.intro (by (first | (clear hm hnf; omega) | omega)) (And.intro (by (first | (clear hm hnf; omega) | omega)) (And.intro (by (first | (clear hm hnf; omega) | omega)) (And.intro (by (first | (clear hm hnf; omega) | omega)) (And.intro (by (first | (clear hm hnf; omega) | omega)) (And.intro (by (first | (clear hm hnf; omega) | omega)) (And.intro (by (first | (clear hm hnf; omega) | omega)) (And.intro (by (first | (clear hm hnf; omega) | omega)) (And.intro (by (first | (clear hm hnf; omega) | omega)) (And.intro (by (first | (clear hm hnf; omega) | omega)) (And.intro (by (first | (clear hm hnf; omega) | omega)) (And.intro (by (first | (clear hm hnf; omega) | omega)) (And.intro (by (first | (clear hm hnf; omega) | omega)) (Exists.intro ng (And.intro (by first | exact qtm hm hnf (by (try clear hm hnf); omega) | omega) hT))))))))))))))))))))
      · replace hT := (if_pos h83).symm.trans hT
        refine And.intro (by (first | (clear hm hnf; omega) | omega)) (fun A88 e89 => ?_)
        replace hT := qlc e89 hT
        have i90 := iva_st i1 e89 trivial
        have j91 := ivf_sa j1 e89 rfl
        have f92 := frm_s f1 e89 rfl
        refine fun v93 e94 => ?_
        replace hT := qlc e94 hT
        have w95 := wI_rng v93
        have w96 : wI v93 = v93 := wI_id (by (first | (clear hm hnf; omega) | omega))
        exact Exists.intro ((10000 - k) * 2000 + 900 - ((wI v93)) : Int).toNat (And.intro (by first | exact qtn hm (by (try clear hm hnf); omega) | omega) (And.intro i90 (And.intro j91 (And.intro f92 (And.intro rfl (And.intro (by (first | (clear hm hnf; omega) | omega)) (And.intro (by (first | (clear hm hnf; omega) | omega)) (And.intro (by (first | (clear hm hnf; omega) | omega)) (And.intro (by (first | (clear hm hnf; omega) | omega)) (And.intro (by (first | (clear hm hnf; omega) | omega)) (And.intro (by (first | (clear hm hnf; omega) | omega)) (And.intro (by (first | (clear hm hnf; omega) | omega)) (And.intro (by (first | (clear hm hnf; omega) | omega)) (And.intro (by (first | (clear hm hnf; omega) | omega)) (And.intro (by (first | (clear hm hnf; omega) | omega)) (And.intro (by (first | (clear hm hnf; omega) | omega)) (And.intro (by (first | (clear hm hnf; omega) | omega)) (And.intro (by (first | (clear hm hnf; omega) | omega)) (Exists.intro ng (And.intro (by first | exact qtm hm hnf (by (try clear hm hnf); omega) | omega) hT))))))))))))))))))))
    · refine fun l1 l3 y u b k e s j B mm hB hz hI => ?_
      obtain ⟨i1, j1, f1, hm, c0, c1, c2, c3, c4, c5, c6, c7, c8, c9, c10, c11, c12, ⟨nf, hnf, hT⟩⟩ := hI
      obtain ⟨hz_l1, hz_l3, hz_y, hz_u, hz_b, hz_k, hz_e, hz_s, hz_j, _⟩ := hz
      obtain ⟨ng, rfl⟩ : ∃ k, nf = k + 1 := ⟨nf - 1, by omega⟩
      replace hT := (fM_drought_c105.eq_1 (fM_drought_L ng) l1 l3 y u b k e s j B).symm.trans ((fM_drought_L105 ng l1 l3 y u b k e s j B).symm.trans hT)
      refine And.intro (fun h97 => ?_) (fun h97 => ?_)
      · replace hT := (if_pos h97).symm.trans hT
        refine And.intro (fun h98 => ?_) (fun h98 => ?_)
        · replace hT := (if_neg (Int.not_lt.mpr h98)).symm.trans hT
          refine And.intro rfl (And.intro (And.intro i1 j1) (fun A99 i100 j101 f102 g103 => ?_))
          replace hT := qlc g103 hT
          have f104 := frm_c f1 f102 rfl
          refine And.intro rfl (And.intro (And.intro i100 (And.intro j101 (WF_fr p1 f104 rfl))) (fun A105 i106 j107 f108 r109 g112 g110 g111 => ?_))
          replace hT := qlpc g110 g111 hT
          clear g110 g111
          have f113 := frm_c f104 f108 rfl
          refine And.intro (fun h114 => ?_) (fun h114 => ?_)
          · replace hT := (if_pos h114).symm.trans hT
            exact Exists.intro ((10000 - k) * 2000 + 700 - 0 : Int).toNat (And.intro (by first | exact qtn hm (by (try clear hm hnf); omega) | omega) (And.intro i106 (And.intro j107 (And.intro f113 (And.intro rfl (And.intro (by (first | (clear hm hnf; omega) | omega)) (And.intro (by (first | (clear hm hnf; omega) | omega)) (And.intro (by (first | (clear hm hnf; omega) | omega)) (And.intro (by (first | (clear hm hnf; omega) | omega)) (And.intro (by (first | (clear hm hnf; omega) | omega)) (And.intro (by (first | (clear hm hnf; omega) | omega)) (And.intro (by (first | (clear hm hnf; omega) | omega)) (And.intro (by (first | (clear hm hnf; omega) | omega)) (And.intro (by (first | (clear hm hnf; omega) | omega)) (And.intro (by (first | (clear hm hnf; omega) | omega)) (And.intro (by (first | (clear hm hnf; omega) | omega)) (And.intro (by (first | (clear hm hnf; omega) | omega)) (Exists.intro ng (And.intro (by first | exact qtm hm hnf (by (try clear hm hnf); omega) | omega) hT)))))))))))))))))))
          · replace hT := (if_neg (Int.not_lt.mpr h114)).symm.trans hT
            refine fun v115 e116 => ?_
            replace hT := qlc e116 hT
            have w117 := wI_rng v115
            have w118 : wI v115 = v115 := wI_id (by (first | (clear hm hnf; omega) | omega))
            exact Exists.intro ((10000 - ((wI v115))) * 2000 + 1999 : Int).toNat (And.intro (by first | exact qtn hm (by (try clear hm hnf); omega) | omega) (And.intro i106 (And.intro j107 (And.intro f113 (And.intro rfl (And.intro (by (first | (clear hm hnf; omega) | omega)) (And.intro (by (first | (clear hm hnf; omega) | omega)) (And.intro (by (first | (clear hm hnf; omega) | omega)) (And.intro (by (first | (clear hm hnf; omega) | omega)) (And.intro (by (first | (clear hm hnf; omega) | omega)) (And.intro (by (first | (clear hm hnf; omega) | omega)) (And.intro (by (first | (clear hm hnf; omega) | omega)) (And.intro (by (first | (clear hm hnf; omega) | omega)) (And.intro (by (first | (clear hm hnf; omega) | omega)) (And.intro (by (first | (clear hm hnf; omega) | omega)) (Exists.intro ng (And.intro (by first | exact qtm hm hnf (by (try clear hm hnf); omega) | omega) hT)))))))))))))))))
        · replace hT := (if_pos h98).symm.trans hT
          refine fun v119 e120 => ?_
          replace hT := qlc e120 hT
          have w121 := wI_rng v119
          have w122 : wI v119 = v119 := wI_id (by (first | (clear hm hnf; omega) | omega))
          exact Exists.intro ((10000 - ((wI v119))) * 2000 + 1999 : Int).toNat (And.intro (by first | exact qtn hm (by (try clear hm hnf); omega) | omega) (And.intro i1 (And.intro j1 (And.intro f1 (And.intro rfl (And.intro (by (first | (clear hm hnf; omega) | omega)) (And.intro (by (first | (clear hm hnf; omega) | omega)) (And.intro (by (first | (clear hm hnf; omega) | omega)) (And.intro (by (first | (clear hm hnf; omega) | omega)) (And.intro (by (first | (clear hm hnf; omega) | omega)) (And.intro (by (first | (clear hm hnf; omega) | omega)) (And.intro (by (first | (clear hm hnf; omega) | omega)) (And.intro (by (first | (clear hm hnf; omega) | omega)) (And.intro (by (first | (clear hm hnf; omega) | omega)) (And.intro (by (first | (clear hm hnf; omega) | omega)) (Exists.intro ng (And.intro (by first | exact qtm hm hnf (by (try clear hm hnf); omega) | omega) hT)))))))))))))))))
      · replace hT := (if_neg (Int.not_lt.mpr h97)).symm.trans hT
        refine And.intro (by (first | (clear hm hnf; omega) | omega)) (fun v123 e124 => ?_)
        replace hT := qlc e124 hT
        have h125 := qm_nn (a := e) (b := 10) (by (first | (clear hm hnf; omega) | omega))
        refine And.intro (by (first | (clear hm hnf; omega) | omega)) (fun A126 e127 => ?_)
        replace hT := qlc e127 hT
        have i128 := iva_st i1 e127 (And.intro (by (first | (clear hm hnf; omega) | omega)) trivial)
        have j129 := ivf_sa j1 e127 rfl
        have f130 := frm_s f1 e127 rfl
        refine And.intro (by (first | (clear hm hnf; omega) | omega)) (fun v131 e132 => ?_)
        replace hT := qlc e132 hT
        have h133 := qd_nn (a := e) (b := 10) (by (first | (clear hm hnf; omega) | omega))
        refine And.intro (by (first | (clear hm hnf; omega) | omega)) (fun v134 gv134 e135 => ?_)
        replace hT := qlc e135 hT
        have b136 := iva_at i128 26 rfl (i := j) (by (first | (clear hm hnf; omega) | omega)) (by (first | (clear hm hnf; omega) | omega))
        have q137 : v123 = v134 := (e135.trans (st_v e127)).symm
        subst q137
        refine fun v138 e139 => ?_
        replace hT := qlc e139 hT
        refine And.intro (by (first | (clear hm hnf; omega) | omega)) (fun v140 gv140 e141 => ?_)
        replace hT := qlc e141 hT
        have b142 := iva_at i128 24 rfl (i := j) (by (first | (clear hm hnf; omega) | omega)) (by (first | (clear hm hnf; omega) | omega))
        refine And.intro (by (first | (clear hm hnf; omega) | omega)) (fun v143 gv143 e144 => ?_)
        replace hT := qlc e144 hT
        have b145 := iva_at i128 26 rfl (i := j) (by (first | (clear hm hnf; omega) | omega)) (by (first | (clear hm hnf; omega) | omega))
        have q146 : v123 = v143 := (e144.trans e135.symm).symm
        subst q146
        refine And.intro (by (first | (clear hm hnf; omega) | omega)) (fun A147 e148 => ?_)
        replace hT := qlc e148 hT
        have i149 := iva_st i128 e148 trivial
        have j150 := ivf_sa j129 e148 rfl
        have f151 := frm_s f130 e148 rfl
        refine fun v152 e153 => ?_
        replace hT := qlc e153 hT
        have w154 := wI_rng v131
        have w155 : wI v131 = v131 := wI_id (by (first | (clear hm hnf; omega) | omega))
        have w156 := wI_rng v138
        have w157 := wI_rng v152
        have w158 : wI v152 = v152 := wI_id (by (first | (clear hm hnf; omega) | omega))
        exact Exists.intro ((10000 - k) * 2000 + 800 + ((wI v152)) : Int).toNat (And.intro (by first | exact qtn hm (by (try clear hm hnf); omega) | omega) (And.intro i149 (And.intro j150 (And.intro f151 (And.intro rfl (And.intro (by (first | (clear hm hnf; omega) | omega)) (And.intro (by (first | (clear hm hnf; omega) | omega)) (And.intro (by (first | (clear hm hnf; omega) | omega)) (And.intro (by (first | (clear hm hnf; omega) | omega)) (And.intro (by (first | (clear hm hnf; omega) | omega)) (And.intro (by (first | (clear hm hnf; omega) | omega)) (And.intro (by (first | (clear hm hnf; omega) | omega)) (And.intro (by (first | (clear hm hnf; omega) | omega)) (And.intro (by (first | (clear hm hnf; omega) | omega)) (And.intro (by (first | (clear hm hnf; omega) | omega)) (And.intro (by (first | (clear hm hnf; omega) | omega)) (And.intro (by (first | (clear hm hnf; omega) | omega)) (And.intro (by (first | (clear hm hnf; omega) | omega)) (Exists.intro ng (And.intro (by first | exact qtm hm hnf (by (try clear hm hnf); omega) | omega) hT))))))))))))))))))))
    · refine fun l1 l3 y u b k j B mm hB hz hI => ?_
      obtain ⟨i1, j1, f1, hm, c0, c1, c2, c3, c4, c5, c6, c7, c8, c9, c10, c11, ⟨nf, hnf, hT⟩⟩ := hI
      obtain ⟨hz_l1, hz_l3, hz_y, hz_u, hz_b, hz_k, hz_j, _⟩ := hz
      obtain ⟨ng, rfl⟩ : ∃ k, nf = k + 1 := ⟨nf - 1, by omega⟩
      replace hT := (fM_drought_c155.eq_1 (fM_drought_L ng) l1 l3 y u b k j B).symm.trans ((fM_drought_L155 ng l1 l3 y u b k j B).symm.trans hT)
      refine And.intro (fun h159 => ?_) (fun h159 => ?_)
      · replace hT := (if_neg (Int.not_lt.mpr h159)).symm.trans hT
        refine fun v160 e161 => ?_
        replace hT := qlc e161 hT
        have w162 := wI_rng v160
        have w163 : wI v160 = v160 := wI_id (by (first | (clear hm hnf; omega) | omega))
        exact Exists.intro ((10000 - ((wI v160))) * 2000 + 1999 : Int).toNat (And.intro (by first | exact qtn hm (by (try clear hm hnf); omega) | omega) (And.intro i1 (And.intro j1 (And.intro f1 (And.intro rfl (And.intro (by (first | (clear hm hnf; omega) | omega)) (And.intro (by (first | (clear hm hnf; omega) | omega)) (And.intro (by (first | (clear hm hnf; omega) | omega)) (And.intro (by (first | (clear hm hnf; omega) | omega)) (And.intro (by (first | (clear hm hnf; omega) | omega)) (And.intro (by (first | (clear hm hnf; omega) | omega)) (And.intro (by (first | (clear hm hnf; omega) | omega)) (And.intro (by (first | (clear hm hnf; omega) | omega)) (And.intro (by (first | (clear hm hnf; omega) | omega)) (And.intro (by (first | (clear hm hnf; omega) | omega)) (Exists.intro ng (And.intro (by first | exact qtm hm hnf (by (try clear hm hnf); omega) | omega) hT)))))))))))))))))
      · replace hT := (if_pos h159).symm.trans hT
        refine And.intro (by (first | (clear hm hnf; omega) | omega)) (fun v164 gv164 e165 => ?_)
        replace hT := qlc e165 hT
        have b166 := iva_at i1 26 rfl (i := j) (by (first | (clear hm hnf; omega) | omega)) (by (first | (clear hm hnf; omega) | omega))
        refine And.intro (by (first | (clear hm hnf; omega) | omega)) (fun A167 e168 => ?_)
        replace hT := qlc e168 hT
        have i169 := iva_st i1 e168 (And.intro (by (first | (clear hm hnf; omega) | omega)) trivial)
        have j170 := ivf_sa j1 e168 rfl
        have f171 := frm_s f1 e168 rfl
        refine fun v172 e173 => ?_
        replace hT := qlc e173 hT
        have w174 := wI_rng v172
        have w175 : wI v172 = v172 := wI_id (by (first | (clear hm hnf; omega) | omega))
        exact Exists.intro ((10000 - k) * 2000 + 700 - ((wI v172)) : Int).toNat (And.intro (by first | exact qtn hm (by (try clear hm hnf); omega) | omega) (And.intro i169 (And.intro j170 (And.intro f171 (And.intro rfl (And.intro (by (first | (clear hm hnf; omega) | omega)) (And.intro (by (first | (clear hm hnf; omega) | omega)) (And.intro (by (first | (clear hm hnf; omega) | omega)) (And.intro (by (first | (clear hm hnf; omega) | omega)) (And.intro (by (first | (clear hm hnf; omega) | omega)) (And.intro (by (first | (clear hm hnf; omega) | omega)) (And.intro (by (first | (clear hm hnf; omega) | omega)) (And.intro (by (first | (clear hm hnf; omega) | omega)) (And.intro (by (first | (clear hm hnf; omega) | omega)) (And.intro (by (first | (clear hm hnf; omega) | omega)) (And.intro (by (first | (clear hm hnf; omega) | omega)) (And.intro (by (first | (clear hm hnf; omega) | omega)) (Exists.intro ng (And.intro (by first | exact qtm hm hnf (by (try clear hm hnf); omega) | omega) hT)))))))))))))))))))
  · refine Exists.intro d (Exists.intro 0 (Exists.intro 36 (And.intro rfl (And.intro (fun h2 => ?_) (fun h2 => ?_)))))
    · replace hT := (if_pos h2).symm.trans hT
      refine And.intro (fun h3 => by exfalso; omega) (fun h3 => ?_)
      refine Exists.intro c (Exists.intro 1 (Exists.intro 255 (And.intro rfl (And.intro (fun h4 => ?_) (fun h4 => ?_)))))
      · replace hT := (if_pos h4).symm.trans hT
        refine And.intro (fun h5 => by exfalso; omega) (fun h5 => ?_)
        refine Exists.intro c (And.intro rfl (And.intro (And.intro (by (first | (clear hm hnf; omega) | omega)) (by (first | (clear hm hnf; omega) | omega))) (fun r6 g9 g10 g7 g8 => ?_)))
        replace hT := qlc g8 hT
        clear g8
        refine And.intro (fun h11 => ?_) (fun h11 => ?_)
        · replace hT := (if_neg (Int.not_lt.mpr h11)).symm.trans hT
          exact Exists.intro (90000000 - 0 : Int).toNat (And.intro i0 (And.intro j0 (And.intro f0 (And.intro rfl (And.intro (by (first | (clear hm hnf; omega) | omega)) (And.intro (by (first | (clear hm hnf; omega) | omega)) (And.intro (by (first | (clear hm hnf; omega) | omega)) (And.intro (by (first | (clear hm hnf; omega) | omega)) (And.intro (by (first | (clear hm hnf; omega) | omega)) (And.intro (by (first | (clear hm hnf; omega) | omega)) (And.intro (by first | exact (bc_0 c).symm | (rw [show 0 = x + 1 by (first | (clear hm hnf; omega) | omega)]; omega)) (And.intro (by (first | (clear hm hnf; omega) | omega)) (Exists.intro 100000000 (And.intro (by (first | (clear hm hnf; omega) | omega)) hT))))))))))))))
        · replace hT := (if_pos h11).symm.trans hT
          exact hK _ i0 j0 f0 _ (by first | assumption | exact ⟨by (first | (clear hm hnf; omega) | omega), by (first | (clear hm hnf; omega) | omega)⟩ | exact wI_rng _ | exact i_rng _ | (subst_vars; exact i_rng _) | exact (hA _ _).2 rfl) (congrArg Prod.fst hT) (congrArg Prod.snd hT)
      · replace hT := (if_neg h4).symm.trans hT
        refine And.intro (fun h12 => ?_) (fun h12 => by exfalso; omega)
        exact hK _ i0 j0 f0 _ (by first | assumption | exact ⟨by (first | (clear hm hnf; omega) | omega), by (first | (clear hm hnf; omega) | omega)⟩ | exact wI_rng _ | exact i_rng _ | (subst_vars; exact i_rng _) | exact (hA _ _).2 rfl) (congrArg Prod.fst hT) (congrArg Prod.snd hT)
    · replace hT := (if_neg h2).symm.trans hT
      refine And.intro (fun h13 => ?_) (fun h13 => by exfalso; omega)
      exact hK _ i0 j0 f0 _ (by first | assumption | exact ⟨by (first | (clear hm hnf; omega) | omega), by (first | (clear hm hnf; omega) | omega)⟩ | exact wI_rng _ | exact i_rng _ | (subst_vars; exact i_rng _) | exact (hA _ _).2 rfl) (congrArg Prod.fst hT) (congrArg Prod.snd hT)
theorem pM_drought {d c w : Int} {A : qA} (hA : qokA LM A) (rg_d : rng d) (rg_c : rng c) (rg_w : rng w) (p0 : iva IM A) (p1 : ivf JM A) (p2 : WF A) : qokA LM (fM_drought d c w A).2 ∧ iva IM (fM_drought d c w A).2 ∧ ivf JM (fM_drought d c w A).2 ∧ frm [60, 59, 36, 37, 10, 62, 61, 34, 35] [] A (fM_drought d c w A).2 ∧ rng (fM_drought d c w A).1 := by
  obtain ⟨r, B, hB, _, hk⟩ := okM_ex okM_drought (as := [rf 0, ni d, ni c, ni w]) (K := fun _ B => B = (fM_drought d c w A).2 ∧ iva IM (fM_drought d c w A).2 ∧ ivf JM (fM_drought d c w A).2 ∧ frm [60, 59, 36, 37, 10, 62, 61, 34, 35] [] A (fM_drought d c w A).2 ∧ rng (fM_drought d c w A).1) hA (qoks_c (show qok (rf _) from trivial) (qoks_c (rg_d) (qoks_c (rg_c) (qoks_c (rg_w) qoks_n)))) ⟨d, c, w, rfl, ⟨p0, p1, p2⟩, fun A9 i9 j9 f9 r9 g9 x0 x1 => (by rw [← x1]; (try rw [← x0]); exact ⟨rfl, i9, j9, f9, g9⟩)⟩
  exact ⟨hk.1 ▸ hB, hk.2⟩
