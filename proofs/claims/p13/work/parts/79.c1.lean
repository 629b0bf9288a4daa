def IC : List (Nat × Int × Int × Int) := [(2, 48, 0, 2147483647), (5, 48, 0, 3), (6, 48, (-1), 5), (7, 48, 0, 200), (9, 48, 0, 20), (10, 48, 0, 1), (28, 61, 0, 1), (29, 61, 0, 1), (11, 6, 0, 20), (12, 6, 1, 200), (13, 6, 0, 99), (14, 48, 0, 2147483647), (16, 8, 0, 99), (17, 8, 0, 7), (18, 8, 0, 9999), (21, 8, 0, 999), (22, 8, 0, 99), (25, 61, 0, 47), (26, 61, (-1), 5), (27, 61, 0, 200), (30, 61, 0, 6), (31, 61, (-1), 7), (47, 4, 0, 7), (48, 4, 0, 99), (49, 8, 0, 99), (50, 48, 0, 20), (53, 220, 0, 255), (56, 8, 0, 47), (58, 8, 0, 99), (59, 8, 0, 6), (62, 8, 0, 47), (65, 5, 0, 47), (66, 5, (-1), 5), (67, 5, (-1), 5), (38, 200, 0, 99999), (73, 200, 0, 99999), (40, 14, 0, 200), (41, 14, 0, 200), (42, 14, 0, 200), (75, 14, 0, 200), (76, 14, 0, 200), (77, 14, 0, 200)]
def JC : List (Nat × Nat × Int × Int) := [(54, 2, 0, 200), (54, 3, 0, 200), (24, 9, 0, 60), (52, 1, 0, 220), (44, 9, 0, 4), (55, 7, 0, 8), (63, 6, 0, 5), (0, 11, 0, 65535), (36, 7, 0, 14), (36, 8, 0, 200), (36, 9, 0, 40), (71, 7, 0, 14), (71, 8, 0, 200), (71, 9, 0, 40)]
/-- whether a cell hangs -/
def hb (A : qA) (c : Int) : Int := jc (ja (jsu (A 1 (fd 0)) c) 1) 0
abbrev HG (A : qA) (c : Int) : Prop := hb A c ≠ 0
def sC_within : qS := fun as A K => ∃ n m : Int, as = [ni n, ni m] ∧ ((0 ≤ n ∧ n ≤ m → K (some (ni 1)) A) ∧ (¬ (0 ≤ n ∧ n ≤ m) → K (some (ni 0)) A))
theorem okC_within : okM LC 1 138 sC_within := by
  refine qmeth [] false [] 15 rfl trivial ?_
  rintro _ A K hA has ⟨n, m, rfl, hK⟩
  have rg_n : rng n := has (ni n) (by simp)
  have rg_m : rng m := has (ni m) (by simp)
  refine ⟨Nat.le_of_ble_eq_true rfl, [], trivial, ?_⟩
  refine And.intro (fun h1 => ?_) (fun h1 => ?_)
  · exact And.intro (by (first | (clear hm hnf; omega) | omega)) (hK.2 (by first | omega | (subst_vars; omega) | (simp_all; done) | (simp_all; omega)))
  · refine And.intro (fun h2 => ?_) (fun h2 => ?_)
    · exact And.intro (by (first | (clear hm hnf; omega) | omega)) (hK.2 (by first | omega | (subst_vars; omega) | (simp_all; done) | (simp_all; omega)))
    · exact And.intro (by (first | (clear hm hnf; omega) | omega)) (hK.1 (by first | omega | (subst_vars; omega) | (simp_all; done) | (simp_all; omega)))
def sC_isColumn : qS := fun as A K => ∃ n : Int, as = [ni n] ∧ ((0 ≤ n ∧ n ≤ 7 → K (some (ni 1)) A) ∧ (¬ (0 ≤ n ∧ n ≤ 7) → K (some (ni 0)) A))
theorem okC_isColumn : okM LC 2 139 sC_isColumn := by
  refine qmeth [] false [(138, sC_within)] 10 rfl ⟨okC_within.le (by decide), trivial⟩ ?_
  rintro _ A K hA has ⟨n, rfl, hK⟩
  have rg_n : rng n := has (ni n) (by simp)
  refine ⟨Nat.le_of_ble_eq_true rfl, [], trivial, ?_⟩
  refine Exists.intro n (Exists.intro 7 (And.intro rfl (And.intro (fun h1 => ?_) (fun h1 => ?_))))
  · exact And.intro (by (first | (clear hm hnf; omega) | omega)) (hK.1 (by first | omega | (subst_vars; omega) | (simp_all; done) | (simp_all; omega)))
  · exact And.intro (by (first | (clear hm hnf; omega) | omega)) (hK.2 (by first | omega | (subst_vars; omega) | (simp_all; done) | (simp_all; omega)))
def sC_isPerson : qS := fun as A K => ∃ n : Int, as = [ni n] ∧ ((0 ≤ n ∧ n ≤ 7 → K (some (ni 1)) A) ∧ (¬ (0 ≤ n ∧ n ≤ 7) → K (some (ni 0)) A))
theorem okC_isPerson : okM LC 2 140 sC_isPerson := by
  refine qmeth [] false [(138, sC_within)] 10 rfl ⟨okC_within.le (by decide), trivial⟩ ?_
  rintro _ A K hA has ⟨n, rfl, hK⟩
  have rg_n : rng n := has (ni n) (by simp)
  refine ⟨Nat.le_of_ble_eq_true rfl, [], trivial, ?_⟩
  refine Exists.intro n (Exists.intro 7 (And.intro rfl (And.intro (fun h1 => ?_) (fun h1 => ?_))))
  · exact And.intro (by (first | (clear hm hnf; omega) | omega)) (hK.1 (by first | omega | (subst_vars; omega) | (simp_all; done) | (simp_all; omega)))
  · exact And.intro (by (first | (clear hm hnf; omega) | omega)) (hK.2 (by first | omega | (subst_vars; omega) | (simp_all; done) | (simp_all; omega)))
def sC_isCell : qS := fun as A K => ∃ n l : Int, as = [ni n, ni l] ∧ (((0 ≤ n ∧ n ≤ 7) ∧ (0 ≤ l ∧ l ≤ 5) → K (some (ni 1)) A) ∧ (¬ ((0 ≤ n ∧ n ≤ 7) ∧ (0 ≤ l ∧ l ≤ 5)) → K (some (ni 0)) A))
theorem okC_isCell : okM LC 3 141 sC_isCell := by
  refine qmeth [] false [(139, sC_isColumn), (138, sC_within)] 17 rfl ⟨okC_isColumn.le (by decide), ⟨okC_within.le (by decide), trivial⟩⟩ ?_
  rintro _ A K hA has ⟨n, l, rfl, hK⟩
  have rg_n : rng n := has (ni n) (by simp)
  have rg_l : rng l := has (ni l) (by simp)
  refine ⟨Nat.le_of_ble_eq_true rfl, [], trivial, ?_⟩
  refine Exists.intro n (And.intro rfl (And.intro (fun h1 => ?_) (fun h1 => ?_)))
  · refine And.intro (fun h2 => by exfalso; omega) (fun h2 => ?_)
    refine Exists.intro l (Exists.intro 5 (And.intro rfl (And.intro (fun h3 => ?_) (fun h3 => ?_))))
    · refine And.intro (fun h4 => by exfalso; omega) (fun h4 => ?_)
      exact And.intro (by (first | (clear hm hnf; omega) | omega)) (hK.1 (by first | omega | (subst_vars; omega) | (simp_all; done) | (simp_all; omega)))
    · refine And.intro (fun h5 => ?_) (fun h5 => by exfalso; omega)
      exact And.intro (by (first | (clear hm hnf; omega) | omega)) (hK.2 (by first | omega | (subst_vars; omega) | (simp_all; done) | (simp_all; omega)))
  · refine And.intro (fun h6 => ?_) (fun h6 => by exfalso; omega)
    exact And.intro (by (first | (clear hm hnf; omega) | omega)) (hK.2 (by first | omega | (subst_vars; omega) | (simp_all; done) | (simp_all; omega)))
def sC_endOfColumn : qS := fun as A K => ∃ c : Int, as = [ni c] ∧ (0 ≤ c ∧ c ≤ 47) ∧ (K (some (ni (c - c % 6 + 6))) A)
theorem okC_endOfColumn : okM LC 1 20 sC_endOfColumn := by
  refine qmeth [] false [] 14 rfl trivial ?_
  rintro _ A K hA has ⟨c, rfl, ⟨p1, p2⟩, hK⟩
  have rg_c : rng c := has (ni c) (by simp)
  refine ⟨Nat.le_of_ble_eq_true rfl, [], trivial, ?_⟩
  refine And.intro (by (first | (clear hm hnf; omega) | omega)) (fun v3 e4 => ?_)
  have h5 := qm_nn (a := c) (b := 6) (by (first | (clear hm hnf; omega) | omega))
  refine fun v6 e7 => ?_
  refine fun v8 e9 => ?_
  refine And.intro (by (first | (clear hm hnf; omega) | omega)) (?_)
  have hq : v8 = c - c % 6 + 6 := by first | rfl | omega | simp_all
  rw [hq]
  exact hK
def sC_hangs : qS := fun as A K => ∃ c : Int, as = [rf 1, ni c] ∧ ((0 ≤ c ∧ c ≤ 47 ∧ HG A c → K (some (ni 1)) A) ∧ (¬ (0 ≤ c ∧ c ≤ 47 ∧ HG A c) → K (some (ni 0)) A))
theorem okC_hangs : okM LC 1 21 sC_hangs := by
  refine qmeth [] false [] 24 rfl trivial ?_
  rintro _ A K hA has ⟨c, rfl, hK⟩
  have rg_c : rng c := has (ni c) (by simp)
  refine ⟨Nat.le_of_ble_eq_true rfl, [], trivial, ?_⟩
  refine And.intro (fun h1 => ?_) (fun h1 => ?_)
  · exact And.intro (by (first | (clear hm hnf; omega) | omega)) (hK.2 (by first | omega | (subst_vars; simp only [HG, hb]; omega)))
  · refine And.intro (fun h2 => ?_) (fun h2 => ?_)
    · exact And.intro (by (first | (clear hm hnf; omega) | omega)) (hK.2 (by first | omega | (subst_vars; simp only [HG, hb]; omega)))
    · refine fun v3 e4 => ?_
      refine fun v5 e6 => ?_
      refine fun (v7 : Int) (e8 : v7 = 1) => ?_
      refine fun v9 e10 => ?_
      refine fun (v11 : Int) (e12 : v11 = 0) => ?_
      refine fun v13 e14 => ?_
      refine And.intro (fun h15 => ?_) (fun h15 => ?_)
      · exact And.intro (by (first | (clear hm hnf; omega) | omega)) (hK.2 (by first | omega | (subst_vars; simp only [HG, hb]; omega)))
      · exact And.intro (by (first | (clear hm hnf; omega) | omega)) (hK.1 (by first | omega | (subst_vars; simp only [HG, hb]; omega)))
def sC_hasCrop : qS := fun as A K => ∃ c : Int, as = [rf 1, ni c] ∧ ((0 ≤ c ∧ c ≤ 47 ∧ HG A c ∧ 0 ≤ A 6 c ∧ A 6 c ≤ 5 → K (some (ni 1)) A) ∧ (¬ (0 ≤ c ∧ c ≤ 47 ∧ HG A c ∧ 0 ≤ A 6 c ∧ A 6 c ≤ 5) → K (some (ni 0)) A))
theorem okC_hasCrop : okM LC 2 22 sC_hasCrop := by
  refine qmeth [] false [(21, sC_hangs), (138, sC_within)] 21 rfl ⟨okC_hangs.le (by decide), ⟨okC_within.le (by decide), trivial⟩⟩ ?_
  rintro _ A K hA has ⟨c, rfl, hK⟩
  have rg_c : rng c := has (ni c) (by simp)
  refine ⟨Nat.le_of_ble_eq_true rfl, [], trivial, ?_⟩
  refine Exists.intro c (And.intro rfl (And.intro (fun h1 => ?_) (fun h1 => ?_)))
  · refine And.intro (fun h2 => by exfalso; omega) (fun h2 => ?_)
    refine And.intro (by (first | (clear hm hnf; omega) | omega)) (fun v3 gv3 e4 => ?_)
    refine Exists.intro v3 (Exists.intro 5 (And.intro rfl (And.intro (fun h5 => ?_) (fun h5 => ?_))))
    · refine And.intro (fun h6 => by exfalso; omega) (fun h6 => ?_)
      exact And.intro (by (first | (clear hm hnf; omega) | omega)) (hK.1 (by first | omega | (subst_vars; omega) | (simp_all; done) | (simp_all; omega)))
    · refine And.intro (fun h7 => ?_) (fun h7 => by exfalso; omega)
      exact And.intro (by (first | (clear hm hnf; omega) | omega)) (hK.2 (by first | omega | (subst_vars; omega) | (simp_all; done) | (simp_all; omega)))
  · refine And.intro (fun h8 => ?_) (fun h8 => by exfalso; omega)
    exact And.intro (by (first | (clear hm hnf; omega) | omega)) (hK.2 (by first | omega | (subst_vars; omega) | (simp_all; done) | (simp_all; omega)))
def fC_isRipe (c : Int) (A : qA) : Int := (if 0 ≤ c ∧ c ≤ 47 ∧ HG A c ∧ 0 ≤ A 6 c ∧ A 6 c ≤ 5 then qlet (A 7 c) fun v5 => qlet (A 6 c) fun v8 => qlet (A 12 v8) fun v12 => (if v5 < v12 then 0 else 1) else 0)
def sC_isRipe : qS := fun as A K => ∃ c : Int, as = [rf 1, ni c] ∧ (iva IC A ∧ ivf JC A) ∧ (∀ r : Int, 0 ≤ r → r ≤ 1 → (r = fC_isRipe c A) → K (some (ni r)) A)
theorem okC_isRipe : okM LC 3 23 sC_isRipe := by
  refine qmeth [] false [(22, sC_hasCrop)] 26 rfl ⟨okC_hasCrop.le (by decide), trivial⟩ ?_
  rintro _ A K hA has ⟨c, rfl, ⟨i0, j0⟩, hK⟩
  have rg_c : rng c := has (ni c) (by simp)
  have f0 := frm_0 [] [] A
  have hT : _ = fC_isRipe c A := (fC_isRipe.eq_1 c A).symm
  refine ⟨Nat.le_of_ble_eq_true rfl, [], trivial, ?_⟩
  refine Exists.intro c (And.intro rfl (And.intro (fun h1 => ?_) (fun h1 => ?_)))
  · replace hT := (if_pos h1).symm.trans hT
    obtain ⟨v2, e3⟩ : ∃ v, v = A 6 c := ⟨_, rfl⟩
    refine And.intro (fun h4 => by exfalso; omega) (fun h4 => ?_)
    refine And.intro (by (first | (clear hm hnf; omega) | omega)) (fun v5 gv5 e6 => ?_)
    replace hT := qlc e6 hT
    have b7 := iva_at i0 3 rfl (i := c) (by (first | (clear hm hnf; omega) | omega)) (by (first | (clear hm hnf; omega) | omega))
    refine And.intro (by (first | (clear hm hnf; omega) | omega)) (fun v8 gv8 e9 => ?_)
    replace hT := qlc e9 hT
    have b10 := iva_at i0 2 rfl (i := c) (by (first | (clear hm hnf; omega) | omega)) (by (first | (clear hm hnf; omega) | omega))
    have q11 : v2 = v8 := (e9.trans e3.symm).symm
    subst q11
    refine And.intro (by (first | (clear hm hnf; omega) | omega)) (fun v12 gv12 e13 => ?_)
    replace hT := qlc e13 hT
    have b14 := iva_at i0 9 rfl (i := v2) (by (first | (clear hm hnf; omega) | omega)) (by (first | (clear hm hnf; omega) | omega))
    refine And.intro (fun h15 => ?_) (fun h15 => ?_)
    · replace hT := (if_pos h15).symm.trans hT
      exact And.intro (by (first | (clear hm hnf; omega) | omega)) (hK _ (by (first | (clear hm hnf; omega) | omega)) (by (first | (clear hm hnf; omega) | omega)) hT)
    · replace hT := (if_neg (Int.not_lt.mpr h15)).symm.trans hT
      exact And.intro (by (first | (clear hm hnf; omega) | omega)) (hK _ (by (first | (clear hm hnf; omega) | omega)) (by (first | (clear hm hnf; omega) | omega)) hT)
  · replace hT := (if_neg h1).symm.trans hT
    refine And.intro (fun h16 => ?_) (fun h16 => by exfalso; omega)
    exact And.intro (by (first | (clear hm hnf; omega) | omega)) (hK _ (by (first | (clear hm hnf; omega) | omega)) (by (first | (clear hm hnf; omega) | omega)) hT)
theorem pC_isRipe {c : Int} {A : qA} (hA : qokA LC A) (rg_c : rng c) (p0 : iva IC A) (p1 : ivf JC A) : (0 ≤ (fC_isRipe c A) ∧ (fC_isRipe c A) ≤ 1) := by
  obtain ⟨r, B, hB, _, hk⟩ := okM_ex okC_isRipe (as := [rf 1, ni c]) (K := fun _ B => B = A ∧ (0 ≤ (fC_isRipe c A) ∧ (fC_isRipe c A) ≤ 1)) hA (qoks_c (show qok (rf _) from trivial) (qoks_c (rg_c) qoks_n)) ⟨c, rfl, ⟨p0, p1⟩, fun r9 g8 g9 x0 => (by rw [← x0]; exact ⟨rfl, ⟨g8, g9⟩⟩)⟩
  exact hk.2
def fC_needOf (c : Int) (A : qA) : Int := (if 0 ≤ c ∧ c ≤ 47 ∧ HG A c ∧ 0 ≤ A 6 c ∧ A 6 c ≤ 5 then qlet (A 6 c) fun v5 => qlet (A 11 v5) fun v9 => v9 else 0)
def sC_needOf : qS := fun as A K => ∃ c : Int, as = [rf 1, ni c] ∧ (iva IC A ∧ ivf JC A) ∧ (∀ r : Int, 0 ≤ r → r ≤ 20 → (r = fC_needOf c A) → K (some (ni r)) A)
theorem okC_needOf : okM LC 3 24 sC_needOf := by
  refine qmeth [] false [(22, sC_hasCrop)] 20 rfl ⟨okC_hasCrop.le (by decide), trivial⟩ ?_
  rintro _ A K hA has ⟨c, rfl, ⟨i0, j0⟩, hK⟩
  have rg_c : rng c := has (ni c) (by simp)
  have f0 := frm_0 [] [] A
  have hT : _ = fC_needOf c A := (fC_needOf.eq_1 c A).symm
  refine ⟨Nat.le_of_ble_eq_true rfl, [], trivial, ?_⟩
  refine Exists.intro c (And.intro rfl (And.intro (fun h1 => ?_) (fun h1 => ?_)))
  · replace hT := (if_pos h1).symm.trans hT
    obtain ⟨v2, e3⟩ : ∃ v, v = A 6 c := ⟨_, rfl⟩
    refine And.intro (fun h4 => by exfalso; omega) (fun h4 => ?_)
    refine And.intro (by (first | (clear hm hnf; omega) | omega)) (fun v5 gv5 e6 => ?_)
    replace hT := qlc e6 hT
    have b7 := iva_at i0 2 rfl (i := c) (by (first | (clear hm hnf; omega) | omega)) (by (first | (clear hm hnf; omega) | omega))
    have q8 : v2 = v5 := (e6.trans e3.symm).symm
    subst q8
    refine And.intro (by (first | (clear hm hnf; omega) | omega)) (fun v9 gv9 e10 => ?_)
    replace hT := qlc e10 hT
    have b11 := iva_at i0 8 rfl (i := v2) (by (first | (clear hm hnf; omega) | omega)) (by (first | (clear hm hnf; omega) | omega))
    exact hK _ (by (first | (clear hm hnf; omega) | omega)) (by (first | (clear hm hnf; omega) | omega)) hT
  · replace hT := (if_neg h1).symm.trans hT
    refine And.intro (fun h12 => ?_) (fun h12 => by exfalso; omega)
    exact hK _ (by (first | (clear hm hnf; omega) | omega)) (by (first | (clear hm hnf; omega) | omega)) hT
theorem pC_needOf {c : Int} {A : qA} (hA : qokA LC A) (rg_c : rng c) (p0 : iva IC A) (p1 : ivf JC A) : (0 ≤ (fC_needOf c A) ∧ (fC_needOf c A) ≤ 20) := by
  obtain ⟨r, B, hB, _, hk⟩ := okM_ex okC_needOf (as := [rf 1, ni c]) (K := fun _ B => B = A ∧ (0 ≤ (fC_needOf c A) ∧ (fC_needOf c A) ≤ 20)) hA (qoks_c (show qok (rf _) from trivial) (qoks_c (rg_c) qoks_n)) ⟨c, rfl, ⟨p0, p1⟩, fun r9 g8 g9 x0 => (by rw [← x0]; exact ⟨rfl, ⟨g8, g9⟩⟩)⟩
  exact hk.2
def fC_setCrop (c k w : Int) (A : qA) : qA := qlet (qu A 6 c k) fun A7 => qlet (qu A7 7 c w) fun A12 => qlet (qu A12 10 c 0) fun A17 => A17
def sC_setCrop : qS := fun as A K => ∃ c k w : Int, as = [rf 1, ni c, ni k, ni w] ∧ (iva IC A ∧ ivf JC A ∧ 0 ≤ c ∧ c ≤ 47 ∧ (-1) ≤ k ∧ k ≤ 5 ∧ 0 ≤ w ∧ w ≤ 200) ∧ (∀ A' : qA, iva IC A' → ivf JC A' → frm [6, 7, 10] [] A A' → (A' = fC_setCrop c k w A) → K none A')
theorem okC_setCrop : okM LC 1 25 sC_setCrop := by
  refine qmeth [] false [] 22 rfl trivial ?_
  rintro _ A K hA has ⟨c, k, w, rfl, ⟨i0, j0, p1, p2, p3, p4, p5, p6⟩, hK⟩
  have rg_c : rng c := has (ni c) (by simp)
  have rg_k : rng k := has (ni k) (by simp)
  have rg_w : rng w := has (ni w) (by simp)
  have f0 := frm_0 [6, 7, 10] [] A
  have hT : _ = fC_setCrop c k w A := (fC_setCrop.eq_1 c k w A).symm
  refine ⟨Nat.le_of_ble_eq_true rfl, [], trivial, ?_⟩
  refine And.intro (by (first | (clear hm hnf; omega) | omega)) (fun A7 e8 => ?_)
  replace hT := qlc e8 hT
  have i9 := iva_st i0 e8 (And.intro (by (first | (clear hm hnf; omega) | omega)) trivial)
  have j10 := ivf_sa j0 e8 rfl
  have f11 := frm_s f0 e8 rfl
  refine And.intro (by (first | (clear hm hnf; omega) | omega)) (fun A12 e13 => ?_)
  replace hT := qlc e13 hT
  have i14 := iva_st i9 e13 (And.intro (by (first | (clear hm hnf; omega) | omega)) trivial)
  have j15 := ivf_sa j10 e13 rfl
  have f16 := frm_s f11 e13 rfl
  refine And.intro (by (first | (clear hm hnf; omega) | omega)) (And.intro (by (first | (clear hm hnf; omega) | omega)) (fun A17 e18 => ?_))
  replace hT := qlc e18 hT
  have i19 := iva_st i14 e18 (And.intro (by (first | (clear hm hnf; omega) | omega)) trivial)
  have j20 := ivf_sa j15 e18 rfl
  have f21 := frm_s f16 e18 rfl
  exact hK _ i19 j20 f21 hT
theorem pC_setCrop {c k w : Int} {A : qA} (hA : qokA LC A) (p0 : iva IC A) (p1 : ivf JC A) (p2 : 0 ≤ c) (p3 : c ≤ 47) (p4 : (-1) ≤ k) (p5 : k ≤ 5) (p6 : 0 ≤ w) (p7 : w ≤ 200) : qokA LC (fC_setCrop c k w A) ∧ iva IC (fC_setCrop c k w A) ∧ ivf JC (fC_setCrop c k w A) ∧ frm [6, 7, 10] [] A (fC_setCrop c k w A) := by
  obtain ⟨r, B, hB, _, hk⟩ := okM_ex okC_setCrop (as := [rf 1, ni c, ni k, ni w]) (K := fun _ B => B = (fC_setCrop c k w A) ∧ iva IC (fC_setCrop c k w A) ∧ ivf JC (fC_setCrop c k w A) ∧ frm [6, 7, 10] [] A (fC_setCrop c k w A)) hA (qoks_c (show qok (rf _) from trivial) (qoks_c (show rng c from ⟨by (first | (clear hm hnf; omega) | omega), by (first | (clear hm hnf; omega) | omega)⟩) (qoks_c (show rng k from ⟨by (first | (clear hm hnf; omega) | omega), by (first | (clear hm hnf; omega) | omega)⟩) (qoks_c (show rng w from ⟨by (first | (clear hm hnf; omega) | omega), by (first | (clear hm hnf; omega) | omega)⟩) qoks_n)))) ⟨c, k, w, rfl, ⟨p0, p1, p2, p3, p4, p5, p6, p7⟩, fun A9 i9 j9 f9 x0 => (by rw [← x0]; exact ⟨rfl, i9, j9, f9⟩)⟩
  exact ⟨hk.1 ▸ hB, hk.2⟩
def fC_clearCrop (c : Int) (A : qA) : qA := qlet (fC_setCrop c (-1) 0 A) fun A3 => A3
def sC_clearCrop : qS := fun as A K => ∃ c : Int, as = [rf 1, ni c] ∧ (iva IC A ∧ ivf JC A ∧ 0 ≤ c ∧ c ≤ 47) ∧ (∀ A' : qA, iva IC A' → ivf JC A' → frm [6, 7, 10] [] A A' → (A' = fC_clearCrop c A) → K none A')
theorem okC_clearCrop : okM LC 2 26 sC_clearCrop := by
  refine qmeth [] false [(25, sC_setCrop)] 12 rfl ⟨okC_setCrop.le (by decide), trivial⟩ ?_
  rintro _ A K hA has ⟨c, rfl, ⟨i0, j0, p1, p2⟩, hK⟩
  have rg_c : rng c := has (ni c) (by simp)
  have f0 := frm_0 [6, 7, 10] [] A
  have hT : _ = fC_clearCrop c A := (fC_clearCrop.eq_1 c A).symm
  refine ⟨Nat.le_of_ble_eq_true rfl, [], trivial, ?_⟩
  refine Exists.intro c (Exists.intro (-1) (Exists.intro 0 (And.intro rfl (And.intro (And.intro i0 (And.intro j0 (And.intro (by (first | (clear hm hnf; omega) | omega)) (And.intro (by (first | (clear hm hnf; omega) | omega)) (And.intro (by (first | (clear hm hnf; omega) | omega)) (And.intro (by (first | (clear hm hnf; omega) | omega)) (And.intro (by (first | (clear hm hnf; omega) | omega)) (by (first | (clear hm hnf; omega) | omega))))))))) (fun A3 i4 j5 f6 g7 => ?_)))))
  replace hT := qlc g7 hT
  have f8 := frm_c f0 f6 rfl
  exact hK _ i4 j5 f8 hT
theorem pC_clearCrop {c : Int} {A : qA} (hA : qokA LC A) (p0 : iva IC A) (p1 : ivf JC A) (p2 : 0 ≤ c) (p3 : c ≤ 47) : qokA LC (fC_clearCrop c A) ∧ iva IC (fC_clearCrop c A) ∧ ivf JC (fC_clearCrop c A) ∧ frm [6, 7, 10] [] A (fC_clearCrop c A) := by
  obtain ⟨r, B, hB, _, hk⟩ := okM_ex okC_clearCrop (as := [rf 1, ni c]) (K := fun _ B => B = (fC_clearCrop c A) ∧ iva IC (fC_clearCrop c A) ∧ ivf JC (fC_clearCrop c A) ∧ frm [6, 7, 10] [] A (fC_clearCrop c A)) hA (qoks_c (show qok (rf _) from trivial) (qoks_c (show rng c from ⟨by (first | (clear hm hnf; omega) | omega), by (first | (clear hm hnf; omega) | omega)⟩) qoks_n)) ⟨c, rfl, ⟨p0, p1, p2, p3⟩, fun A9 i9 j9 f9 x0 => (by rw [← x0]; exact ⟨rfl, i9, j9, f9⟩)⟩
  exact ⟨hk.1 ▸ hB, hk.2⟩
def fC_crops_c4 (rec : Nat → List Int → qA → Int) (a c : Int) (A : qA) : Int := (if c < 48 then (if 0 ≤ c ∧ c ≤ 47 ∧ HG A c ∧ 0 ≤ A 6 c ∧ A 6 c ≤ 5 then qlet (a + 1) fun v6 => qlet (c + 1) fun v8 => rec 4 [v6, v8] A else qlet (c + 1) fun v11 => rec 4 [a, v11] A) else a)
def fC_crops_L : Nat → Nat → List Int → qA → Int
  | 0 => fun _ _ B => 0
  | nF + 1 => fun k zs B => bif Nat.beq k 4 then (match zs with | [a, c] => fC_crops_c4 (fC_crops_L nF) a c B | _ => 0) else 0
theorem fC_crops_L4 (nF : Nat) (a c : Int) (B : qA) : fC_crops_L (nF + 1) 4 [a, c] B = fC_crops_c4 (fC_crops_L nF) a c B := (congrFun (congrFun (congrFun (fC_crops_L.eq_2 nF) 4) [a, c]) B).trans (qL1 rfl rfl)
def fC_crops (A : qA) : Int := (fC_crops_L 100000) 4 [0, 0] A
def sC_crops : qS := fun as A K => as = [rf 1] ∧ (∀ r : Int, 0 ≤ r → r ≤ 48 → (r = fC_crops A) → K (some (ni r)) A)
theorem okC_crops : okM LC 3 27 sC_crops := by
  refine qmeth [] false [(22, sC_hasCrop)] 22 rfl ⟨okC_hasCrop.le (by decide), trivial⟩ ?_
  rintro _ A K hA has ⟨rfl, hK⟩
  have hT : _ = fC_crops A := (fC_crops.eq_1 A).symm
  refine ⟨Nat.le_of_ble_eq_true rfl, [(4, [(0, 2, 1), (1, 0, 0), (2, 0, 0)], fun zs B nn => match zs with | [a, c] => A = B ∧ nn = (48 - c : Int).toNat ∧ (0 ≤ c) ∧ (c ≤ 48) ∧ (0 ≤ a) ∧ (a ≤ c) ∧ (∃ nf : Nat, nn < nf ∧ fC_crops_L nf 4 [a, c] B = fC_crops A) | _ => False)], ?_, ?_⟩
  · refine ⟨⟨rfl, ?_⟩, trivial⟩
    · refine fun a c B mm hB hz hI => ?_
      obtain ⟨rfl, hm, c0, c1, c2, c3, ⟨nf, hnf, hT⟩⟩ := hI
      obtain ⟨hz_a, hz_c, _⟩ := hz
      obtain ⟨ng, rfl⟩ : ∃ k, nf = k + 1 := ⟨nf - 1, by omega⟩
      replace hT := (fC_crops_c4.eq_1 (fC_crops_L ng) a c A).symm.trans ((fC_crops_L4 ng a c A).symm.trans hT)
      refine And.intro (fun h1 => ?_) (fun h1 => ?_)
      · replace hT := (if_neg (Int.not_lt.mpr h1)).symm.trans hT
        exact hK _ (by (first | (clear hm hnf; omega) | omega)) (by (first | (clear hm hnf; omega) | omega)) hT
      · replace hT := (if_pos h1).symm.trans hT
        refine Exists.intro c (And.intro rfl (And.intro (fun h2 => ?_) (fun h2 => ?_)))
        · replace hT := (if_pos h2).symm.trans hT
          obtain ⟨v3, e4⟩ : ∃ v, v = A 6 c := ⟨_, rfl⟩
          refine And.intro (fun h5 => by exfalso; omega) (fun h5 => ?_)
          refine fun v6 e7 => ?_
          replace hT := qlc e7 hT
          refine fun v8 e9 => ?_
          replace hT := qlc e9 hT
          exact And.intro (by (first | (clear hm hnf; omega) | omega)) (And.intro (by (first | (clear hm hnf; omega) | omega)) (Exists.intro (48 - v8 : Int).toNat (And.intro (by first | exact qtn hm (by (try clear hm hnf); omega) | omega) (And.intro rfl (And.intro rfl (And.intro (by (first | (clear hm hnf; omega) | omega)) (And.intro (by (first | (clear hm hnf; omega) | omega)) (And.intro (by (first | (clear hm hnf; omega) | omega)) (And.intro (by (first | (clear hm hnf; omega) | omega)) (Exists.intro ng (And.intro (by first | exact qtm hm hnf (by (try clear hm hnf); omega) | omega) hT)))))))))))
        · replace hT := (if_neg h2).symm.trans hT
          refine And.intro (fun h10 => ?_) (fun h10 => by exfalso; omega)
          refine fun v11 e12 => ?_
          replace hT := qlc e12 hT
          exact And.intro (by (first | (clear hm hnf; omega) | omega)) (Exists.intro (48 - v11 : Int).toNat (And.intro (by first | exact qtn hm (by (try clear hm hnf); omega) | omega) (And.intro rfl (And.intro rfl (And.intro (by (first | (clear hm hnf; omega) | omega)) (And.intro (by (first | (clear hm hnf; omega) | omega)) (And.intro (by (first | (clear hm hnf; omega) | omega)) (And.intro (by (first | (clear hm hnf; omega) | omega)) (Exists.intro ng (And.intro (by first | exact qtm hm hnf (by (try clear hm hnf); omega) | omega) hT))))))))))
  · exact Exists.intro (48 - 0 : Int).toNat (And.intro rfl (And.intro rfl (And.intro (by (first | (clear hm hnf; omega) | omega)) (And.intro (by (first | (clear hm hnf; omega) | omega)) (And.intro (by (first | (clear hm hnf; omega) | omega)) (And.intro (by (first | (clear hm hnf; omega) | omega)) (Exists.intro 100000 (And.intro (by (first | (clear hm hnf; omega) | omega)) hT))))))))
theorem pC_crops {A : qA} (hA : qokA LC A) : (0 ≤ (fC_crops A) ∧ (fC_crops A) ≤ 48) := by
  obtain ⟨r, B, hB, _, hk⟩ := okM_ex okC_crops (as := [rf 1]) (K := fun _ B => B = A ∧ (0 ≤ (fC_crops A) ∧ (fC_crops A) ≤ 48)) hA (qoks_c (show qok (rf _) from trivial) qoks_n) ⟨rfl, fun r9 g8 g9 x0 => (by rw [← x0]; exact ⟨rfl, ⟨g8, g9⟩⟩)⟩
  exact hk.2
def fC_loadOf_c7 (rec : Nat → List Int → qA → Int) (s e k : Int) (A : qA) : Int := (if k < e then (if 0 ≤ k ∧ k ≤ 47 ∧ HG A k then qlet (A 3 k) fun v6 => qlet (10 * v6) fun v8 => qlet (A 7 k) fun v10 => qlet (v8 + v10) fun v13 => qlet (A 8 k) fun v15 => qlet (v13 + v15) fun v17 => qlet (A 9 k) fun v19 => qlet (v17 + v19) fun v22 => qlet (s + v22) fun v24 => qlet (k + 1) fun v26 => rec 7 [((wI v24)), e, ((wI v26))] A else s) else s)
def fC_loadOf_L : Nat → Nat → List Int → qA → Int
  | 0 => fun _ _ B => 0
  | nF + 1 => fun k zs B => bif Nat.beq k 7 then (match zs with | [s, e, k] => fC_loadOf_c7 (fC_loadOf_L nF) s e k B | _ => 0) else 0
theorem fC_loadOf_L7 (nF : Nat) (s e k : Int) (B : qA) : fC_loadOf_L (nF + 1) 7 [s, e, k] B = fC_loadOf_c7 (fC_loadOf_L nF) s e k B := (congrFun (congrFun (congrFun (fC_loadOf_L.eq_2 nF) 7) [s, e, k]) B).trans (qL1 rfl rfl)
def fC_loadOf (c : Int) (A : qA) : Int := (fC_loadOf_L 100000) 7 [0, ((c - c % 6 + 6)), c] A
def sC_loadOf : qS := fun as A K => ∃ c : Int, as = [rf 1, ni c] ∧ (iva IC A ∧ ivf JC A ∧ 0 ≤ c ∧ c ≤ 47) ∧ (∀ r : Int, rng r → (r = fC_loadOf c A) → K (some (ni r)) A)
theorem okC_loadOf : okM LC 2 29 sC_loadOf := by
  refine qmeth [] true [(20, sC_endOfColumn), (21, sC_hangs)] 48 rfl ⟨okC_endOfColumn.le (by decide), ⟨okC_hangs.le (by decide), trivial⟩⟩ ?_
  rintro _ A K hA has ⟨c, rfl, ⟨i0, j0, p1, p2⟩, hK⟩
  have rg_c : rng c := has (ni c) (by simp)
  have f0 := frm_0 [] [] A
  have hT : _ = fC_loadOf c A := (fC_loadOf.eq_1 c A).symm
  refine ⟨Nat.le_of_ble_eq_true rfl, [(7, [(0, 2, 1), (2, 0, 0), (3, 0, 0), (4, 0, 0)], fun zs B nn => match zs with | [s, e, k] => A = B ∧ nn = (48 - k : Int).toNat ∧ (0 ≤ k) ∧ (k ≤ 48) ∧ (e = c - c % 6 + 6) ∧ (∃ nf : Nat, nn < nf ∧ fC_loadOf_L nf 7 [s, e, k] B = fC_loadOf c A) | _ => False)], ?_, ?_⟩
  · refine ⟨⟨rfl, ?_⟩, trivial⟩
    · refine fun s e k B mm hB hz hI => ?_
      obtain ⟨rfl, hm, c0, c1, c2, ⟨nf, hnf, hT⟩⟩ := hI
      obtain ⟨hz_s, hz_e, hz_k, _⟩ := hz
      obtain ⟨ng, rfl⟩ : ∃ k, nf = k + 1 := ⟨nf - 1, by omega⟩
      replace hT := (fC_loadOf_c7.eq_1 (fC_loadOf_L ng) s e k A).symm.trans ((fC_loadOf_L7 ng s e k A).symm.trans hT)
      refine And.intro (fun h3 => ?_) (fun h3 => ?_)
      · replace hT := (if_neg (Int.not_lt.mpr h3)).symm.trans hT
        exact hK _ (by first | assumption | exact wI_rng _ | exact ⟨by (first | (clear hm hnf; omega) | omega), by (first | (clear hm hnf; omega) | omega)⟩ | exact i_rng _ | (subst_vars; exact i_rng _) | exact (hA _ _).2 rfl) hT
      · replace hT := (if_pos h3).symm.trans hT
        refine Exists.intro k (And.intro rfl (And.intro (fun h4 => ?_) (fun h4 => ?_)))
        · replace hT := (if_pos h4).symm.trans hT
          refine And.intro (fun h5 => by exfalso; omega) (fun h5 => ?_)
          refine And.intro (by (first | (clear hm hnf; omega) | omega)) (fun v6 gv6 e7 => ?_)
          replace hT := qlc e7 hT
          refine fun v8 e9 => ?_
          replace hT := qlc e9 hT
          refine And.intro (by (first | (clear hm hnf; omega) | omega)) (fun v10 gv10 e11 => ?_)
          replace hT := qlc e11 hT
          have b12 := iva_at i0 3 rfl (i := k) (by (first | (clear hm hnf; omega) | omega)) (by (first | (clear hm hnf; omega) | omega))
          refine fun v13 e14 => ?_
          replace hT := qlc e14 hT
          refine And.intro (by (first | (clear hm hnf; omega) | omega)) (fun v15 gv15 e16 => ?_)
          replace hT := qlc e16 hT
          refine fun v17 e18 => ?_
          replace hT := qlc e18 hT
          refine And.intro (by (first | (clear hm hnf; omega) | omega)) (fun v19 gv19 e20 => ?_)
          replace hT := qlc e20 hT
          have b21 := iva_at i0 4 rfl (i := k) (by (first | (clear hm hnf; omega) | omega)) (by (first | (clear hm hnf; omega) | omega))
          refine fun v22 e23 => ?_
          replace hT := qlc e23 hT
          refine fun v24 e25 => ?_
          replace hT := qlc e25 hT
          refine fun v26 e27 => ?_
          replace hT := qlc e27 hT
          have w28 := wI_rng v24
          have w29 := wI_rng v26
          have w30 : wI v26 = v26 := wI_id (by (first | (clear hm hnf; omega) | omega))
          exact Exists.intro (48 - ((wI v26)) : Int).toNat (And.intro (by first | exact qtn hm (by (try clear hm hnf); omega) | omega) (And.intro rfl (And.intro rfl (And.intro (by (first | (clear hm hnf; omega) | omega)) (And.intro (by (first | (clear hm hnf; omega) | omega)) (And.intro (by (first | (clear hm hnf; omega) | omega)) (Exists.intro ng (And.intro (by first | exact qtm hm hnf (by (try clear hm hnf); omega) | omega) hT))))))))
        · replace hT := (if_neg h4).symm.trans hT
          refine And.intro (fun h31 => ?_) (fun h31 => by exfalso; omega)
          exact hK _ (by first | assumption | exact wI_rng _ | exact ⟨by (first | (clear hm hnf; omega) | omega), by (first | (clear hm hnf; omega) | omega)⟩ | exact i_rng _ | (subst_vars; exact i_rng _) | exact (hA _ _).2 rfl) hT
  · refine Exists.intro c (And.intro rfl (And.intro (And.intro (by (first | (clear hm hnf; omega) | omega)) (by (first | (clear hm hnf; omega) | omega))) ?_))
    exact Exists.intro (48 - c : Int).toNat (And.intro rfl (And.intro rfl (And.intro (by (first | (clear hm hnf; omega) | omega)) (And.intro (by (first | (clear hm hnf; omega) | omega)) (And.intro (by (first | (clear hm hnf; omega) | omega)) (Exists.intro 100000 (And.intro (by (first | (clear hm hnf; omega) | omega)) hT)))))))
theorem pC_loadOf {c : Int} {A : qA} (hA : qokA LC A) (p0 : iva IC A) (p1 : ivf JC A) (p2 : 0 ≤ c) (p3 : c ≤ 47) : rng (fC_loadOf c A) := by
  obtain ⟨r, B, hB, _, hk⟩ := okM_ex okC_loadOf (as := [rf 1, ni c]) (K := fun _ B => B = A ∧ rng (fC_loadOf c A)) hA (qoks_c (show qok (rf _) from trivial) (qoks_c (show rng c from ⟨by (first | (clear hm hnf; omega) | omega), by (first | (clear hm hnf; omega) | omega)⟩) qoks_n)) ⟨c, rfl, ⟨p0, p1, p2, p3⟩, fun r9 g9 x0 => (by rw [← x0]; exact ⟨rfl, g9⟩)⟩
  exact hk.2
def fC_ripeLoadOf_c9 (rec : Nat → List Int → qA → Int) (s e k : Int) (A : qA) : Int := (if k < e then (if 0 ≤ k ∧ k ≤ 47 ∧ HG A k then (if 0 ≤ k ∧ k ≤ 47 ∧ HG A k ∧ 0 ≤ A 6 k ∧ A 6 k ≤ 5 then qlet (A 6 k) fun v13 => qlet (A 12 v13) fun v17 => qlet (A 7 k) fun v20 => qlet (v17 - v20) fun v23 => qlet (max 0 (wI v23)) fun v25 => qlet (s + v25) fun v29 => qlet (k + 1) fun v31 => rec 9 [((wI v29)), e, ((wI v31))] A else qlet (k + 1) fun v37 => rec 9 [s, e, ((wI v37))] A) else s) else s)
def fC_ripeLoadOf_L : Nat → Nat → List Int → qA → Int
  | 0 => fun _ _ B => 0
  | nF + 1 => fun k zs B => bif Nat.beq k 9 then (match zs with | [s, e, k] => fC_ripeLoadOf_c9 (fC_ripeLoadOf_L nF) s e k B | _ => 0) else 0
theorem fC_ripeLoadOf_L9 (nF : Nat) (s e k : Int) (B : qA) : fC_ripeLoadOf_L (nF + 1) 9 [s, e, k] B = fC_ripeLoadOf_c9 (fC_ripeLoadOf_L nF) s e k B := (congrFun (congrFun (congrFun (fC_ripeLoadOf_L.eq_2 nF) 9) [s, e, k]) B).trans (qL1 rfl rfl)
def fC_ripeLoadOf (c : Int) (A : qA) : Int := qlet (fC_loadOf c A) fun r3 => (fC_ripeLoadOf_L 100000) 9 [r3, ((c - c % 6 + 6)), c] A
def sC_ripeLoadOf : qS := fun as A K => ∃ c : Int, as = [rf 1, ni c] ∧ (iva IC A ∧ ivf JC A ∧ 0 ≤ c ∧ c ≤ 47) ∧ (∀ r : Int, rng r → (r = fC_ripeLoadOf c A) → K (some (ni r)) A)
theorem okC_ripeLoadOf : okM LC 3 30 sC_ripeLoadOf := by
  refine qmeth [] true [(29, sC_loadOf), (20, sC_endOfColumn), (21, sC_hangs), (22, sC_hasCrop)] 47 rfl ⟨okC_loadOf.le (by decide), ⟨okC_endOfColumn.le (by decide), ⟨okC_hangs.le (by decide), ⟨okC_hasCrop.le (by decide), trivial⟩⟩⟩⟩ ?_
  rintro _ A K hA has ⟨c, rfl, ⟨i0, j0, p1, p2⟩, hK⟩
  have rg_c : rng c := has (ni c) (by simp)
  have f0 := frm_0 [] [] A
  have hT : _ = fC_ripeLoadOf c A := (fC_ripeLoadOf.eq_1 c A).symm
  refine ⟨Nat.le_of_ble_eq_true rfl, [(9, [(0, 2, 1), (2, 0, 0), (3, 0, 0), (4, 0, 0)], fun zs B nn => match zs with | [s, e, k] => A = B ∧ nn = (48 - k : Int).toNat ∧ (0 ≤ k) ∧ (k ≤ 48) ∧ (e = c - c % 6 + 6) ∧ (∃ nf : Nat, nn < nf ∧ fC_ripeLoadOf_L nf 9 [s, e, k] B = fC_ripeLoadOf c A) | _ => False)], ?_, ?_⟩
  · refine ⟨⟨rfl, ?_⟩, trivial⟩
    · refine fun s e k B mm hB hz hI => ?_
      obtain ⟨rfl, hm, c0, c1, c2, ⟨nf, hnf, hT⟩⟩ := hI
      obtain ⟨hz_s, hz_e, hz_k, _⟩ := hz
      obtain ⟨ng, rfl⟩ : ∃ k, nf = k + 1 := ⟨nf - 1, by omega⟩
      replace hT := (fC_ripeLoadOf_c9.eq_1 (fC_ripeLoadOf_L ng) s e k A).symm.trans ((fC_ripeLoadOf_L9 ng s e k A).symm.trans hT)
      refine And.intro (fun h6 => ?_) (fun h6 => ?_)
      · replace hT := (if_neg (Int.not_lt.mpr h6)).symm.trans hT
        exact hK _ (by first | assumption | exact wI_rng _ | exact ⟨by (first | (clear hm hnf; omega) | omega), by (first | (clear hm hnf; omega) | omega)⟩ | exact i_rng _ | (subst_vars; exact i_rng _) | exact (hA _ _).2 rfl) hT
      · replace hT := (if_pos h6).symm.trans hT
        refine Exists.intro k (And.intro rfl (And.intro (fun h7 => ?_) (fun h7 => ?_)))
        · replace hT := (if_pos h7).symm.trans hT
          refine And.intro (fun h8 => by exfalso; omega) (fun h8 => ?_)
          refine Exists.intro k (And.intro rfl (And.intro (fun h9 => ?_) (fun h9 => ?_)))
          · replace hT := (if_pos h9).symm.trans hT
            obtain ⟨v10, e11⟩ : ∃ v, v = A 6 k := ⟨_, rfl⟩
            refine And.intro (fun h12 => by exfalso; omega) (fun h12 => ?_)
            refine And.intro (by (first | (clear hm hnf; omega) | omega)) (fun v13 gv13 e14 => ?_)
            replace hT := qlc e14 hT
            have b15 := iva_at i0 2 rfl (i := k) (by (first | (clear hm hnf; omega) | omega)) (by (first | (clear hm hnf; omega) | omega))
            have q16 : v10 = v13 := (e14.trans e11.symm).symm
            subst q16
            refine And.intro (by (first | (clear hm hnf; omega) | omega)) (fun v17 gv17 e18 => ?_)
            replace hT := qlc e18 hT
            have b19 := iva_at i0 9 rfl (i := v10) (by (first | (clear hm hnf; omega) | omega)) (by (first | (clear hm hnf; omega) | omega))
            refine And.intro (by (first | (clear hm hnf; omega) | omega)) (fun v20 gv20 e21 => ?_)
            replace hT := qlc e21 hT
            have b22 := iva_at i0 3 rfl (i := k) (by (first | (clear hm hnf; omega) | omega)) (by (first | (clear hm hnf; omega) | omega))
            refine fun v23 e24 => ?_
            replace hT := qlc e24 hT
            have w27 := wI_rng v23
            have w28 : wI v23 = v23 := wI_id (by (first | (clear hm hnf; omega) | omega))
            refine (fun v25 e26 => ?_)
            replace hT := qlc e26 hT
            refine fun v29 e30 => ?_
            replace hT := qlc e30 hT
            refine fun v31 e32 => ?_
            replace hT := qlc e32 hT
            have w33 := wI_rng v29
            have w34 := wI_rng v31
            have w35 : wI v31 = v31 := wI_id (by (first | (clear hm hnf; omega) | omega))
            exact Exists.intro (48 - ((wI v31)) : Int).toNat (And.intro (by first | exact qtn hm (by (try clear hm hnf); omega) | omega) (And.intro rfl (And.intro rfl (And.intro (by (first | (clear hm hnf; omega) | omega)) (And.intro (by (first | (clear hm hnf; omega) | omega)) (And.intro (by (first | (clear hm hnf; omega) | omega)) (Exists.intro ng (And.intro (by first | exact qtm hm hnf (by (try clear hm hnf); omega) | omega) hT))))))))
          · replace hT := (if_neg h9).symm.trans hT
            refine And.intro (fun h36 => ?_) (fun h36 => by exfalso; omega)
            refine fun v37 e38 => ?_
            replace hT := qlc e38 hT
            have w39 := wI_rng v37
            have w40 : wI v37 = v37 := wI_id (by (first | (clear hm hnf; omega) | omega))
            exact Exists.intro (48 - ((wI v37)) : Int).toNat (And.intro (by first | exact qtn hm (by (try clear hm hnf); omega) | omega) (And.intro rfl (And.intro rfl (And.intro (by (first | (clear hm hnf; omega) | omega)) (And.intro (by (first | (clear hm hnf; omega) | omega)) (And.intro (by (first | (clear hm hnf; omega) | omega)) (Exists.intro ng (And.intro (by first | exact qtm hm hnf (by (try clear hm hnf); omega) | omega) hT))))))))
        · replace hT := (if_neg h7).symm.trans hT
          refine And.intro (fun h41 => ?_) (fun h41 => by exfalso; omega)
          exact hK _ (by first | assumption | exact wI_rng _ | exact ⟨by (first | (clear hm hnf; omega) | omega), by (first | (clear hm hnf; omega) | omega)⟩ | exact i_rng _ | (subst_vars; exact i_rng _) | exact (hA _ _).2 rfl) hT
  · refine Exists.intro c (And.intro rfl (And.intro (And.intro i0 (And.intro j0 (And.intro (by (first | (clear hm hnf; omega) | omega)) (by (first | (clear hm hnf; omega) | omega))))) (fun r3 g5 g4 => ?_)))
    replace hT := qlc g4 hT
    clear g4
    refine Exists.intro c (And.intro rfl (And.intro (And.intro (by (first | (clear hm hnf; omega) | omega)) (by (first | (clear hm hnf; omega) | omega))) ?_))
    exact Exists.intro (48 - c : Int).toNat (And.intro rfl (And.intro rfl (And.intro (by (first | (clear hm hnf; omega) | omega)) (And.intro (by (first | (clear hm hnf; omega) | omega)) (And.intro (by (first | (clear hm hnf; omega) | omega)) (Exists.intro 100000 (And.intro (by (first | (clear hm hnf; omega) | omega)) hT)))))))
theorem pC_ripeLoadOf {c : Int} {A : qA} (hA : qokA LC A) (p0 : iva IC A) (p1 : ivf JC A) (p2 : 0 ≤ c) (p3 : c ≤ 47) : rng (fC_ripeLoadOf c A) := by
  obtain ⟨r, B, hB, _, hk⟩ := okM_ex okC_ripeLoadOf (as := [rf 1, ni c]) (K := fun _ B => B = A ∧ rng (fC_ripeLoadOf c A)) hA (qoks_c (show qok (rf _) from trivial) (qoks_c (show rng c from ⟨by (first | (clear hm hnf; omega) | omega), by (first | (clear hm hnf; omega) | omega)⟩) qoks_n)) ⟨c, rfl, ⟨p0, p1, p2, p3⟩, fun r9 g9 x0 => (by rw [← x0]; exact ⟨rfl, g9⟩)⟩
  exact hk.2
def fC_firstOverloaded_c2 (rec : Nat → List Int → qA → Int) (k : Int) (A : qA) : Int := (if k < 48 then (if 0 ≤ k ∧ k ≤ 47 ∧ HG A k then qlet (fC_loadOf k A) fun r4 => qlet (A 2 k) fun v7 => (if v7 < r4 then k else qlet (k + 1) fun v11 => rec 2 [((wI v11))] A) else qlet (k + 1) fun v16 => rec 2 [((wI v16))] A) else (-1))
def fC_firstOverloaded_L : Nat → Nat → List Int → qA → Int
  | 0 => fun _ _ B => 0
  | nF + 1 => fun k zs B => bif Nat.beq k 2 then (match zs with | [k] => fC_firstOverloaded_c2 (fC_firstOverloaded_L nF) k B | _ => 0) else 0
theorem fC_firstOverloaded_L2 (nF : Nat) (k : Int) (B : qA) : fC_firstOverloaded_L (nF + 1) 2 [k] B = fC_firstOverloaded_c2 (fC_firstOverloaded_L nF) k B := (congrFun (congrFun (congrFun (fC_firstOverloaded_L.eq_2 nF) 2) [k]) B).trans (qL1 rfl rfl)
def fC_firstOverloaded (A : qA) : Int := (fC_firstOverloaded_L 100000) 2 [0] A
def sC_firstOverloaded : qS := fun as A K => as = [rf 1] ∧ (iva IC A ∧ ivf JC A) ∧ (∀ r : Int, (-1) ≤ r → r ≤ 47 → (r = fC_firstOverloaded A) → K (some (ni r)) A)
theorem okC_firstOverloaded : okM LC 3 31 sC_firstOverloaded := by
  refine qmeth [] true [(21, sC_hangs), (29, sC_loadOf)] 29 rfl ⟨okC_hangs.le (by decide), ⟨okC_loadOf.le (by decide), trivial⟩⟩ ?_
  rintro _ A K hA has ⟨rfl, ⟨i0, j0⟩, hK⟩
  have f0 := frm_0 [] [] A
  have hT : _ = fC_firstOverloaded A := (fC_firstOverloaded.eq_1 A).symm
  refine ⟨Nat.le_of_ble_eq_true rfl, [(2, [(0, 2, 1), (1, 0, 0)], fun zs B nn => match zs with | [k] => A = B ∧ nn = (48 - k : Int).toNat ∧ (0 ≤ k) ∧ (k ≤ 48) ∧ (∃ nf : Nat, nn < nf ∧ fC_firstOverloaded_L nf 2 [k] B = fC_firstOverloaded A) | _ => False)], ?_, ?_⟩
  · refine ⟨⟨rfl, ?_⟩, trivial⟩
    · refine fun k B mm hB hz hI => ?_
      obtain ⟨rfl, hm, c0, c1, ⟨nf, hnf, hT⟩⟩ := hI
      obtain ⟨hz_k, _⟩ := hz
      obtain ⟨ng, rfl⟩ : ∃ k, nf = k + 1 := ⟨nf - 1, by omega⟩
      replace hT := (fC_firstOverloaded_c2.eq_1 (fC_firstOverloaded_L ng) k A).symm.trans ((fC_firstOverloaded_L2 ng k A).symm.trans hT)
      refine And.intro (fun h1 => ?_) (fun h1 => ?_)
      · replace hT := (if_neg (Int.not_lt.mpr h1)).symm.trans hT
        exact hK _ (by (first | (clear hm hnf; omega) | omega)) (by (first | (clear hm hnf; omega) | omega)) hT
      · replace hT := (if_pos h1).symm.trans hT
        refine Exists.intro k (And.intro rfl (And.intro (fun h2 => ?_) (fun h2 => ?_)))
        · replace hT := (if_pos h2).symm.trans hT
          refine And.intro (fun h3 => by exfalso; omega) (fun h3 => ?_)
          refine Exists.intro k (And.intro rfl (And.intro (And.intro i0 (And.intro j0 (And.intro (by (first | (clear hm hnf; omega) | omega)) (by (first | (clear hm hnf; omega) | omega))))) (fun r4 g6 g5 => ?_)))
          replace hT := qlc g5 hT
          clear g5
          refine And.intro (by (first | (clear hm hnf; omega) | omega)) (fun v7 gv7 e8 => ?_)
          replace hT := qlc e8 hT
          have b9 := iva_at i0 0 rfl (i := k) (by (first | (clear hm hnf; omega) | omega)) (by (first | (clear hm hnf; omega) | omega))
          refine And.intro (fun h10 => ?_) (fun h10 => ?_)
          · replace hT := (if_neg (Int.not_lt.mpr h10)).symm.trans hT
            refine fun v11 e12 => ?_
            replace hT := qlc e12 hT
            have w13 := wI_rng v11
            have w14 : wI v11 = v11 := wI_id (by (first | (clear hm hnf; omega) | omega))
            exact Exists.intro (48 - ((wI v11)) : Int).toNat (And.intro (by first | exact qtn hm (by (try clear hm hnf); omega) | omega) (And.intro rfl (And.intro rfl (And.intro (by (first | (clear hm hnf; omega) | omega)) (And.intro (by (first | (clear hm hnf; omega) | omega)) (Exists.intro ng (And.intro (by first | exact qtm hm hnf (by (try clear hm hnf); omega) | omega) hT)))))))
          · replace hT := (if_pos h10).symm.trans hT
            exact hK _ (by (first | (clear hm hnf; omega) | omega)) (by (first | (clear hm hnf; omega) | omega)) hT
        · replace hT := (if_neg h2).symm.trans hT
          refine And.intro (fun h15 => ?_) (fun h15 => by exfalso; omega)
          refine fun v16 e17 => ?_
          replace hT := qlc e17 hT
          have w18 := wI_rng v16
          have w19 : wI v16 = v16 := wI_id (by (first | (clear hm hnf; omega) | omega))
          exact Exists.intro (48 - ((wI v16)) : Int).toNat (And.intro (by first | exact qtn hm (by (try clear hm hnf); omega) | omega) (And.intro rfl (And.intro rfl (And.intro (by (first | (clear hm hnf; omega) | omega)) (And.intro (by (first | (clear hm hnf; omega) | omega)) (Exists.intro ng (And.intro (by first | exact qtm hm hnf (by (try clear hm hnf); omega) | omega) hT)))))))
  · exact Exists.intro (48 - 0 : Int).toNat (And.intro rfl (And.intro rfl (And.intro (by (first | (clear hm hnf; omega) | omega)) (And.intro (by (first | (clear hm hnf; omega) | omega)) (Exists.intro 100000 (And.intro (by (first | (clear hm hnf; omega) | omega)) hT))))))
theorem pC_firstOverloaded {A : qA} (hA : qokA LC A) (p0 : iva IC A) (p1 : ivf JC A) : ((-1) ≤ (fC_firstOverloaded A) ∧ (fC_firstOverloaded A) ≤ 47) := by
  obtain ⟨r, B, hB, _, hk⟩ := okM_ex okC_firstOverloaded (as := [rf 1]) (K := fun _ B => B = A ∧ ((-1) ≤ (fC_firstOverloaded A) ∧ (fC_firstOverloaded A) ≤ 47)) hA (qoks_c (show qok (rf _) from trivial) qoks_n) ⟨rfl, ⟨p0, p1⟩, fun r9 g8 g9 x0 => (by rw [← x0]; exact ⟨rfl, ⟨g8, g9⟩⟩)⟩
  exact hk.2
def fC_loosen (c b : Int) (A : qA) : qA := (if 0 ≤ c ∧ c ≤ 47 ∧ HG A c then qlet (A 2 c) fun v3 => qlet (v3 - b) fun v6 => qlet (max 0 (wI v6)) fun v8 => qlet (qu A 2 c v8) fun A11 => A11 else A)
def sC_loosen : qS := fun as A K => ∃ c b : Int, as = [rf 1, ni c, ni b] ∧ (iva IC A ∧ ivf JC A) ∧ (∀ A' : qA, iva IC A' → ivf JC A' → frm [2] [] A A' → (A' = fC_loosen c b A) → K none A')
theorem okC_loosen : okM LC 2 33 sC_loosen := by
  refine qmeth [] true [(21, sC_hangs)] 23 rfl ⟨okC_hangs.le (by decide), trivial⟩ ?_
  rintro _ A K hA has ⟨c, b, rfl, ⟨i0, j0⟩, hK⟩
  have rg_c : rng c := has (ni c) (by simp)
  have rg_b : rng b := has (ni b) (by simp)
  have f0 := frm_0 [2] [] A
  have hT : _ = fC_loosen c b A := (fC_loosen.eq_1 c b A).symm
  refine ⟨Nat.le_of_ble_eq_true rfl, [], trivial, ?_⟩
  refine Exists.intro c (And.intro rfl (And.intro (fun h1 => ?_) (fun h1 => ?_)))
  · replace hT := (if_pos h1).symm.trans hT
    refine And.intro (fun h2 => by exfalso; omega) (fun h2 => ?_)
    refine And.intro (by (first | (clear hm hnf; omega) | omega)) (fun v3 gv3 e4 => ?_)
    replace hT := qlc e4 hT
    have b5 := iva_at i0 0 rfl (i := c) (by (first | (clear hm hnf; omega) | omega)) (by (first | (clear hm hnf; omega) | omega))
    refine fun v6 e7 => ?_
    replace hT := qlc e7 hT
    have w10 := wI_rng v6
    refine (fun v8 e9 => ?_)
    replace hT := qlc e9 hT
    refine And.intro (by (first | (clear hm hnf; omega) | omega)) (fun A11 e12 => ?_)
    replace hT := qlc e12 hT
    have i13 := iva_st i0 e12 (And.intro (by (first | (clear hm hnf; omega) | omega)) trivial)
    have j14 := ivf_sa j0 e12 rfl
    have f15 := frm_s f0 e12 rfl
    exact hK _ i13 j14 f15 hT
  · replace hT := (if_neg h1).symm.trans hT
    refine And.intro (fun h16 => ?_) (fun h16 => by exfalso; omega)
    exact hK _ i0 j0 f0 hT
theorem pC_loosen {c b : Int} {A : qA} (hA : qokA LC A) (rg_c : rng c) (rg_b : rng b) (p0 : iva IC A) (p1 : ivf JC A) : qokA LC (fC_loosen c b A) ∧ iva IC (fC_loosen c b A) ∧ ivf JC (fC_loosen c b A) ∧ frm [2] [] A (fC_loosen c b A) := by
  obtain ⟨r, B, hB, _, hk⟩ := okM_ex okC_loosen (as := [rf 1, ni c, ni b]) (K := fun _ B => B = (fC_loosen c b A) ∧ iva IC (fC_loosen c b A) ∧ ivf JC (fC_loosen c b A) ∧ frm [2] [] A (fC_loosen c b A)) hA (qoks_c (show qok (rf _) from trivial) (qoks_c (rg_c) (qoks_c (rg_b) qoks_n))) ⟨c, b, rfl, ⟨p0, p1⟩, fun A9 i9 j9 f9 x0 => (by rw [← x0]; exact ⟨rfl, i9, j9, f9⟩)⟩
  exact ⟨hk.1 ▸ hB, hk.2⟩
def fC_unhang_c5 (rec : Nat → List Int → qA → qA) (l1 l2 e k : Int) (B : qA) : qA := (if k < e then qlet (B 1 (fd 0)) fun v34 => qlet ((1 : Int)) fun v36 => qlet (jsl v36 k) fun v38 => qlet (jx v38 (qnL 18446744073709551615)) fun v40 => qlet (ja v34 v40) fun v42 => qlet (qu B 1 (fd 0) v42) fun A44 => qlet (k + 1) fun v49 => rec 5 [l1, l2, e, ((wI v49))] A44 else qlet (l1 - 6) fun v4 => qlet (qd l2 10) fun v6 => qlet (fC_loosen (wI v4) (wI v6) B) fun A13 => qlet (l1 + 6) fun v19 => qlet (qd l2 10) fun v21 => qlet (fC_loosen (wI v19) (wI v21) A13) fun A28 => A28)
def fC_unhang_L : Nat → Nat → List Int → qA → qA
  | 0 => fun _ _ B => B
  | nF + 1 => fun k zs B => bif Nat.beq k 5 then (match zs with | [l1, l2, e, k] => fC_unhang_c5 (fC_unhang_L nF) l1 l2 e k B | _ => B) else B
theorem fC_unhang_L5 (nF : Nat) (l1 l2 e k : Int) (B : qA) : fC_unhang_L (nF + 1) 5 [l1, l2, e, k] B = fC_unhang_c5 (fC_unhang_L nF) l1 l2 e k B := (congrFun (congrFun (congrFun (fC_unhang_L.eq_2 nF) 5) [l1, l2, e, k]) B).trans (qL1 rfl rfl)
def fC_unhang (c b : Int) (A : qA) : qA := (fC_unhang_L 100000) 5 [c, b, ((c - c % 6 + 6)), c] A
def sC_unhang : qS := fun as A K => ∃ c b : Int, as = [rf 1, ni c, ni b] ∧ (iva IC A ∧ ivf JC A ∧ 0 ≤ c ∧ c ≤ 47) ∧ (∀ A' : qA, iva IC A' → ivf JC A' → frm [2] [(1, 0)] A A' → (A' = fC_unhang c b A) → K none A')
theorem okC_unhang : okM LC 3 32 sC_unhang := by
  refine qmeth [] true [(20, sC_endOfColumn), (33, sC_loosen)] 43 rfl ⟨okC_endOfColumn.le (by decide), ⟨okC_loosen.le (by decide), trivial⟩⟩ ?_
  rintro _ A K hA has ⟨c, b, rfl, ⟨i0, j0, p1, p2⟩, hK⟩
  have rg_c : rng c := has (ni c) (by simp)
  have rg_b : rng b := has (ni b) (by simp)
  have f0 := frm_0 [2] [(1, 0)] A
  have hT : _ = fC_unhang c b A := (fC_unhang.eq_1 c b A).symm
  refine ⟨Nat.le_of_ble_eq_true rfl, [(5, [(0, 2, 1), (1, 0, 0), (2, 0, 0), (3, 0, 0), (4, 0, 0)], fun zs B nn => match zs with | [l1, l2, e, k] => iva IC B ∧ ivf JC B ∧ frm [2] [(1, 0)] A B ∧ nn = (48 - k : Int).toNat ∧ (l1 = c) ∧ (l2 = b) ∧ (0 ≤ k) ∧ (k ≤ 48) ∧ (e = c - c % 6 + 6) ∧ (∃ nf : Nat, nn < nf ∧ fC_unhang_L nf 5 [l1, l2, e, k] B = fC_unhang c b A) | _ => False)], ?_, ?_⟩
  · refine ⟨⟨rfl, ?_⟩, trivial⟩
    · refine fun l1 l2 e k B mm hB hz hI => ?_
      obtain ⟨i1, j1, f1, hm, c0, c1, c2, c3, c4, ⟨nf, hnf, hT⟩⟩ := hI
      obtain ⟨hz_l1, hz_l2, hz_e, hz_k, _⟩ := hz
      obtain ⟨ng, rfl⟩ : ∃ k, nf = k + 1 := ⟨nf - 1, by omega⟩
      replace hT := (fC_unhang_c5.eq_1 (fC_unhang_L ng) l1 l2 e k B).symm.trans ((fC_unhang_L5 ng l1 l2 e k B).symm.trans hT)
      refine And.intro (fun h3 => ?_) (fun h3 => ?_)
      · replace hT := (if_neg (Int.not_lt.mpr h3)).symm.trans hT
        refine fun v4 e5 => ?_
        replace hT := qlc e5 hT
        refine And.intro (by (first | (clear hm hnf; omega) | omega)) (fun v6 e7 => ?_)
        replace hT := qlc e7 hT
        have h8 := qd_bd (a := l2) (b := 10) (lo := (-2147483648)) (hi := 2147483647) (by (first | (clear hm hnf; omega) | omega)) (by (first | (clear hm hnf; omega) | omega)) (by (first | (clear hm hnf; omega) | omega)) (by (first | (clear hm hnf; omega) | omega)) (by (first | (clear hm hnf; omega) | omega))
        have w9 := wI_rng v4
        have w10 : wI v4 = v4 := wI_id (by (first | (clear hm hnf; omega) | omega))
        have w11 := wI_rng v6
        have w12 : wI v6 = v6 := wI_id (by (first | (clear hm hnf; omega) | omega))
        refine Exists.intro (wI v4) (Exists.intro (wI v6) (And.intro rfl (And.intro (And.intro i1 j1) (fun A13 i14 j15 f16 g17 => ?_))))
        replace hT := qlc g17 hT
        have f18 := frm_c f1 f16 rfl
        refine fun v19 e20 => ?_
        replace hT := qlc e20 hT
        refine And.intro (by (first | (clear hm hnf; omega) | omega)) (fun v21 e22 => ?_)
        replace hT := qlc e22 hT
        have h23 := qd_bd (a := l2) (b := 10) (lo := (-2147483648)) (hi := 2147483647) (by (first | (clear hm hnf; omega) | omega)) (by (first | (clear hm hnf; omega) | omega)) (by (first | (clear hm hnf; omega) | omega)) (by (first | (clear hm hnf; omega) | omega)) (by (first | (clear hm hnf; omega) | omega))
        have w24 := wI_rng v19
        have w25 : wI v19 = v19 := wI_id (by (first | (clear hm hnf; omega) | omega))
        have w26 := wI_rng v21
        have w27 : wI v21 = v21 := wI_id (by (first | (clear hm hnf; omega) | omega))
        refine Exists.intro (wI v19) (Exists.intro (wI v21) (And.intro rfl (And.intro (And.intro i14 j15) (fun A28 i29 j30 f31 g32 => ?_))))
        replace hT := qlc g32 hT
        have f33 := frm_c f18 f31 rfl
        exact hK _ i29 j30 f33 hT
      · replace hT := (if_pos h3).symm.trans hT
        refine fun v34 e35 => ?_
        replace hT := qlc e35 hT
        refine fun (v36 : Int) (e37 : v36 = 1) => ?_
        replace hT := qlc e37 hT
        refine fun v38 e39 => ?_
        replace hT := qlc e39 hT
        refine fun v40 e41 => ?_
        replace hT := qlc e41 hT
        refine fun v42 e43 => ?_
        replace hT := qlc e43 hT
        refine fun A44 e45 => ?_
        replace hT := qlc e45 hT
        have i46 := iva_sf i1 e45 rfl
        have j47 := ivf_st j1 e45 trivial
        have f48 := frm_sf f1 e45 rfl
        refine fun v49 e50 => ?_
        replace hT := qlc e50 hT
        have w51 := wI_rng v49
        have w52 : wI v49 = v49 := wI_id (by (first | (clear hm hnf; omega) | omega))
        exact Exists.intro (48 - ((wI v49)) : Int).toNat (And.intro (by first | exact qtn hm (by (try clear hm hnf); omega) | omega) (And.intro i46 (And.intro j47 (And.intro f48 (And.intro rfl (And.intro (by (first | (clear hm hnf; omega) | omega)) (And.intro (by (first | (clear hm hnf; omega) | omega)) (And.intro (by (first | (clear hm hnf; omega) | omega)) (And.intro (by (first | (clear hm hnf; omega) | omega)) (And.intro (by (first | (clear hm hnf; omega) | omega)) (Exists.intro ng (And.intro (by first | exact qtm hm hnf (by (try clear hm hnf); omega) | omega) hT))))))))))))
  · refine Exists.intro c (And.intro rfl (And.intro (And.intro (by (first | (clear hm hnf; omega) | omega)) (by (first | (clear hm hnf; omega) | omega))) ?_))
    exact Exists.intro (48 - c : Int).toNat (And.intro i0 (And.intro j0 (And.intro f0 (And.intro rfl (And.intro (by (first | (clear hm hnf; omega) | omega)) (And.intro (by (first | (clear hm hnf; omega) | omega)) (And.intro (by (first | (clear hm hnf; omega) | omega)) (And.intro (by (first | (clear hm hnf; omega) | omega)) (And.intro (by (first | (clear hm hnf; omega) | omega)) (Exists.intro 100000 (And.intro (by (first | (clear hm hnf; omega) | omega)) hT)))))))))))
theorem pC_unhang {c b : Int} {A : qA} (hA : qokA LC A) (rg_b : rng b) (p0 : iva IC A) (p1 : ivf JC A) (p2 : 0 ≤ c) (p3 : c ≤ 47) : qokA LC (fC_unhang c b A) ∧ iva IC (fC_unhang c b A) ∧ ivf JC (fC_unhang c b A) ∧ frm [2] [(1, 0)] A (fC_unhang c b A) := by
  obtain ⟨r, B, hB, _, hk⟩ := okM_ex okC_unhang (as := [rf 1, ni c, ni b]) (K := fun _ B => B = (fC_unhang c b A) ∧ iva IC (fC_unhang c b A) ∧ ivf JC (fC_unhang c b A) ∧ frm [2] [(1, 0)] A (fC_unhang c b A)) hA (qoks_c (show qok (rf _) from trivial) (qoks_c (show rng c from ⟨by (first | (clear hm hnf; omega) | omega), by (first | (clear hm hnf; omega) | omega)⟩) (qoks_c (rg_b) qoks_n))) ⟨c, b, rfl, ⟨p0, p1, p2, p3⟩, fun A9 i9 j9 f9 x0 => (by rw [← x0]; exact ⟨rfl, i9, j9, f9⟩)⟩
  exact ⟨hk.1 ▸ hB, hk.2⟩
def fC_wouldGo_c15 (rec : Nat → List Int → qA → Int × qA) (l2 x k : Int) (B : qA) : Int × qA := (if 48 < k then qlet (B 1 (fd 0)) fun v11 => qlet (jx v11 (qnL 18446744073709551615)) fun v13 => qlet (ja l2 v13) fun v15 => qlet (qu B 1 (fd 0) l2) fun A17 => qlet (qcpy A17 14 0 2 0 48) fun A22 => (v15, A22) else (if x = (-1) then qlet (B 1 (fd 0)) fun v28 => qlet (jx v28 (qnL 18446744073709551615)) fun v30 => qlet (ja l2 v30) fun v32 => qlet (qu B 1 (fd 0) l2) fun A34 => qlet (qcpy A34 14 0 2 0 48) fun A39 => (v32, A39) else qlet (fC_loadOf x B) fun r44 => qlet (fC_unhang x r44 B) fun A47 => qlet (fC_firstOverloaded A47) fun r53 => qlet (k + 1) fun v57 => rec 15 [l2, r53, ((wI v57))] A47))
def fC_wouldGo_L : Nat → Nat → List Int → qA → Int × qA
  | 0 => fun _ _ B => (0, B)
  | nF + 1 => fun k zs B => bif Nat.beq k 15 then (match zs with | [l2, x, k] => fC_wouldGo_c15 (fC_wouldGo_L nF) l2 x k B | _ => (0, B)) else (0, B)
theorem fC_wouldGo_L15 (nF : Nat) (l2 x k : Int) (B : qA) : fC_wouldGo_L (nF + 1) 15 [l2, x, k] B = fC_wouldGo_c15 (fC_wouldGo_L nF) l2 x k B := (congrFun (congrFun (congrFun (fC_wouldGo_L.eq_2 nF) 15) [l2, x, k]) B).trans (qL1 rfl rfl)
def fC_wouldGo (c : Int) (A : qA) : Int × qA := qlet (A 1 (fd 0)) fun v3 => qlet (qcpy A 2 0 14 0 48) fun A5 => (fC_wouldGo_L 100000) 15 [v3, c, 0] A5
def sC_wouldGo : qS := fun as A K => ∃ c : Int, as = [rf 1, ni c] ∧ (iva IC A ∧ ivf JC A ∧ 0 ≤ c ∧ c ≤ 47) ∧ (∀ A' : qA, iva IC A' → ivf JC A' → frm [2, 14] [(1, 0)] A A' → ∀ r : Int, rngL r → (r = (fC_wouldGo c A).1) → (A' = (fC_wouldGo c A).2) → K (some (nl r)) A')
theorem okC_wouldGo : okM LC 4 34 sC_wouldGo := by
  refine qmeth [] true [(29, sC_loadOf), (32, sC_unhang), (31, sC_firstOverloaded)] 58 rfl ⟨okC_loadOf.le (by decide), ⟨okC_unhang.le (by decide), ⟨okC_firstOverloaded.le (by decide), trivial⟩⟩⟩ ?_
  rintro _ A K hA has ⟨c, rfl, ⟨i0, j0, p1, p2⟩, hK⟩
  have rg_c : rng c := has (ni c) (by simp)
  have f0 := frm_0 [2, 14] [(1, 0)] A
  have hT : _ = fC_wouldGo c A := (fC_wouldGo.eq_1 c A).symm
  refine ⟨Nat.le_of_ble_eq_true rfl, [(15, [(0, 2, 1), (2, 1, 0), (4, 0, 0), (5, 0, 0)], fun zs B nn => match zs with | [l2, x, k] => iva IC B ∧ ivf JC B ∧ frm [2, 14] [(1, 0)] A B ∧ nn = (49 - k : Int).toNat ∧ (0 ≤ k) ∧ (k ≤ 49) ∧ ((-1) ≤ x) ∧ (x ≤ 47) ∧ (∃ nf : Nat, nn < nf ∧ fC_wouldGo_L nf 15 [l2, x, k] B = fC_wouldGo c A) | _ => False)], ?_, ?_⟩
  · refine ⟨⟨rfl, ?_⟩, trivial⟩
    · refine fun l2 x k B mm hB hz hI => ?_
      obtain ⟨i1, j1, f1, hm, c0, c1, c2, c3, ⟨nf, hnf, hT⟩⟩ := hI
      obtain ⟨hz_l2, hz_x, hz_k, _⟩ := hz
      obtain ⟨ng, rfl⟩ : ∃ k, nf = k + 1 := ⟨nf - 1, by omega⟩
      replace hT := (fC_wouldGo_c15.eq_1 (fC_wouldGo_L ng) l2 x k B).symm.trans ((fC_wouldGo_L15 ng l2 x k B).symm.trans hT)
      refine And.intro (fun h10 => ?_) (fun h10 => ?_)
      · replace hT := (if_pos h10).symm.trans hT
        refine fun v11 e12 => ?_
        replace hT := qlc e12 hT
        refine fun v13 e14 => ?_
        replace hT := qlc e14 hT
        refine fun v15 e16 => ?_
        replace hT := qlc e16 hT
        refine fun A17 e18 => ?_
        replace hT := qlc e18 hT
        have i19 := iva_sf i1 e18 rfl
        have j20 := ivf_st j1 e18 trivial
        have f21 := frm_sf f1 e18 rfl
        refine And.intro (by (first | (clear hm hnf; omega) | omega)) (fun A22 e23 => ?_)
        replace hT := qlc e23 hT
        have i24 := iva_cp i19 e23 (fun i h0 h1 => And.intro (by have := iva_at i19 11 rfl (i := 0 + i) (by (first | (clear hm hnf; omega) | omega)) (by (first | (clear hm hnf; omega) | omega)); omega) trivial)
        have j25 := ivf_cp j20 e23 rfl
        have f26 := frm_cp f21 e23 rfl
        exact hK _ i24 j25 f26 _ (by first | assumption | omega | (subst_vars; exact l_rng _) | (subst_vars; exact (hB _ _).1) | exact qnL_rng (by decide)) (congrArg Prod.fst hT) (congrArg Prod.snd hT)
      · replace hT := (if_neg (Int.not_lt.mpr h10)).symm.trans hT
        refine And.intro (fun h27 => ?_) (fun h27 => ?_)
        · replace hT := (if_pos h27).symm.trans hT
          refine fun v28 e29 => ?_
          replace hT := qlc e29 hT
          refine fun v30 e31 => ?_
          replace hT := qlc e31 hT
          refine fun v32 e33 => ?_
          replace hT := qlc e33 hT
          refine fun A34 e35 => ?_
          replace hT := qlc e35 hT
          have i36 := iva_sf i1 e35 rfl
          have j37 := ivf_st j1 e35 trivial
          have f38 := frm_sf f1 e35 rfl
          refine And.intro (by (first | (clear hm hnf; omega) | omega)) (fun A39 e40 => ?_)
          replace hT := qlc e40 hT
          have i41 := iva_cp i36 e40 (fun i h0 h1 => And.intro (by have := iva_at i36 11 rfl (i := 0 + i) (by (first | (clear hm hnf; omega) | omega)) (by (first | (clear hm hnf; omega) | omega)); omega) trivial)
          have j42 := ivf_cp j37 e40 rfl
          have f43 := frm_cp f38 e40 rfl
          exact hK _ i41 j42 f43 _ (by first | assumption | omega | (subst_vars; exact l_rng _) | (subst_vars; exact (hB _ _).1) | exact qnL_rng (by decide)) (congrArg Prod.fst hT) (congrArg Prod.snd hT)
        · replace hT := (if_neg h27).symm.trans hT
          refine Exists.intro x (And.intro rfl (And.intro (And.intro i1 (And.intro j1 (And.intro (by (first | (clear hm hnf; omega) | omega)) (by (first | (clear hm hnf; omega) | omega))))) (fun r44 g46 g45 => ?_)))
          replace hT := qlc g45 hT
          clear g45
          refine Exists.intro x (Exists.intro r44 (And.intro rfl (And.intro (And.intro i1 (And.intro j1 (And.intro (by (first | (clear hm hnf; omega) | omega)) (by (first | (clear hm hnf; omega) | omega))))) (fun A47 i48 j49 f50 g51 => ?_))))
          replace hT := qlc g51 hT
          have f52 := frm_c f1 f50 rfl
          refine And.intro rfl (And.intro (And.intro i48 j49) (fun r53 g55 g56 g54 => ?_))
          replace hT := qlc g54 hT
          clear g54
          refine fun v57 e58 => ?_
          replace hT := qlc e58 hT
          have w59 := wI_rng v57
          have w60 : wI v57 = v57 := wI_id (by (first | (clear hm hnf; omega) | omega))
          exact Exists.intro (49 - ((wI v57)) : Int).toNat (And.intro (by first | exact qtn hm (by (try clear hm hnf); omega) | omega) (And.intro i48 (And.intro j49 (And.intro f52 (And.intro rfl (And.intro (by (first | (clear hm hnf; omega) | omega)) (And.intro (by (first | (clear hm hnf; omega) | omega)) (And.intro (by (first | (clear hm hnf; omega) | omega)) (And.intro (by (first | (clear hm hnf; omega) | omega)) (Exists.intro ng (And.intro (by first | exact qtm hm hnf (by (try clear hm hnf); omega) | omega) hT)))))))))))
  · refine fun v3 e4 => ?_
    replace hT := qlc e4 hT
    refine And.intro (by (first | (clear hm hnf; omega) | omega)) (fun A5 e6 => ?_)
    replace hT := qlc e6 hT
    have i7 := iva_cp i0 e6 (fun i h0 h1 => And.intro (by have := iva_at i0 0 rfl (i := 0 + i) (by (first | (clear hm hnf; omega) | omega)) (by (first | (clear hm hnf; omega) | omega)); omega) trivial)
    have j8 := ivf_cp j0 e6 rfl
    have f9 := frm_cp f0 e6 rfl
    exact Exists.intro (49 - 0 : Int).toNat (And.intro i7 (And.intro j8 (And.intro f9 (And.intro rfl (And.intro (by (first | (clear hm hnf; omega) | omega)) (And.intro (by (first | (clear hm hnf; omega) | omega)) (And.intro (by (first | (clear hm hnf; omega) | omega)) (And.intro (by (first | (clear hm hnf; omega) | omega)) (Exists.intro 100000 (And.intro (by (first | (clear hm hnf; omega) | omega)) hT))))))))))
theorem pC_wouldGo {c : Int} {A : qA} (hA : qokA LC A) (p0 : iva IC A) (p1 : ivf JC A) (p2 : 0 ≤ c) (p3 : c ≤ 47) : qokA LC (fC_wouldGo c A).2 ∧ iva IC (fC_wouldGo c A).2 ∧ ivf JC (fC_wouldGo c A).2 ∧ frm [2, 14] [(1, 0)] A (fC_wouldGo c A).2 ∧ rngL (fC_wouldGo c A).1 := by
  obtain ⟨r, B, hB, _, hk⟩ := okM_ex okC_wouldGo (as := [rf 1, ni c]) (K := fun _ B => B = (fC_wouldGo c A).2 ∧ iva IC (fC_wouldGo c A).2 ∧ ivf JC (fC_wouldGo c A).2 ∧ frm [2, 14] [(1, 0)] A (fC_wouldGo c A).2 ∧ rngL (fC_wouldGo c A).1) hA (qoks_c (show qok (rf _) from trivial) (qoks_c (show rng c from ⟨by (first | (clear hm hnf; omega) | omega), by (first | (clear hm hnf; omega) | omega)⟩) qoks_n)) ⟨c, rfl, ⟨p0, p1, p2, p3⟩, fun A9 i9 j9 f9 r9 g9 x0 x1 => (by rw [← x1]; (try rw [← x0]); exact ⟨rfl, i9, j9, f9, g9⟩)⟩
  exact ⟨hk.1 ▸ hB, hk.2⟩
def fC_columnsOf_c4 (rec : Nat → List Int → qA → Int) (l1 s k : Int) (A : qA) : Int := (if k < 48 then (if 0 ≤ k ∧ k ≤ 47 ∧ HG A k ∧ 0 ≤ A 6 k ∧ A 6 k ≤ 5 then qlet (A 6 k) fun v6 => (if v6 = l1 then qlet (qd k 6) fun v13 => qlet (sl 1 v13) fun v16 => qlet (io s v16) fun v19 => qlet (k + 1) fun v22 => rec 4 [l1, v19, v22] A else qlet (k + 1) fun v11 => rec 4 [l1, s, v11] A) else qlet (k + 1) fun v25 => rec 4 [l1, s, v25] A) else s)
def fC_columnsOf_L : Nat → Nat → List Int → qA → Int
  | 0 => fun _ _ B => 0
  | nF + 1 => fun k zs B => bif Nat.beq k 4 then (match zs with | [l1, s, k] => fC_columnsOf_c4 (fC_columnsOf_L nF) l1 s k B | _ => 0) else 0
theorem fC_columnsOf_L4 (nF : Nat) (l1 s k : Int) (B : qA) : fC_columnsOf_L (nF + 1) 4 [l1, s, k] B = fC_columnsOf_c4 (fC_columnsOf_L nF) l1 s k B := (congrFun (congrFun (congrFun (fC_columnsOf_L.eq_2 nF) 4) [l1, s, k]) B).trans (qL1 rfl rfl)
def fC_columnsOf (c : Int) (A : qA) : Int := (fC_columnsOf_L 100000) 4 [c, 0, 0] A
def sC_columnsOf : qS := fun as A K => ∃ c : Int, as = [rf 1, ni c] ∧ (iva IC A ∧ ivf JC A) ∧ (∀ r : Int, 0 ≤ r → r ≤ 255 → (r = fC_columnsOf c A) → K (some (ni r)) A)
theorem okC_columnsOf : okM LC 3 35 sC_columnsOf := by
  refine qmeth [] false [(22, sC_hasCrop)] 35 rfl ⟨okC_hasCrop.le (by decide), trivial⟩ ?_
  rintro _ A K hA has ⟨c, rfl, ⟨i0, j0⟩, hK⟩
  have rg_c : rng c := has (ni c) (by simp)
  have f0 := frm_0 [] [] A
  have hT : _ = fC_columnsOf c A := (fC_columnsOf.eq_1 c A).symm
  refine ⟨Nat.le_of_ble_eq_true rfl, [(4, [(0, 2, 1), (1, 0, 0), (2, 0, 0), (3, 0, 0)], fun zs B nn => match zs with | [l1, s, k] => A = B ∧ nn = (48 - k : Int).toNat ∧ (l1 = c) ∧ (0 ≤ k) ∧ (k ≤ 48) ∧ (0 ≤ s) ∧ (s ≤ 255) ∧ (∃ nf : Nat, nn < nf ∧ fC_columnsOf_L nf 4 [l1, s, k] B = fC_columnsOf c A) | _ => False)], ?_, ?_⟩
  · refine ⟨⟨rfl, ?_⟩, trivial⟩
    · refine fun l1 s k B mm hB hz hI => ?_
      obtain ⟨rfl, hm, c0, c1, c2, c3, c4, ⟨nf, hnf, hT⟩⟩ := hI
      obtain ⟨hz_l1, hz_s, hz_k, _⟩ := hz
      obtain ⟨ng, rfl⟩ : ∃ k, nf = k + 1 := ⟨nf - 1, by omega⟩
      replace hT := (fC_columnsOf_c4.eq_1 (fC_columnsOf_L ng) l1 s k A).symm.trans ((fC_columnsOf_L4 ng l1 s k A).symm.trans hT)
      refine And.intro (fun h1 => ?_) (fun h1 => ?_)
      · replace hT := (if_neg (Int.not_lt.mpr h1)).symm.trans hT
        exact hK _ (by (first | (clear hm hnf; omega) | omega)) (by (first | (clear hm hnf; omega) | omega)) hT
      · replace hT := (if_pos h1).symm.trans hT
        refine Exists.intro k (And.intro rfl (And.intro (fun h2 => ?_) (fun h2 => ?_)))
        · replace hT := (if_pos h2).symm.trans hT
          obtain ⟨v3, e4⟩ : ∃ v, v = A 6 k := ⟨_, rfl⟩
          refine And.intro (fun h5 => by exfalso; omega) (fun h5 => ?_)
          refine And.intro (by (first | (clear hm hnf; omega) | omega)) (fun v6 gv6 e7 => ?_)
          replace hT := qlc e7 hT
          have b8 := iva_at i0 2 rfl (i := k) (by (first | (clear hm hnf; omega) | omega)) (by (first | (clear hm hnf; omega) | omega))
          have q9 : v3 = v6 := (e7.trans e4.symm).symm
          subst q9
          refine And.intro (fun h10 => ?_) (fun h10 => ?_)
          · replace hT := (if_neg h10).symm.trans hT
            refine fun v11 e12 => ?_
            replace hT := qlc e12 hT
            exact And.intro (by (first | (clear hm hnf; omega) | omega)) (Exists.intro (48 - v11 : Int).toNat (And.intro (by first | exact qtn hm (by (try clear hm hnf); omega) | omega) (And.intro rfl (And.intro rfl (And.intro (by (first | (clear hm hnf; omega) | omega)) (And.intro (by (first | (clear hm hnf; omega) | omega)) (And.intro (by (first | (clear hm hnf; omega) | omega)) (And.intro (by (first | (clear hm hnf; omega) | omega)) (And.intro (by (first | (clear hm hnf; omega) | omega)) (Exists.intro ng (And.intro (by first | exact qtm hm hnf (by (try clear hm hnf); omega) | omega) hT)))))))))))
          · replace hT := (if_pos h10).symm.trans hT
            refine And.intro (by (first | (clear hm hnf; omega) | omega)) (fun v13 e14 => ?_)
            replace hT := qlc e14 hT
            have h15 := qd_nn (a := k) (b := 6) (by (first | (clear hm hnf; omega) | omega))
            refine fun v16 e17 => ?_
            replace hT := qlc e17 hT
            have h18 := sl_bd (b := v13) 7 (by decide) (by (first | (clear hm hnf; omega) | omega)) (by (first | (clear hm hnf; omega) | omega))
            refine fun v19 e20 => ?_
            replace hT := qlc e20 hT
            have h21 := io_bd (a := s) (b := v16) 8 (by decide) (by (first | (clear hm hnf; omega) | omega)) (by (first | (clear hm hnf; omega) | omega)) (by (first | (clear hm hnf; omega) | omega)) (by (first | (clear hm hnf; omega) | omega))
            refine fun v22 e23 => ?_
            replace hT := qlc e23 hT
            exact And.intro (by (first | (clear hm hnf; omega) | omega)) (Exists.intro (48 - v22 : Int).toNat (And.intro (by first | exact qtn hm (by (try clear hm hnf); omega) | omega) (And.intro rfl (And.intro rfl (And.intro (by (first | (clear hm hnf; omega) | omega)) (And.intro (by (first | (clear hm hnf; omega) | omega)) (And.intro (by (first | (clear hm hnf; omega) | omega)) (And.intro (by (first | (clear hm hnf; omega) | omega)) (And.intro (by (first | (clear hm hnf; omega) | omega)) (Exists.intro ng (And.intro (by first | exact qtm hm hnf (by (try clear hm hnf); omega) | omega) hT)))))))))))
        · replace hT := (if_neg h2).symm.trans hT
          refine And.intro (fun h24 => ?_) (fun h24 => by exfalso; omega)
          refine fun v25 e26 => ?_
          replace hT := qlc e26 hT
          exact And.intro (by (first | (clear hm hnf; omega) | omega)) (Exists.intro (48 - v25 : Int).toNat (And.intro (by first | exact qtn hm (by (try clear hm hnf); omega) | omega) (And.intro rfl (And.intro rfl (And.intro (by (first | (clear hm hnf; omega) | omega)) (And.intro (by (first | (clear hm hnf; omega) | omega)) (And.intro (by (first | (clear hm hnf; omega) | omega)) (And.intro (by (first | (clear hm hnf; omega) | omega)) (And.intro (by (first | (clear hm hnf; omega) | omega)) (Exists.intro ng (And.intro (by first | exact qtm hm hnf (by (try clear hm hnf); omega) | omega) hT)))))))))))
  · exact Exists.intro (48 - 0 : Int).toNat (And.intro rfl (And.intro rfl (And.intro (by (first | (clear hm hnf; omega) | omega)) (And.intro (by (first | (clear hm hnf; omega) | omega)) (And.intro (by (first | (clear hm hnf; omega) | omega)) (And.intro (by (first | (clear hm hnf; omega) | omega)) (And.intro (by (first | (clear hm hnf; omega) | omega)) (Exists.intro 100000 (And.intro (by (first | (clear hm hnf; omega) | omega)) hT)))))))))
theorem pC_columnsOf {c : Int} {A : qA} (hA : qokA LC A) (rg_c : rng c) (p0 : iva IC A) (p1 : ivf JC A) : (0 ≤ (fC_columnsOf c A) ∧ (fC_columnsOf c A) ≤ 255) := by
  obtain ⟨r, B, hB, _, hk⟩ := okM_ex okC_columnsOf (as := [rf 1, ni c]) (K := fun _ B => B = A ∧ (0 ≤ (fC_columnsOf c A) ∧ (fC_columnsOf c A) ≤ 255)) hA (qoks_c (show qok (rf _) from trivial) (qoks_c (rg_c) qoks_n)) ⟨c, rfl, ⟨p0, p1⟩, fun r9 g8 g9 x0 => (by rw [← x0]; exact ⟨rfl, ⟨g8, g9⟩⟩)⟩
  exact hk.2
def fC_highestFall_c2 (rec : Nat → List Int → qA → Int) (l1 l2 l : Int) (A : qA) : Int := (if l < 6 then qlet (l1 * 6) fun v4 => qlet (v4 + l) fun v6 => (if 0 ≤ v6 ∧ v6 ≤ 47 ∧ HG A v6 ∧ 0 ≤ A 6 v6 ∧ A 6 v6 ≤ 5 then qlet (A 6 v6) fun v12 => qlet (sr l2 v12) fun v16 => qlet (ia v16 1) fun v18 => (if v18 = 0 then qlet (l + 1) fun v22 => rec 2 [l1, l2, v22] A else qlet (6 - l) fun v24 => v24) else qlet (l + 1) fun v27 => rec 2 [l1, l2, v27] A) else (-1))
def fC_highestFall_L : Nat → Nat → List Int → qA → Int
  | 0 => fun _ _ B => 0
  | nF + 1 => fun k zs B => bif Nat.beq k 2 then (match zs with | [l1, l2, l] => fC_highestFall_c2 (fC_highestFall_L nF) l1 l2 l B | _ => 0) else 0
theorem fC_highestFall_L2 (nF : Nat) (l1 l2 l : Int) (B : qA) : fC_highestFall_L (nF + 1) 2 [l1, l2, l] B = fC_highestFall_c2 (fC_highestFall_L nF) l1 l2 l B := (congrFun (congrFun (congrFun (fC_highestFall_L.eq_2 nF) 2) [l1, l2, l]) B).trans (qL1 rfl rfl)
def fC_highestFall (c k : Int) (A : qA) : Int := (fC_highestFall_L 100000) 2 [c, k, 0] A
def sC_highestFall : qS := fun as A K => ∃ c k : Int, as = [rf 1, ni c, ni k] ∧ (iva IC A ∧ ivf JC A ∧ 0 ≤ c ∧ c ≤ 7) ∧ (∀ r : Int, (-1) ≤ r → r ≤ 6 → (r = fC_highestFall c k A) → K (some (ni r)) A)
theorem okC_highestFall : okM LC 3 36 sC_highestFall := by
  refine qmeth [] false [(22, sC_hasCrop)] 38 rfl ⟨okC_hasCrop.le (by decide), trivial⟩ ?_
  rintro _ A K hA has ⟨c, k, rfl, ⟨i0, j0, p1, p2⟩, hK⟩
  have rg_c : rng c := has (ni c) (by simp)
  have rg_k : rng k := has (ni k) (by simp)
  have f0 := frm_0 [] [] A
  have hT : _ = fC_highestFall c k A := (fC_highestFall.eq_1 c k A).symm
  refine ⟨Nat.le_of_ble_eq_true rfl, [(2, [(0, 2, 1), (1, 0, 0), (2, 0, 0), (3, 0, 0)], fun zs B nn => match zs with | [l1, l2, l] => A = B ∧ nn = (6 - l : Int).toNat ∧ (l1 = c) ∧ (l2 = k) ∧ (0 ≤ l) ∧ (l ≤ 6) ∧ (∃ nf : Nat, nn < nf ∧ fC_highestFall_L nf 2 [l1, l2, l] B = fC_highestFall c k A) | _ => False)], ?_, ?_⟩
  · refine ⟨⟨rfl, ?_⟩, trivial⟩
    · refine fun l1 l2 l B mm hB hz hI => ?_
      obtain ⟨rfl, hm, c0, c1, c2, c3, ⟨nf, hnf, hT⟩⟩ := hI
      obtain ⟨hz_l1, hz_l2, hz_l, _⟩ := hz
      obtain ⟨ng, rfl⟩ : ∃ k, nf = k + 1 := ⟨nf - 1, by omega⟩
      replace hT := (fC_highestFall_c2.eq_1 (fC_highestFall_L ng) l1 l2 l A).symm.trans ((fC_highestFall_L2 ng l1 l2 l A).symm.trans hT)
      refine And.intro (fun h3 => ?_) (fun h3 => ?_)
      · replace hT := (if_neg (Int.not_lt.mpr h3)).symm.trans hT
        exact hK _ (by (first | (clear hm hnf; omega) | omega)) (by (first | (clear hm hnf; omega) | omega)) hT
      · replace hT := (if_pos h3).symm.trans hT
        refine fun v4 e5 => ?_
        replace hT := qlc e5 hT
        refine fun v6 e7 => ?_
        replace hT := qlc e7 hT
        refine And.intro (by (first | (clear hm hnf; omega) | omega)) (Exists.intro v6 (And.intro rfl (And.intro (fun h8 => ?_) (fun h8 => ?_))))
        · replace hT := (if_pos h8).symm.trans hT
          obtain ⟨v9, e10⟩ : ∃ v, v = A 6 v6 := ⟨_, rfl⟩
          refine And.intro (fun h11 => by exfalso; omega) (fun h11 => ?_)
          refine And.intro (by (first | (clear hm hnf; omega) | omega)) (fun v12 gv12 e13 => ?_)
          replace hT := qlc e13 hT
          have b14 := iva_at i0 2 rfl (i := v6) (by (first | (clear hm hnf; omega) | omega)) (by (first | (clear hm hnf; omega) | omega))
          have q15 : v9 = v12 := (e13.trans e10.symm).symm
          subst q15
          refine fun v16 e17 => ?_
          replace hT := qlc e17 hT
          refine fun v18 e19 => ?_
          replace hT := qlc e19 hT
          have h20 := ia_bd (a := v16) (b := 1) (by (first | (clear hm hnf; omega) | omega)) (by (first | (clear hm hnf; omega) | omega))
          refine And.intro (fun h21 => ?_) (fun h21 => ?_)
          · replace hT := (if_pos h21).symm.trans hT
            refine fun v22 e23 => ?_
            replace hT := qlc e23 hT
            exact And.intro (by (first | (clear hm hnf; omega) | omega)) (Exists.intro (6 - v22 : Int).toNat (And.intro (by first | exact qtn hm (by (try clear hm hnf); omega) | omega) (And.intro rfl (And.intro rfl (And.intro (by (first | (clear hm hnf; omega) | omega)) (And.intro (by (first | (clear hm hnf; omega) | omega)) (And.intro (by (first | (clear hm hnf; omega) | omega)) (And.intro (by (first | (clear hm hnf; omega) | omega)) (Exists.intro ng (And.intro (by first | exact qtm hm hnf (by (try clear hm hnf); omega) | omega) hT))))))))))
          · replace hT := (if_neg h21).symm.trans hT
            refine fun v24 e25 => ?_
            replace hT := qlc e25 hT
            exact And.intro (by (first | (clear hm hnf; omega) | omega)) (hK _ (by (first | (clear hm hnf; omega) | omega)) (by (first | (clear hm hnf; omega) | omega)) hT)
        · replace hT := (if_neg h8).symm.trans hT
          refine And.intro (fun h26 => ?_) (fun h26 => by exfalso; omega)
          refine fun v27 e28 => ?_
          replace hT := qlc e28 hT
          exact And.intro (by (first | (clear hm hnf; omega) | omega)) (Exists.intro (6 - v27 : Int).toNat (And.intro (by first | exact qtn hm (by (try clear hm hnf); omega) | omega) (And.intro rfl (And.intro rfl (And.intro (by (first | (clear hm hnf; omega) | omega)) (And.intro (by (first | (clear hm hnf; omega) | omega)) (And.intro (by (first | (clear hm hnf; omega) | omega)) (And.intro (by (first | (clear hm hnf; omega) | omega)) (Exists.intro ng (And.intro (by first | exact qtm hm hnf (by (try clear hm hnf); omega) | omega) hT))))))))))
  · exact Exists.intro (6 - 0 : Int).toNat (And.intro rfl (And.intro rfl (And.intro (by (first | (clear hm hnf; omega) | omega)) (And.intro (by (first | (clear hm hnf; omega) | omega)) (And.intro (by (first | (clear hm hnf; omega) | omega)) (And.intro (by (first | (clear hm hnf; omega) | omega)) (Exists.intro 100000 (And.intro (by (first | (clear hm hnf; omega) | omega)) hT))))))))
theorem pC_highestFall {c k : Int} {A : qA} (hA : qokA LC A) (rg_k : rng k) (p0 : iva IC A) (p1 : ivf JC A) (p2 : 0 ≤ c) (p3 : c ≤ 7) : ((-1) ≤ (fC_highestFall c k A) ∧ (fC_highestFall c k A) ≤ 6) := by
  obtain ⟨r, B, hB, _, hk⟩ := okM_ex okC_highestFall (as := [rf 1, ni c, ni k]) (K := fun _ B => B = A ∧ ((-1) ≤ (fC_highestFall c k A) ∧ (fC_highestFall c k A) ≤ 6)) hA (qoks_c (show qok (rf _) from trivial) (qoks_c (show rng c from ⟨by (first | (clear hm hnf; omega) | omega), by (first | (clear hm hnf; omega) | omega)⟩) (qoks_c (rg_k) qoks_n))) ⟨c, k, rfl, ⟨p0, p1, p2, p3⟩, fun r9 g8 g9 x0 => (by rw [← x0]; exact ⟨rfl, ⟨g8, g9⟩⟩)⟩
  exact hk.2
def fC_netFact (c w : Int) (A : qA) : Int := (if w = 1 then qlet (A 2 c) fun v4 => v4 else (if w = 2 then qlet (A 3 c) fun v7 => v7 else (if w = 3 then qlet (A 4 c) fun v9 => v9 else (if w = 4 then qlet (A 5 c) fun v11 => v11 else (if w = 5 then qlet (A 6 c) fun v14 => v14 else (if w = 6 then qlet (A 7 c) fun v17 => v17 else (if w = 7 then qlet (A 8 c) fun v20 => v20 else (if w = 8 then qlet (A 9 c) fun v22 => v22 else (if w = 9 then qlet (A 10 c) fun v25 => (if v25 = 0 then 0 else 1) else (if w = 10 then qlet (fC_loadOf c A) fun r29 => r29 else (-1000)))))))))))
def sC_netFact : qS := fun as A K => ∃ c w : Int, as = [rf 1, ni c, ni w] ∧ (iva IC A ∧ ivf JC A ∧ 0 ≤ c ∧ c ≤ 47) ∧ (∀ r : Int, rng r → (r = fC_netFact c w A) → K (some (ni r)) A)
theorem okC_netFact : okM LC 3 28 sC_netFact := by
  refine qmeth [] false [(29, sC_loadOf)] 63 rfl ⟨okC_loadOf.le (by decide), trivial⟩ ?_
  rintro _ A K hA has ⟨c, w, rfl, ⟨i0, j0, p1, p2⟩, hK⟩
  have rg_c : rng c := has (ni c) (by simp)
  have rg_w : rng w := has (ni w) (by simp)
  have f0 := frm_0 [] [] A
  have hT : _ = fC_netFact c w A := (fC_netFact.eq_1 c w A).symm
  refine ⟨Nat.le_of_ble_eq_true rfl, [], trivial, ?_⟩
  refine (And.intro (fun h3 => ?_) (And.intro (fun h3 => ?_) (And.intro (fun h3 => ?_) (And.intro (fun h3 => ?_) (And.intro (fun h3 => ?_) (And.intro (fun h3 => ?_) (And.intro (fun h3 => ?_) (And.intro (fun h3 => ?_) (And.intro (fun h3 => ?_) (And.intro (fun h3 => ?_) (And.intro (fun h3 => ?_) trivial)))))))))))
  · replace hT := (if_neg (show ¬ (w = 1) by (first | (clear hm hnf; omega) | omega))).symm.trans hT
    replace hT := (if_neg (show ¬ (w = 2) by (first | (clear hm hnf; omega) | omega))).symm.trans hT
    replace hT := (if_neg (show ¬ (w = 3) by (first | (clear hm hnf; omega) | omega))).symm.trans hT
    replace hT := (if_neg (show ¬ (w = 4) by (first | (clear hm hnf; omega) | omega))).symm.trans hT
    replace hT := (if_neg (show ¬ (w = 5) by (first | (clear hm hnf; omega) | omega))).symm.trans hT
    replace hT := (if_neg (show ¬ (w = 6) by (first | (clear hm hnf; omega) | omega))).symm.trans hT
    replace hT := (if_neg (show ¬ (w = 7) by (first | (clear hm hnf; omega) | omega))).symm.trans hT
    replace hT := (if_neg (show ¬ (w = 8) by (first | (clear hm hnf; omega) | omega))).symm.trans hT
    replace hT := (if_neg (show ¬ (w = 9) by (first | (clear hm hnf; omega) | omega))).symm.trans hT
    replace hT := (if_neg (show ¬ (w = 10) by (first | (clear hm hnf; omega) | omega))).symm.trans hT
    exact hK _ (by first | assumption | exact wI_rng _ | exact ⟨by (first | (clear hm hnf; omega) | omega), by (first | (clear hm hnf; omega) | omega)⟩ | exact i_rng _ | (subst_vars; exact i_rng _) | exact (hA _ _).2 rfl) hT
  · replace hT := (if_pos (show w = 1 by (first | (clear hm hnf; omega) | omega))).symm.trans hT
    refine And.intro (by (first | (clear hm hnf; omega) | omega)) (fun v4 gv4 e5 => ?_)
    replace hT := qlc e5 hT
    have b6 := iva_at i0 0 rfl (i := c) (by (first | (clear hm hnf; omega) | omega)) (by (first | (clear hm hnf; omega) | omega))
    exact hK _ (by first | assumption | exact wI_rng _ | exact ⟨by (first | (clear hm hnf; omega) | omega), by (first | (clear hm hnf; omega) | omega)⟩ | exact i_rng _ | (subst_vars; exact i_rng _) | exact (hA _ _).2 rfl) hT
  · replace hT := (if_neg (show ¬ (w = 1) by (first | (clear hm hnf; omega) | omega))).symm.trans hT
    replace hT := (if_pos (show w = 2 by (first | (clear hm hnf; omega) | omega))).symm.trans hT
    refine And.intro (by (first | (clear hm hnf; omega) | omega)) (fun v7 gv7 e8 => ?_)
    replace hT := qlc e8 hT
    exact hK _ (by first | assumption | exact wI_rng _ | exact ⟨by (first | (clear hm hnf; omega) | omega), by (first | (clear hm hnf; omega) | omega)⟩ | exact i_rng _ | (subst_vars; exact i_rng _) | exact (hA _ _).2 rfl) hT
  · replace hT := (if_neg (show ¬ (w = 1) by (first | (clear hm hnf; omega) | omega))).symm.trans hT
    replace hT := (if_neg (show ¬ (w = 2) by (first | (clear hm hnf; omega) | omega))).symm.trans hT
    replace hT := (if_pos (show w = 3 by (first | (clear hm hnf; omega) | omega))).symm.trans hT
    refine And.intro (by (first | (clear hm hnf; omega) | omega)) (fun v9 gv9 e10 => ?_)
    replace hT := qlc e10 hT
    exact hK _ (by first | assumption | exact wI_rng _ | exact ⟨by (first | (clear hm hnf; omega) | omega), by (first | (clear hm hnf; omega) | omega)⟩ | exact i_rng _ | (subst_vars; exact i_rng _) | exact (hA _ _).2 rfl) hT
  · replace hT := (if_neg (show ¬ (w = 1) by (first | (clear hm hnf; omega) | omega))).symm.trans hT
    replace hT := (if_neg (show ¬ (w = 2) by (first | (clear hm hnf; omega) | omega))).symm.trans hT
    replace hT := (if_neg (show ¬ (w = 3) by (first | (clear hm hnf; omega) | omega))).symm.trans hT
    replace hT := (if_pos (show w = 4 by (first | (clear hm hnf; omega) | omega))).symm.trans hT
    refine And.intro (by (first | (clear hm hnf; omega) | omega)) (fun v11 gv11 e12 => ?_)
    replace hT := qlc e12 hT
    have b13 := iva_at i0 1 rfl (i := c) (by (first | (clear hm hnf; omega) | omega)) (by (first | (clear hm hnf; omega) | omega))
    exact hK _ (by first | assumption | exact wI_rng _ | exact ⟨by (first | (clear hm hnf; omega) | omega), by (first | (clear hm hnf; omega) | omega)⟩ | exact i_rng _ | (subst_vars; exact i_rng _) | exact (hA _ _).2 rfl) hT
  · replace hT := (if_neg (show ¬ (w = 1) by (first | (clear hm hnf; omega) | omega))).symm.trans hT
    replace hT := (if_neg (show ¬ (w = 2) by (first | (clear hm hnf; omega) | omega))).symm.trans hT
    replace hT := (if_neg (show ¬ (w = 3) by (first | (clear hm hnf; omega) | omega))).symm.trans hT
    replace hT := (if_neg (show ¬ (w = 4) by (first | (clear hm hnf; omega) | omega))).symm.trans hT
    replace hT := (if_pos (show w = 5 by (first | (clear hm hnf; omega) | omega))).symm.trans hT
    refine And.intro (by (first | (clear hm hnf; omega) | omega)) (fun v14 gv14 e15 => ?_)
    replace hT := qlc e15 hT
    have b16 := iva_at i0 2 rfl (i := c) (by (first | (clear hm hnf; omega) | omega)) (by (first | (clear hm hnf; omega) | omega))
    exact hK _ (by first | assumption | exact wI_rng _ | exact ⟨by (first | (clear hm hnf; omega) | omega), by (first | (clear hm hnf; omega) | omega)⟩ | exact i_rng _ | (subst_vars; exact i_rng _) | exact (hA _ _).2 rfl) hT
  · replace hT := (if_neg (show ¬ (w = 1) by (first | (clear hm hnf; omega) | omega))).symm.trans hT
    replace hT := (if_neg (show ¬ (w = 2) by (first | (clear hm hnf; omega) | omega))).symm.trans hT
    replace hT := (if_neg (show ¬ (w = 3) by (first | (clear hm hnf; omega) | omega))).symm.trans hT
    replace hT := (if_neg (show ¬ (w = 4) by (first | (clear hm hnf; omega) | omega))).symm.trans hT
    replace hT := (if_neg (show ¬ (w = 5) by (first | (clear hm hnf; omega) | omega))).symm.trans hT
    replace hT := (if_pos (show w = 6 by (first | (clear hm hnf; omega) | omega))).symm.trans hT
    refine And.intro (by (first | (clear hm hnf; omega) | omega)) (fun v17 gv17 e18 => ?_)
    replace hT := qlc e18 hT
    have b19 := iva_at i0 3 rfl (i := c) (by (first | (clear hm hnf; omega) | omega)) (by (first | (clear hm hnf; omega) | omega))
    exact hK _ (by first | assumption | exact wI_rng _ | exact ⟨by (first | (clear hm hnf; omega) | omega), by (first | (clear hm hnf; omega) | omega)⟩ | exact i_rng _ | (subst_vars; exact i_rng _) | exact (hA _ _).2 rfl) hT
  · replace hT := (if_neg (show ¬ (w = 1) by (first | (clear hm hnf; omega) | omega))).symm.trans hT
    replace hT := (if_neg (show ¬ (w = 2) by (first | (clear hm hnf; omega) | omega))).symm.trans hT
    replace hT := (if_neg (show ¬ (w = 3) by (first | (clear hm hnf; omega) | omega))).symm.trans hT
    replace hT := (if_neg (show ¬ (w = 4) by (first | (clear hm hnf; omega) | omega))).symm.trans hT
    replace hT := (if_neg (show ¬ (w = 5) by (first | (clear hm hnf; omega) | omega))).symm.trans hT
    replace hT := (if_neg (show ¬ (w = 6) by (first | (clear hm hnf; omega) | omega))).symm.trans hT
    replace hT := (if_pos (show w = 7 by (first | (clear hm hnf; omega) | omega))).symm.trans hT
    refine And.intro (by (first | (clear hm hnf; omega) | omega)) (fun v20 gv20 e21 => ?_)
    replace hT := qlc e21 hT
    exact hK _ (by first | assumption | exact wI_rng _ | exact ⟨by (first | (clear hm hnf; omega) | omega), by (first | (clear hm hnf; omega) | omega)⟩ | exact i_rng _ | (subst_vars; exact i_rng _) | exact (hA _ _).2 rfl) hT
  · replace hT := (if_neg (show ¬ (w = 1) by (first | (clear hm hnf; omega) | omega))).symm.trans hT
    replace hT := (if_neg (show ¬ (w = 2) by (first | (clear hm hnf; omega) | omega))).symm.trans hT
    replace hT := (if_neg (show ¬ (w = 3) by (first | (clear hm hnf; omega) | omega))).symm.trans hT
    replace hT := (if_neg (show ¬ (w = 4) by (first | (clear hm hnf; omega) | omega))).symm.trans hT
    replace hT := (if_neg (show ¬ (w = 5) by (first | (clear hm hnf; omega) | omega))).symm.trans hT
    replace hT := (if_neg (show ¬ (w = 6) by (first | (clear hm hnf; omega) | omega))).symm.trans hT
    replace hT := (if_neg (show ¬ (w = 7) by (first | (clear hm hnf; omega) | omega))).symm.trans hT
    replace hT := (if_pos (show w = 8 by (first | (clear hm hnf; omega) | omega))).symm.trans hT
    refine And.intro (by (first | (clear hm hnf; omega) | omega)) (fun v22 gv22 e23 => ?_)
    replace hT := qlc e23 hT
    have b24 := iva_at i0 4 rfl (i := c) (by (first | (clear hm hnf; omega) | omega)) (by (first | (clear hm hnf; omega) | omega))
    exact hK _ (by first | assumption | exact wI_rng _ | exact ⟨by (first | (clear hm hnf; omega) | omega), by (first | (clear hm hnf; omega) | omega)⟩ | exact i_rng _ | (subst_vars; exact i_rng _) | exact (hA _ _).2 rfl) hT
  · replace hT := (if_neg (show ¬ (w = 1) by (first | (clear hm hnf; omega) | omega))).symm.trans hT
    replace hT := (if_neg (show ¬ (w = 2) by (first | (clear hm hnf; omega) | omega))).symm.trans hT
    replace hT := (if_neg (show ¬ (w = 3) by (first | (clear hm hnf; omega) | omega))).symm.trans hT
    replace hT := (if_neg (show ¬ (w = 4) by (first | (clear hm hnf; omega) | omega))).symm.trans hT
    replace hT := (if_neg (show ¬ (w = 5) by (first | (clear hm hnf; omega) | omega))).symm.trans hT
    replace hT := (if_neg (show ¬ (w = 6) by (first | (clear hm hnf; omega) | omega))).symm.trans hT
    replace hT := (if_neg (show ¬ (w = 7) by (first | (clear hm hnf; omega) | omega))).symm.trans hT
    replace hT := (if_neg (show ¬ (w = 8) by (first | (clear hm hnf; omega) | omega))).symm.trans hT
    replace hT := (if_pos (show w = 9 by (first | (clear hm hnf; omega) | omega))).symm.trans hT
    refine And.intro (by (first | (clear hm hnf; omega) | omega)) (fun v25 gv25 e26 => ?_)
    replace hT := qlc e26 hT
    have b27 := iva_at i0 5 rfl (i := c) (by (first | (clear hm hnf; omega) | omega)) (by (first | (clear hm hnf; omega) | omega))
    refine And.intro (fun h28 => ?_) (fun h28 => ?_)
    · replace hT := (if_pos h28).symm.trans hT
      exact hK _ (by first | assumption | exact wI_rng _ | exact ⟨by (first | (clear hm hnf; omega) | omega), by (first | (clear hm hnf; omega) | omega)⟩ | exact i_rng _ | (subst_vars; exact i_rng _) | exact (hA _ _).2 rfl) hT
    · replace hT := (if_neg h28).symm.trans hT
      exact hK _ (by first | assumption | exact wI_rng _ | exact ⟨by (first | (clear hm hnf; omega) | omega), by (first | (clear hm hnf; omega) | omega)⟩ | exact i_rng _ | (subst_vars; exact i_rng _) | exact (hA _ _).2 rfl) hT
  · replace hT := (if_neg (show ¬ (w = 1) by (first | (clear hm hnf; omega) | omega))).symm.trans hT
    replace hT := (if_neg (show ¬ (w = 2) by (first | (clear hm hnf; omega) | omega))).symm.trans hT
    replace hT := (if_neg (show ¬ (w = 3) by (first | (clear hm hnf; omega) | omega))).symm.trans hT
    replace hT := (if_neg (show ¬ (w = 4) by (first | (clear hm hnf; omega) | omega))).symm.trans hT
    replace hT := (if_neg (show ¬ (w = 5) by (first | (clear hm hnf; omega) | omega))).symm.trans hT
    replace hT := (if_neg (show ¬ (w = 6) by (first | (clear hm hnf; omega) | omega))).symm.trans hT
    replace hT := (if_neg (show ¬ (w = 7) by (first | (clear hm hnf; omega) | omega))).symm.trans hT
    replace hT := (if_neg (show ¬ (w = 8) by (first | (clear hm hnf; omega) | omega))).symm.trans hT
    replace hT := (if_neg (show ¬ (w = 9) by (first | (clear hm hnf; omega) | omega))).symm.trans hT
    replace hT := (if_pos (show w = 10 by (first | (clear hm hnf; omega) | omega))).symm.trans hT
    refine Exists.intro c (And.intro rfl (And.intro (And.intro i0 (And.intro j0 (And.intro (by (first | (clear hm hnf; omega) | omega)) (by (first | (clear hm hnf; omega) | omega))))) (fun r29 g31 g30 => ?_)))
    replace hT := qlc g30 hT
    clear g30
    exact hK _ (by first | assumption | exact wI_rng _ | exact ⟨by (first | (clear hm hnf; omega) | omega), by (first | (clear hm hnf; omega) | omega)⟩ | exact i_rng _ | (subst_vars; exact i_rng _) | exact (hA _ _).2 rfl) hT
theorem pC_netFact {c w : Int} {A : qA} (hA : qokA LC A) (rg_w : rng w) (p0 : iva IC A) (p1 : ivf JC A) (p2 : 0 ≤ c) (p3 : c ≤ 47) : rng (fC_netFact c w A) := by
  obtain ⟨r, B, hB, _, hk⟩ := okM_ex okC_netFact (as := [rf 1, ni c, ni w]) (K := fun _ B => B = A ∧ rng (fC_netFact c w A)) hA (qoks_c (show qok (rf _) from trivial) (qoks_c (show rng c from ⟨by (first | (clear hm hnf; omega) | omega), by (first | (clear hm hnf; omega) | omega)⟩) (qoks_c (rg_w) qoks_n))) ⟨c, w, rfl, ⟨p0, p1, p2, p3⟩, fun r9 g9 x0 => (by rw [← x0]; exact ⟨rfl, g9⟩)⟩
  exact hk.2
