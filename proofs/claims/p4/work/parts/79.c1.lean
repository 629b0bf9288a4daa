def IC : List (Nat × Int × Int × Int) := [(2, 48, 0, 2147483647), (5, 48, 0, 3), (6, 48, (-1), 5), (7, 48, 0, 200), (9, 48, 0, 20), (10, 48, 0, 1), (28, 61, 0, 1), (29, 61, 0, 1), (11, 6, 0, 20), (12, 6, 1, 200), (13, 6, 0, 99), (14, 48, 0, 2147483647), (16, 8, 0, 99), (17, 8, 0, 7), (18, 8, 0, 9999), (21, 8, 0, 999), (22, 8, 0, 99), (25, 61, 0, 47), (26, 61, (-1), 5), (27, 61, 0, 200), (30, 61, 0, 6), (31, 61, (-1), 7), (47, 4, 0, 7), (48, 4, 0, 99), (49, 8, 0, 99), (50, 48, 0, 20), (53, 220, 0, 255), (56, 8, 0, 47), (58, 8, 0, 99), (59, 8, 0, 6), (62, 8, 0, 47), (65, 5, 0, 47), (66, 5, (-1), 5), (67, 5, (-1), 5), (38, 200, 0, 99999), (73, 200, 0, 99999), (40, 14, 0, 200), (41, 14, 0, 200), (42, 14, 0, 200), (75, 14, 0, 200), (76, 14, 0, 200), (77, 14, 0, 200)]
def JC : List (Nat × Nat × Int × Int) := [(54, 2, 0, 200), (54, 3, 0, 200), (24, 9, 0, 60), (52, 1, 0, 220), (44, 9, 0, 4), (55, 7, 0, 8), (63, 6, 0, 5), (0, 11, 0, 65535), (36, 7, 0, 14), (36, 8, 0, 200), (36, 9, 0, 40), (71, 7, 0, 14), (71, 8, 0, 200), (71, 9, 0, 40)]
/-- whether a cell hangs -/
def hb (A : qA) (c : Int) : Int := jc (ja (jsu (A 1 (fd 0)) c) 1) 0
abbrev HG (A : qA) (c : Int) : Prop := hb A c ≠ 0
def sC_within : qS := fun as A K => ∃ n m : Int, as = [ni n, ni m] ∧ ((0 ≤ n ∧ n ≤ m → K (some (ni 1)) A) ∧ (¬ (0 ≤ n ∧ n ≤ m) → K (some (ni 0)) A))
theorem okC_within : okM LC 1 138 sC_within := by
  refine qmeth [] false [] 15 rfl trivial ?_
  rintro _ A K hA has ⟨n, m, rfl, hK⟩
  have rg_n : rng n := has (ni n) (by simp)
  have rg_m : rng m := has (ni m) (by simp)
  refine ⟨Nat.le_of_ble_eq_true rfl, [], trivial, ?_⟩
  refine And.intro (fun h1 => ?_) (fun h1 => ?_)
  · exact And.intro (by omega) (hK.2 (by first | omega | (subst_vars; omega) | (simp_all; done) | (simp_all; omega)))
  · refine And.intro (fun h2 => ?_) (fun h2 => ?_)
    · exact And.intro (by omega) (hK.2 (by first | omega | (subst_vars; omega) | (simp_all; done) | (simp_all; omega)))
    · exact And.intro (by omega) (hK.1 (by first | omega | (subst_vars; omega) | (simp_all; done) | (simp_all; omega)))
def sC_isColumn : qS := fun as A K => ∃ n : Int, as = [ni n] ∧ ((0 ≤ n ∧ n ≤ 7 → K (some (ni 1)) A) ∧ (¬ (0 ≤ n ∧ n ≤ 7) → K (some (ni 0)) A))
theorem okC_isColumn : okM LC 2 139 sC_isColumn := by
  refine qmeth [] false [(138, sC_within)] 10 rfl ⟨okC_within.le (by decide), trivial⟩ ?_
  rintro _ A K hA has ⟨n, rfl, hK⟩
  have rg_n : rng n := has (ni n) (by simp)
  refine ⟨Nat.le_of_ble_eq_true rfl, [], trivial, ?_⟩
  refine Exists.intro n (Exists.intro 7 (And.intro rfl (And.intro (fun h1 => ?_) (fun h1 => ?_))))
  · exact And.intro (by omega) (hK.1 (by first | omega | (subst_vars; omega) | (simp_all; done) | (simp_all; omega)))
  · exact And.intro (by omega) (hK.2 (by first | omega | (subst_vars; omega) | (simp_all; done) | (simp_all; omega)))
def sC_isPerson : qS := fun as A K => ∃ n : Int, as = [ni n] ∧ ((0 ≤ n ∧ n ≤ 7 → K (some (ni 1)) A) ∧ (¬ (0 ≤ n ∧ n ≤ 7) → K (some (ni 0)) A))
theorem okC_isPerson : okM LC 2 140 sC_isPerson := by
  refine qmeth [] false [(138, sC_within)] 10 rfl ⟨okC_within.le (by decide), trivial⟩ ?_
  rintro _ A K hA has ⟨n, rfl, hK⟩
  have rg_n : rng n := has (ni n) (by simp)
  refine ⟨Nat.le_of_ble_eq_true rfl, [], trivial, ?_⟩
  refine Exists.intro n (Exists.intro 7 (And.intro rfl (And.intro (fun h1 => ?_) (fun h1 => ?_))))
  · exact And.intro (by omega) (hK.1 (by first | omega | (subst_vars; omega) | (simp_all; done) | (simp_all; omega)))
  · exact And.intro (by omega) (hK.2 (by first | omega | (subst_vars; omega) | (simp_all; done) | (simp_all; omega)))
def sC_isCell : qS := fun as A K => ∃ n l : Int, as = [ni n, ni l] ∧ (((0 ≤ n ∧ n ≤ 7) ∧ (0 ≤ l ∧ l ≤ 5) → K (some (ni 1)) A) ∧ (¬ ((0 ≤ n ∧ n ≤ 7) ∧ (0 ≤ l ∧ l ≤ 5)) → K (some (ni 0)) A))
theorem okC_isCell : okM LC 3 141 sC_isCell := by
  refine qmeth [] false [(139, sC_isColumn), (138, sC_within)] 17 rfl ⟨okC_isColumn.le (by decide), ⟨okC_within.le (by decide), trivial⟩⟩ ?_
  rintro _ A K hA has ⟨n, l, rfl, hK⟩
  have rg_n : rng n := has (ni n) (by simp)
  have rg_l : rng l := has (ni l) (by simp)
  refine ⟨Nat.le_of_ble_eq_true rfl, [], trivial, ?_⟩
  refine Exists.intro n (And.intro rfl (And.intro (fun h1 => ?_) (fun h1 => ?_)))
  · refine And.intro (fun h2 => by exfalso; omega) (fun h2 => ?_)
    refine Exists.intro l (Exists.intro 5 (And.intro rfl (And.intro (fun h3 => ?_) (fun h3 => ?_))))
    · refine And.intro (fun h4 => by exfalso; omega) (fun h4 => ?_)
      exact And.intro (by omega) (hK.1 (by first | omega | (subst_vars; omega) | (simp_all; done) | (simp_all; omega)))
    · refine And.intro (fun h5 => ?_) (fun h5 => by exfalso; omega)
      exact And.intro (by omega) (hK.2 (by first | omega | (subst_vars; omega) | (simp_all; done) | (simp_all; omega)))
  · refine And.intro (fun h6 => ?_) (fun h6 => by exfalso; omega)
    exact And.intro (by omega) (hK.2 (by first | omega | (subst_vars; omega) | (simp_all; done) | (simp_all; omega)))
def sC_endOfColumn : qS := fun as A K => ∃ c : Int, as = [ni c] ∧ (0 ≤ c ∧ c ≤ 47) ∧ (K (some (ni (c - c % 6 + 6))) A)
theorem okC_endOfColumn : okM LC 1 20 sC_endOfColumn := by
  refine qmeth [] false [] 14 rfl trivial ?_
  rintro _ A K hA has ⟨c, rfl, ⟨p1, p2⟩, hK⟩
  have rg_c : rng c := has (ni c) (by simp)
  refine ⟨Nat.le_of_ble_eq_true rfl, [], trivial, ?_⟩
  refine And.intro (by omega) (fun v3 e4 => ?_)
  have h5 := qm_nn (a := c) (b := 6) (by omega)
  refine fun v6 e7 => ?_
  refine fun v8 e9 => ?_
  refine And.intro (by omega) (?_)
  have hq : v8 = c - c % 6 + 6 := by first | rfl | omega | simp_all
  rw [hq]
  exact hK
def sC_hangs : qS := fun as A K => ∃ c : Int, as = [rf 1, ni c] ∧ ((0 ≤ c ∧ c ≤ 47 ∧ HG A c → K (some (ni 1)) A) ∧ (¬ (0 ≤ c ∧ c ≤ 47 ∧ HG A c) → K (some (ni 0)) A))
theorem okC_hangs : okM LC 1 21 sC_hangs := by
  refine qmeth [] false [] 24 rfl trivial ?_
  rintro _ A K hA has ⟨c, rfl, hK⟩
  have rg_c : rng c := has (ni c) (by simp)
  refine ⟨Nat.le_of_ble_eq_true rfl, [], trivial, ?_⟩
  refine And.intro (fun h1 => ?_) (fun h1 => ?_)
  · exact And.intro (by omega) (hK.2 (by first | omega | (subst_vars; simp only [HG, hb]; omega)))
  · refine And.intro (fun h2 => ?_) (fun h2 => ?_)
    · exact And.intro (by omega) (hK.2 (by first | omega | (subst_vars; simp only [HG, hb]; omega)))
    · refine fun v3 e4 => ?_
      refine fun v5 e6 => ?_
      refine fun (v7 : Int) (e8 : v7 = 1) => ?_
      refine fun v9 e10 => ?_
      refine fun (v11 : Int) (e12 : v11 = 0) => ?_
      refine fun v13 e14 => ?_
      refine And.intro (fun h15 => ?_) (fun h15 => ?_)
      · exact And.intro (by omega) (hK.2 (by first | omega | (subst_vars; simp only [HG, hb]; omega)))
      · exact And.intro (by omega) (hK.1 (by first | omega | (subst_vars; simp only [HG, hb]; omega)))
def sC_hasCrop : qS := fun as A K => ∃ c : Int, as = [rf 1, ni c] ∧ ((0 ≤ c ∧ c ≤ 47 ∧ HG A c ∧ 0 ≤ A 6 c ∧ A 6 c ≤ 5 → K (some (ni 1)) A) ∧ (¬ (0 ≤ c ∧ c ≤ 47 ∧ HG A c ∧ 0 ≤ A 6 c ∧ A 6 c ≤ 5) → K (some (ni 0)) A))
theorem okC_hasCrop : okM LC 2 22 sC_hasCrop := by
  refine qmeth [] false [(21, sC_hangs), (138, sC_within)] 21 rfl ⟨okC_hangs.le (by decide), ⟨okC_within.le (by decide), trivial⟩⟩ ?_
  rintro _ A K hA has ⟨c, rfl, hK⟩
  have rg_c : rng c := has (ni c) (by simp)
  refine ⟨Nat.le_of_ble_eq_true rfl, [], trivial, ?_⟩
  refine Exists.intro c (And.intro rfl (And.intro (fun h1 => ?_) (fun h1 => ?_)))
  · refine And.intro (fun h2 => by exfalso; omega) (fun h2 => ?_)
    refine And.intro (by omega) (fun v3 gv3 e4 => ?_)
    refine Exists.intro v3 (Exists.intro 5 (And.intro rfl (And.intro (fun h5 => ?_) (fun h5 => ?_))))
    · refine And.intro (fun h6 => by exfalso; omega) (fun h6 => ?_)
      exact And.intro (by omega) (hK.1 (by first | omega | (subst_vars; omega) | (simp_all; done) | (simp_all; omega)))
    · refine And.intro (fun h7 => ?_) (fun h7 => by exfalso; omega)
      exact And.intro (by omega) (hK.2 (by first | omega | (subst_vars; omega) | (simp_all; done) | (simp_all; omega)))
  · refine And.intro (fun h8 => ?_) (fun h8 => by exfalso; omega)
    exact And.intro (by omega) (hK.2 (by first | omega | (subst_vars; omega) | (simp_all; done) | (simp_all; omega)))
def sC_isRipe : qS := fun as A K => ∃ c : Int, as = [rf 1, ni c] ∧ (iva IC A ∧ ivf JC A) ∧ (∀ r : Int, 0 ≤ r → r ≤ 1 → K (some (ni r)) A)
theorem okC_isRipe : okM LC 3 23 sC_isRipe := by
  refine qmeth [] false [(22, sC_hasCrop)] 26 rfl ⟨okC_hasCrop.le (by decide), trivial⟩ ?_
  rintro _ A K hA has ⟨c, rfl, ⟨i0, j0⟩, hK⟩
  have rg_c : rng c := has (ni c) (by simp)
  have f0 := frm_0 [] [] A
  refine ⟨Nat.le_of_ble_eq_true rfl, [], trivial, ?_⟩
  refine Exists.intro c (And.intro rfl (And.intro (fun h1 => ?_) (fun h1 => ?_)))
  · obtain ⟨v2, e3⟩ : ∃ v, v = A 6 c := ⟨_, rfl⟩
    refine And.intro (fun h4 => by exfalso; omega) (fun h4 => ?_)
    refine And.intro (by omega) (fun v5 gv5 e6 => ?_)
    have b7 := iva_at i0 3 rfl (i := c) (by omega) (by omega)
    refine And.intro (by omega) (fun v8 gv8 e9 => ?_)
    have b10 := iva_at i0 2 rfl (i := c) (by omega) (by omega)
    have q11 : v2 = v8 := (e9.trans e3.symm).symm
    subst q11
    refine And.intro (by omega) (fun v12 gv12 e13 => ?_)
    have b14 := iva_at i0 9 rfl (i := v2) (by omega) (by omega)
    refine And.intro (fun h15 => ?_) (fun h15 => ?_)
    · exact And.intro (by omega) (hK _ (by omega) (by omega))
    · exact And.intro (by omega) (hK _ (by omega) (by omega))
  · refine And.intro (fun h16 => ?_) (fun h16 => by exfalso; omega)
    exact And.intro (by omega) (hK _ (by omega) (by omega))
def sC_needOf : qS := fun as A K => ∃ c : Int, as = [rf 1, ni c] ∧ (iva IC A ∧ ivf JC A) ∧ (∀ r : Int, 0 ≤ r → r ≤ 20 → K (some (ni r)) A)
theorem okC_needOf : okM LC 3 24 sC_needOf := by
  refine qmeth [] false [(22, sC_hasCrop)] 20 rfl ⟨okC_hasCrop.le (by decide), trivial⟩ ?_
  rintro _ A K hA has ⟨c, rfl, ⟨i0, j0⟩, hK⟩
  have rg_c : rng c := has (ni c) (by simp)
  have f0 := frm_0 [] [] A
  refine ⟨Nat.le_of_ble_eq_true rfl, [], trivial, ?_⟩
  refine Exists.intro c (And.intro rfl (And.intro (fun h1 => ?_) (fun h1 => ?_)))
  · obtain ⟨v2, e3⟩ : ∃ v, v = A 6 c := ⟨_, rfl⟩
    refine And.intro (fun h4 => by exfalso; omega) (fun h4 => ?_)
    refine And.intro (by omega) (fun v5 gv5 e6 => ?_)
    have b7 := iva_at i0 2 rfl (i := c) (by omega) (by omega)
    have q8 : v2 = v5 := (e6.trans e3.symm).symm
    subst q8
    refine And.intro (by omega) (fun v9 gv9 e10 => ?_)
    have b11 := iva_at i0 8 rfl (i := v2) (by omega) (by omega)
    exact hK _ (by omega) (by omega)
  · refine And.intro (fun h12 => ?_) (fun h12 => by exfalso; omega)
    exact hK _ (by omega) (by omega)
def sC_setCrop : qS := fun as A K => ∃ c k w : Int, as = [rf 1, ni c, ni k, ni w] ∧ (iva IC A ∧ ivf JC A ∧ 0 ≤ c ∧ c ≤ 47 ∧ (-1) ≤ k ∧ k ≤ 5 ∧ 0 ≤ w ∧ w ≤ 200) ∧ (∀ A' : qA, iva IC A' → ivf JC A' → frm [6, 7, 10] [] A A' → K none A')
theorem okC_setCrop : okM LC 1 25 sC_setCrop := by
  refine qmeth [] false [] 22 rfl trivial ?_
  rintro _ A K hA has ⟨c, k, w, rfl, ⟨i0, j0, p1, p2, p3, p4, p5, p6⟩, hK⟩
  have rg_c : rng c := has (ni c) (by simp)
  have rg_k : rng k := has (ni k) (by simp)
  have rg_w : rng w := has (ni w) (by simp)
  have f0 := frm_0 [6, 7, 10] [] A
  refine ⟨Nat.le_of_ble_eq_true rfl, [], trivial, ?_⟩
  refine And.intro (by omega) (fun A7 e8 => ?_)
  have i9 := iva_st i0 e8 (And.intro (by omega) trivial)
  have j10 := ivf_sa j0 e8 rfl
  have f11 := frm_s f0 e8 rfl
  refine And.intro (by omega) (fun A12 e13 => ?_)
  have i14 := iva_st i9 e13 (And.intro (by omega) trivial)
  have j15 := ivf_sa j10 e13 rfl
  have f16 := frm_s f11 e13 rfl
  refine And.intro (by omega) (And.intro (by omega) (fun A17 e18 => ?_))
  have i19 := iva_st i14 e18 (And.intro (by omega) trivial)
  have j20 := ivf_sa j15 e18 rfl
  have f21 := frm_s f16 e18 rfl
  exact hK _ i19 j20 f21
def sC_clearCrop : qS := fun as A K => ∃ c : Int, as = [rf 1, ni c] ∧ (iva IC A ∧ ivf JC A ∧ 0 ≤ c ∧ c ≤ 47) ∧ (∀ A' : qA, iva IC A' → ivf JC A' → frm [6, 7, 10] [] A A' → K none A')
theorem okC_clearCrop : okM LC 2 26 sC_clearCrop := by
  refine qmeth [] false [(25, sC_setCrop)] 12 rfl ⟨okC_setCrop.le (by decide), trivial⟩ ?_
  rintro _ A K hA has ⟨c, rfl, ⟨i0, j0, p1, p2⟩, hK⟩
  have rg_c : rng c := has (ni c) (by simp)
  have f0 := frm_0 [6, 7, 10] [] A
  refine ⟨Nat.le_of_ble_eq_true rfl, [], trivial, ?_⟩
  refine Exists.intro c (Exists.intro (-1) (Exists.intro 0 (And.intro rfl (And.intro (And.intro i0 (And.intro j0 (And.intro (by omega) (And.intro (by omega) (And.intro (by omega) (And.intro (by omega) (And.intro (by omega) (by omega)))))))) (fun A3 i4 j5 f6 => ?_)))))
  have f7 := frm_c f0 f6 rfl
  exact hK _ i4 j5 f7
def sC_crops : qS := fun as A K => as = [rf 1] ∧ (∀ r : Int, 0 ≤ r → r ≤ 48 → K (some (ni r)) A)
theorem okC_crops : okM LC 3 27 sC_crops := by
  refine qmeth [] false [(22, sC_hasCrop)] 22 rfl ⟨okC_hasCrop.le (by decide), trivial⟩ ?_
  rintro _ A K hA has ⟨rfl, hK⟩
  refine ⟨Nat.le_of_ble_eq_true rfl, [(4, [(0, 2, 1), (1, 0, 0), (2, 0, 0)], fun zs B nn => match zs with | [a, c] => A = B ∧ nn = (48 - c : Int).toNat ∧ (0 ≤ c) ∧ (c ≤ 48) ∧ (0 ≤ a) ∧ (a ≤ c) | _ => False)], ?_, ?_⟩
  · refine ⟨⟨rfl, ?_⟩, trivial⟩
    · refine fun a c B mm hB hz hI => ?_
      obtain ⟨rfl, hm, c0, c1, c2, c3⟩ := hI
      obtain ⟨hz_a, hz_c, _⟩ := hz
      refine And.intro (fun h1 => ?_) (fun h1 => ?_)
      · exact hK _ (by omega) (by omega)
      · refine Exists.intro c (And.intro rfl (And.intro (fun h2 => ?_) (fun h2 => ?_)))
        · obtain ⟨v3, e4⟩ : ∃ v, v = A 6 c := ⟨_, rfl⟩
          refine And.intro (fun h5 => by exfalso; omega) (fun h5 => ?_)
          refine fun v6 e7 => ?_
          refine fun v8 e9 => ?_
          exact And.intro (by omega) (And.intro (by omega) (Exists.intro (48 - v8 : Int).toNat (And.intro (by omega) (And.intro rfl (And.intro rfl (And.intro (by omega) (And.intro (by omega) (And.intro (by omega) (by omega)))))))))
        · refine And.intro (fun h10 => ?_) (fun h10 => by exfalso; omega)
          refine fun v11 e12 => ?_
          exact And.intro (by omega) (Exists.intro (48 - v11 : Int).toNat (And.intro (by omega) (And.intro rfl (And.intro rfl (And.intro (by omega) (And.intro (by omega) (And.intro (by omega) (by omega))))))))
  · exact Exists.intro (48 - 0 : Int).toNat (And.intro rfl (And.intro rfl (And.intro (by omega) (And.intro (by omega) (And.intro (by omega) (by omega))))))
def sC_loadOf : qS := fun as A K => ∃ c : Int, as = [rf 1, ni c] ∧ (iva IC A ∧ ivf JC A ∧ 0 ≤ c ∧ c ≤ 47) ∧ (∀ r : Int, rng r → K (some (ni r)) A)
theorem okC_loadOf : okM LC 2 29 sC_loadOf := by
  refine qmeth [] true [(20, sC_endOfColumn), (21, sC_hangs)] 48 rfl ⟨okC_endOfColumn.le (by decide), ⟨okC_hangs.le (by decide), trivial⟩⟩ ?_
  rintro _ A K hA has ⟨c, rfl, ⟨i0, j0, p1, p2⟩, hK⟩
  have rg_c : rng c := has (ni c) (by simp)
  have f0 := frm_0 [] [] A
  refine ⟨Nat.le_of_ble_eq_true rfl, [(7, [(0, 2, 1), (2, 0, 0), (3, 0, 0), (4, 0, 0)], fun zs B nn => match zs with | [s, e, k] => A = B ∧ nn = (48 - k : Int).toNat ∧ (0 ≤ k) ∧ (k ≤ 48) ∧ (e = c - c % 6 + 6) | _ => False)], ?_, ?_⟩
  · refine ⟨⟨rfl, ?_⟩, trivial⟩
    · refine fun s e k B mm hB hz hI => ?_
      obtain ⟨rfl, hm, c0, c1, c2⟩ := hI
      obtain ⟨hz_s, hz_e, hz_k, _⟩ := hz
      refine And.intro (fun h3 => ?_) (fun h3 => ?_)
      · exact hK _ (by first | exact wI_rng _ | omega | (exact (hA _ _).2 rfl))
      · refine Exists.intro k (And.intro rfl (And.intro (fun h4 => ?_) (fun h4 => ?_)))
        · refine And.intro (fun h5 => by exfalso; omega) (fun h5 => ?_)
          refine And.intro (by omega) (fun v6 gv6 e7 => ?_)
          refine fun v8 e9 => ?_
          refine And.intro (by omega) (fun v10 gv10 e11 => ?_)
          have b12 := iva_at i0 3 rfl (i := k) (by omega) (by omega)
          refine fun v13 e14 => ?_
          refine And.intro (by omega) (fun v15 gv15 e16 => ?_)
          refine fun v17 e18 => ?_
          refine And.intro (by omega) (fun v19 gv19 e20 => ?_)
          have b21 := iva_at i0 4 rfl (i := k) (by omega) (by omega)
          refine fun v22 e23 => ?_
          refine fun v24 e25 => ?_
          refine fun v26 e27 => ?_
          have w28 := wI_rng v24
          have w29 := wI_rng v26
          have w30 : wI v26 = v26 := wI_id (by omega)
          exact Exists.intro (48 - ((wI v26)) : Int).toNat (And.intro (by omega) (And.intro rfl (And.intro rfl (And.intro (by omega) (And.intro (by omega) (by omega))))))
        · refine And.intro (fun h31 => ?_) (fun h31 => by exfalso; omega)
          exact hK _ (by first | exact wI_rng _ | omega | (exact (hA _ _).2 rfl))
  · refine Exists.intro c (And.intro rfl (And.intro (And.intro (by omega) (by omega)) ?_))
    exact Exists.intro (48 - c : Int).toNat (And.intro rfl (And.intro rfl (And.intro (by omega) (And.intro (by omega) (by omega)))))
def sC_ripeLoadOf : qS := fun as A K => ∃ c : Int, as = [rf 1, ni c] ∧ (iva IC A ∧ ivf JC A ∧ 0 ≤ c ∧ c ≤ 47) ∧ (∀ r : Int, rng r → K (some (ni r)) A)
theorem okC_ripeLoadOf : okM LC 3 30 sC_ripeLoadOf := by
  refine qmeth [] true [(29, sC_loadOf), (20, sC_endOfColumn), (21, sC_hangs), (22, sC_hasCrop)] 47 rfl ⟨okC_loadOf.le (by decide), ⟨okC_endOfColumn.le (by decide), ⟨okC_hangs.le (by decide), ⟨okC_hasCrop.le (by decide), trivial⟩⟩⟩⟩ ?_
  rintro _ A K hA has ⟨c, rfl, ⟨i0, j0, p1, p2⟩, hK⟩
  have rg_c : rng c := has (ni c) (by simp)
  have f0 := frm_0 [] [] A
  refine ⟨Nat.le_of_ble_eq_true rfl, [(9, [(0, 2, 1), (2, 0, 0), (3, 0, 0), (4, 0, 0)], fun zs B nn => match zs with | [s, e, k] => A = B ∧ nn = (48 - k : Int).toNat ∧ (0 ≤ k) ∧ (k ≤ 48) ∧ (e = c - c % 6 + 6) | _ => False)], ?_, ?_⟩
  · refine ⟨⟨rfl, ?_⟩, trivial⟩
    · refine fun s e k B mm hB hz hI => ?_
      obtain ⟨rfl, hm, c0, c1, c2⟩ := hI
      obtain ⟨hz_s, hz_e, hz_k, _⟩ := hz
      refine And.intro (fun h5 => ?_) (fun h5 => ?_)
      · exact hK _ (by first | exact wI_rng _ | omega | (exact (hA _ _).2 rfl))
      · refine Exists.intro k (And.intro rfl (And.intro (fun h6 => ?_) (fun h6 => ?_)))
        · refine And.intro (fun h7 => by exfalso; omega) (fun h7 => ?_)
          refine Exists.intro k (And.intro rfl (And.intro (fun h8 => ?_) (fun h8 => ?_)))
          · obtain ⟨v9, e10⟩ : ∃ v, v = A 6 k := ⟨_, rfl⟩
            refine And.intro (fun h11 => by exfalso; omega) (fun h11 => ?_)
            refine And.intro (by omega) (fun v12 gv12 e13 => ?_)
            have b14 := iva_at i0 2 rfl (i := k) (by omega) (by omega)
            have q15 : v9 = v12 := (e13.trans e10.symm).symm
            subst q15
            refine And.intro (by omega) (fun v16 gv16 e17 => ?_)
            have b18 := iva_at i0 9 rfl (i := v9) (by omega) (by omega)
            refine And.intro (by omega) (fun v19 gv19 e20 => ?_)
            have b21 := iva_at i0 3 rfl (i := k) (by omega) (by omega)
            refine fun v22 e23 => ?_
            have w26 := wI_rng v22
            have w27 : wI v22 = v22 := wI_id (by omega)
            refine (fun v24 e25 => ?_)
            refine fun v28 e29 => ?_
            refine fun v30 e31 => ?_
            have w32 := wI_rng v28
            have w33 := wI_rng v30
            have w34 : wI v30 = v30 := wI_id (by omega)
            exact Exists.intro (48 - ((wI v30)) : Int).toNat (And.intro (by omega) (And.intro rfl (And.intro rfl (And.intro (by omega) (And.intro (by omega) (by omega))))))
          · refine And.intro (fun h35 => ?_) (fun h35 => by exfalso; omega)
            refine fun v36 e37 => ?_
            have w38 := wI_rng v36
            have w39 : wI v36 = v36 := wI_id (by omega)
            exact Exists.intro (48 - ((wI v36)) : Int).toNat (And.intro (by omega) (And.intro rfl (And.intro rfl (And.intro (by omega) (And.intro (by omega) (by omega))))))
        · refine And.intro (fun h40 => ?_) (fun h40 => by exfalso; omega)
          exact hK _ (by first | exact wI_rng _ | omega | (exact (hA _ _).2 rfl))
  · refine Exists.intro c (And.intro rfl (And.intro (And.intro i0 (And.intro j0 (And.intro (by omega) (by omega)))) (fun r3 g4 => ?_)))
    refine Exists.intro c (And.intro rfl (And.intro (And.intro (by omega) (by omega)) ?_))
    exact Exists.intro (48 - c : Int).toNat (And.intro rfl (And.intro rfl (And.intro (by omega) (And.intro (by omega) (by omega)))))
def sC_firstOverloaded : qS := fun as A K => as = [rf 1] ∧ (iva IC A ∧ ivf JC A) ∧ (∀ r : Int, (-1) ≤ r → r ≤ 47 → K (some (ni r)) A)
theorem okC_firstOverloaded : okM LC 3 31 sC_firstOverloaded := by
  refine qmeth [] true [(21, sC_hangs), (29, sC_loadOf)] 29 rfl ⟨okC_hangs.le (by decide), ⟨okC_loadOf.le (by decide), trivial⟩⟩ ?_
  rintro _ A K hA has ⟨rfl, ⟨i0, j0⟩, hK⟩
  have f0 := frm_0 [] [] A
  refine ⟨Nat.le_of_ble_eq_true rfl, [(2, [(0, 2, 1), (1, 0, 0)], fun zs B nn => match zs with | [k] => A = B ∧ nn = (48 - k : Int).toNat ∧ (0 ≤ k) ∧ (k ≤ 48) | _ => False)], ?_, ?_⟩
  · refine ⟨⟨rfl, ?_⟩, trivial⟩
    · refine fun k B mm hB hz hI => ?_
      obtain ⟨rfl, hm, c0, c1⟩ := hI
      obtain ⟨hz_k, _⟩ := hz
      refine And.intro (fun h1 => ?_) (fun h1 => ?_)
      · exact hK _ (by omega) (by omega)
      · refine Exists.intro k (And.intro rfl (And.intro (fun h2 => ?_) (fun h2 => ?_)))
        · refine And.intro (fun h3 => by exfalso; omega) (fun h3 => ?_)
          refine Exists.intro k (And.intro rfl (And.intro (And.intro i0 (And.intro j0 (And.intro (by omega) (by omega)))) (fun r4 g5 => ?_)))
          refine And.intro (by omega) (fun v6 gv6 e7 => ?_)
          have b8 := iva_at i0 0 rfl (i := k) (by omega) (by omega)
          refine And.intro (fun h9 => ?_) (fun h9 => ?_)
          · refine fun v10 e11 => ?_
            have w12 := wI_rng v10
            have w13 : wI v10 = v10 := wI_id (by omega)
            exact Exists.intro (48 - ((wI v10)) : Int).toNat (And.intro (by omega) (And.intro rfl (And.intro rfl (And.intro (by omega) (by omega)))))
          · exact hK _ (by omega) (by omega)
        · refine And.intro (fun h14 => ?_) (fun h14 => by exfalso; omega)
          refine fun v15 e16 => ?_
          have w17 := wI_rng v15
          have w18 : wI v15 = v15 := wI_id (by omega)
          exact Exists.intro (48 - ((wI v15)) : Int).toNat (And.intro (by omega) (And.intro rfl (And.intro rfl (And.intro (by omega) (by omega)))))
  · exact Exists.intro (48 - 0 : Int).toNat (And.intro rfl (And.intro rfl (And.intro (by omega) (by omega))))
def sC_loosen : qS := fun as A K => ∃ c b : Int, as = [rf 1, ni c, ni b] ∧ (iva IC A ∧ ivf JC A) ∧ (∀ A' : qA, iva IC A' → ivf JC A' → frm [2] [] A A' → K none A')
theorem okC_loosen : okM LC 2 33 sC_loosen := by
  refine qmeth [] true [(21, sC_hangs)] 23 rfl ⟨okC_hangs.le (by decide), trivial⟩ ?_
  rintro _ A K hA has ⟨c, b, rfl, ⟨i0, j0⟩, hK⟩
  have rg_c : rng c := has (ni c) (by simp)
  have rg_b : rng b := has (ni b) (by simp)
  have f0 := frm_0 [2] [] A
  refine ⟨Nat.le_of_ble_eq_true rfl, [], trivial, ?_⟩
  refine Exists.intro c (And.intro rfl (And.intro (fun h1 => ?_) (fun h1 => ?_)))
  · refine And.intro (fun h2 => by exfalso; omega) (fun h2 => ?_)
    refine And.intro (by omega) (fun v3 gv3 e4 => ?_)
    have b5 := iva_at i0 0 rfl (i := c) (by omega) (by omega)
    refine fun v6 e7 => ?_
    have w10 := wI_rng v6
    refine (fun v8 e9 => ?_)
    refine And.intro (by omega) (fun A11 e12 => ?_)
    have i13 := iva_st i0 e12 (And.intro (by omega) trivial)
    have j14 := ivf_sa j0 e12 rfl
    have f15 := frm_s f0 e12 rfl
    exact hK _ i13 j14 f15
  · refine And.intro (fun h16 => ?_) (fun h16 => by exfalso; omega)
    exact hK _ i0 j0 f0
def sC_unhang : qS := fun as A K => ∃ c b : Int, as = [rf 1, ni c, ni b] ∧ (iva IC A ∧ ivf JC A ∧ 0 ≤ c ∧ c ≤ 47) ∧ (∀ A' : qA, iva IC A' → ivf JC A' → frm [2] [(1, 0)] A A' → K none A')
theorem okC_unhang : okM LC 3 32 sC_unhang := by
  refine qmeth [] true [(20, sC_endOfColumn), (33, sC_loosen)] 43 rfl ⟨okC_endOfColumn.le (by decide), ⟨okC_loosen.le (by decide), trivial⟩⟩ ?_
  rintro _ A K hA has ⟨c, b, rfl, ⟨i0, j0, p1, p2⟩, hK⟩
  have rg_c : rng c := has (ni c) (by simp)
  have rg_b : rng b := has (ni b) (by simp)
  have f0 := frm_0 [2] [(1, 0)] A
  refine ⟨Nat.le_of_ble_eq_true rfl, [(5, [(0, 2, 1), (1, 0, 0), (2, 0, 0), (3, 0, 0), (4, 0, 0)], fun zs B nn => match zs with | [l1, l2, e, k] => iva IC B ∧ ivf JC B ∧ frm [2] [(1, 0)] A B ∧ nn = (48 - k : Int).toNat ∧ (l1 = c) ∧ (l2 = b) ∧ (0 ≤ k) ∧ (k ≤ 48) ∧ (e = c - c % 6 + 6) | _ => False)], ?_, ?_⟩
  · refine ⟨⟨rfl, ?_⟩, trivial⟩
    · refine fun l1 l2 e k B mm hB hz hI => ?_
      obtain ⟨i1, j1, f1, hm, c0, c1, c2, c3, c4⟩ := hI
      obtain ⟨hz_l1, hz_l2, hz_e, hz_k, _⟩ := hz
      refine And.intro (fun h3 => ?_) (fun h3 => ?_)
      · refine fun v4 e5 => ?_
        refine And.intro (by omega) (fun v6 e7 => ?_)
        have h8 := qd_bd (a := l2) (b := 10) (lo := (-2147483648)) (hi := 2147483647) (by omega) (by omega) (by omega) (by omega) (by omega)
        have w9 := wI_rng v4
        have w10 : wI v4 = v4 := wI_id (by omega)
        have w11 := wI_rng v6
        have w12 : wI v6 = v6 := wI_id (by omega)
        refine Exists.intro (wI v4) (Exists.intro (wI v6) (And.intro rfl (And.intro (And.intro i1 j1) (fun A13 i14 j15 f16 => ?_))))
        have f17 := frm_c f1 f16 rfl
        refine fun v18 e19 => ?_
        refine And.intro (by omega) (fun v20 e21 => ?_)
        have h22 := qd_bd (a := l2) (b := 10) (lo := (-2147483648)) (hi := 2147483647) (by omega) (by omega) (by omega) (by omega) (by omega)
        have w23 := wI_rng v18
        have w24 : wI v18 = v18 := wI_id (by omega)
        have w25 := wI_rng v20
        have w26 : wI v20 = v20 := wI_id (by omega)
        refine Exists.intro (wI v18) (Exists.intro (wI v20) (And.intro rfl (And.intro (And.intro i14 j15) (fun A27 i28 j29 f30 => ?_))))
        have f31 := frm_c f17 f30 rfl
        exact hK _ i28 j29 f31
      · refine fun v32 e33 => ?_
        refine fun (v34 : Int) (e35 : v34 = 1) => ?_
        refine fun v36 e37 => ?_
        refine fun v38 e39 => ?_
        refine fun v40 e41 => ?_
        refine fun A42 e43 => ?_
        have i44 := iva_sf i1 e43 rfl
        have j45 := ivf_st j1 e43 trivial
        have f46 := frm_sf f1 e43 rfl
        refine fun v47 e48 => ?_
        have w49 := wI_rng v47
        have w50 : wI v47 = v47 := wI_id (by omega)
        exact Exists.intro (48 - ((wI v47)) : Int).toNat (And.intro (by omega) (And.intro i44 (And.intro j45 (And.intro f46 (And.intro rfl (And.intro (by omega) (And.intro (by omega) (And.intro (by omega) (And.intro (by omega) (by omega))))))))))
  · refine Exists.intro c (And.intro rfl (And.intro (And.intro (by omega) (by omega)) ?_))
    exact Exists.intro (48 - c : Int).toNat (And.intro i0 (And.intro j0 (And.intro f0 (And.intro rfl (And.intro (by omega) (And.intro (by omega) (And.intro (by omega) (And.intro (by omega) (by omega)))))))))
def sC_wouldGo : qS := fun as A K => ∃ c : Int, as = [rf 1, ni c] ∧ (iva IC A ∧ ivf JC A ∧ 0 ≤ c ∧ c ≤ 47) ∧ (∀ A' : qA, iva IC A' → ivf JC A' → frm [2, 14] [(1, 0)] A A' → ∀ r : Int, rngL r → K (some (nl r)) A')
theorem okC_wouldGo : okM LC 4 34 sC_wouldGo := by
  refine qmeth [] true [(29, sC_loadOf), (32, sC_unhang), (31, sC_firstOverloaded)] 58 rfl ⟨okC_loadOf.le (by decide), ⟨okC_unhang.le (by decide), ⟨okC_firstOverloaded.le (by decide), trivial⟩⟩⟩ ?_
  rintro _ A K hA has ⟨c, rfl, ⟨i0, j0, p1, p2⟩, hK⟩
  have rg_c : rng c := has (ni c) (by simp)
  have f0 := frm_0 [2, 14] [(1, 0)] A
  refine ⟨Nat.le_of_ble_eq_true rfl, [(15, [(0, 2, 1), (2, 1, 0), (4, 0, 0), (5, 0, 0)], fun zs B nn => match zs with | [l2, x, k] => iva IC B ∧ ivf JC B ∧ frm [2, 14] [(1, 0)] A B ∧ nn = (49 - k : Int).toNat ∧ (0 ≤ k) ∧ (k ≤ 49) ∧ ((-1) ≤ x) ∧ (x ≤ 47) | _ => False)], ?_, ?_⟩
  · refine ⟨⟨rfl, ?_⟩, trivial⟩
    · refine fun l2 x k B mm hB hz hI => ?_
      obtain ⟨i1, j1, f1, hm, c0, c1, c2, c3⟩ := hI
      obtain ⟨hz_l2, hz_x, hz_k, _⟩ := hz
      refine And.intro (fun h10 => ?_) (fun h10 => ?_)
      · refine fun v11 e12 => ?_
        refine fun v13 e14 => ?_
        refine fun v15 e16 => ?_
        refine fun A17 e18 => ?_
        have i19 := iva_sf i1 e18 rfl
        have j20 := ivf_st j1 e18 trivial
        have f21 := frm_sf f1 e18 rfl
        refine And.intro (by omega) (fun A22 e23 => ?_)
        have i24 := iva_cp i19 e23 (fun i h0 h1 => And.intro (by have := iva_at i19 11 rfl (i := 0 + i) (by omega) (by omega); omega) trivial)
        have j25 := ivf_cp j20 e23 rfl
        have f26 := frm_cp f21 e23 rfl
        exact hK _ i24 j25 f26 _ (by first | assumption | omega | (subst_vars; exact l_rng _) | (subst_vars; exact (hB _ _).1) | exact qnL_rng (by decide))
      · refine And.intro (fun h27 => ?_) (fun h27 => ?_)
        · refine fun v28 e29 => ?_
          refine fun v30 e31 => ?_
          refine fun v32 e33 => ?_
          refine fun A34 e35 => ?_
          have i36 := iva_sf i1 e35 rfl
          have j37 := ivf_st j1 e35 trivial
          have f38 := frm_sf f1 e35 rfl
          refine And.intro (by omega) (fun A39 e40 => ?_)
          have i41 := iva_cp i36 e40 (fun i h0 h1 => And.intro (by have := iva_at i36 11 rfl (i := 0 + i) (by omega) (by omega); omega) trivial)
          have j42 := ivf_cp j37 e40 rfl
          have f43 := frm_cp f38 e40 rfl
          exact hK _ i41 j42 f43 _ (by first | assumption | omega | (subst_vars; exact l_rng _) | (subst_vars; exact (hB _ _).1) | exact qnL_rng (by decide))
        · refine Exists.intro x (And.intro rfl (And.intro (And.intro i1 (And.intro j1 (And.intro (by omega) (by omega)))) (fun r44 g45 => ?_)))
          refine Exists.intro x (Exists.intro r44 (And.intro rfl (And.intro (And.intro i1 (And.intro j1 (And.intro (by omega) (by omega)))) (fun A46 i47 j48 f49 => ?_))))
          have f50 := frm_c f1 f49 rfl
          refine And.intro rfl (And.intro (And.intro i47 j48) (fun r51 g52 g53 => ?_))
          refine fun v54 e55 => ?_
          have w56 := wI_rng v54
          have w57 : wI v54 = v54 := wI_id (by omega)
          exact Exists.intro (49 - ((wI v54)) : Int).toNat (And.intro (by omega) (And.intro i47 (And.intro j48 (And.intro f50 (And.intro rfl (And.intro (by omega) (And.intro (by omega) (And.intro (by omega) (by omega)))))))))
  · refine fun v3 e4 => ?_
    refine And.intro (by omega) (fun A5 e6 => ?_)
    have i7 := iva_cp i0 e6 (fun i h0 h1 => And.intro (by have := iva_at i0 0 rfl (i := 0 + i) (by omega) (by omega); omega) trivial)
    have j8 := ivf_cp j0 e6 rfl
    have f9 := frm_cp f0 e6 rfl
    exact Exists.intro (49 - 0 : Int).toNat (And.intro i7 (And.intro j8 (And.intro f9 (And.intro rfl (And.intro (by omega) (And.intro (by omega) (And.intro (by omega) (by omega))))))))
def sC_columnsOf : qS := fun as A K => ∃ c : Int, as = [rf 1, ni c] ∧ (iva IC A ∧ ivf JC A) ∧ (∀ r : Int, 0 ≤ r → r ≤ 255 → K (some (ni r)) A)
theorem okC_columnsOf : okM LC 3 35 sC_columnsOf := by
  refine qmeth [] false [(22, sC_hasCrop)] 35 rfl ⟨okC_hasCrop.le (by decide), trivial⟩ ?_
  rintro _ A K hA has ⟨c, rfl, ⟨i0, j0⟩, hK⟩
  have rg_c : rng c := has (ni c) (by simp)
  have f0 := frm_0 [] [] A
  refine ⟨Nat.le_of_ble_eq_true rfl, [(4, [(0, 2, 1), (1, 0, 0), (2, 0, 0), (3, 0, 0)], fun zs B nn => match zs with | [l1, s, k] => A = B ∧ nn = (48 - k : Int).toNat ∧ (l1 = c) ∧ (0 ≤ k) ∧ (k ≤ 48) ∧ (0 ≤ s) ∧ (s ≤ 255) | _ => False)], ?_, ?_⟩
  · refine ⟨⟨rfl, ?_⟩, trivial⟩
    · refine fun l1 s k B mm hB hz hI => ?_
      obtain ⟨rfl, hm, c0, c1, c2, c3, c4⟩ := hI
      obtain ⟨hz_l1, hz_s, hz_k, _⟩ := hz
      refine And.intro (fun h1 => ?_) (fun h1 => ?_)
      · exact hK _ (by omega) (by omega)
      · refine Exists.intro k (And.intro rfl (And.intro (fun h2 => ?_) (fun h2 => ?_)))
        · obtain ⟨v3, e4⟩ : ∃ v, v = A 6 k := ⟨_, rfl⟩
          refine And.intro (fun h5 => by exfalso; omega) (fun h5 => ?_)
          refine And.intro (by omega) (fun v6 gv6 e7 => ?_)
          have b8 := iva_at i0 2 rfl (i := k) (by omega) (by omega)
          have q9 : v3 = v6 := (e7.trans e4.symm).symm
          subst q9
          refine And.intro (fun h10 => ?_) (fun h10 => ?_)
          · refine fun v11 e12 => ?_
            exact And.intro (by omega) (Exists.intro (48 - v11 : Int).toNat (And.intro (by omega) (And.intro rfl (And.intro rfl (And.intro (by omega) (And.intro (by omega) (And.intro (by omega) (And.intro (by omega) (by omega)))))))))
          · refine And.intro (by omega) (fun v13 e14 => ?_)
            have h15 := qd_nn (a := k) (b := 6) (by omega)
            refine fun v16 e17 => ?_
            have h18 := sl_bd (b := v13) 7 (by decide) (by omega) (by omega)
            refine fun v19 e20 => ?_
            have h21 := io_bd (a := s) (b := v16) 8 (by decide) (by omega) (by omega) (by omega) (by omega)
            refine fun v22 e23 => ?_
            exact And.intro (by omega) (Exists.intro (48 - v22 : Int).toNat (And.intro (by omega) (And.intro rfl (And.intro rfl (And.intro (by omega) (And.intro (by omega) (And.intro (by omega) (And.intro (by omega) (by omega)))))))))
        · refine And.intro (fun h24 => ?_) (fun h24 => by exfalso; omega)
          refine fun v25 e26 => ?_
          exact And.intro (by omega) (Exists.intro (48 - v25 : Int).toNat (And.intro (by omega) (And.intro rfl (And.intro rfl (And.intro (by omega) (And.intro (by omega) (And.intro (by omega) (And.intro (by omega) (by omega)))))))))
  · exact Exists.intro (48 - 0 : Int).toNat (And.intro rfl (And.intro rfl (And.intro (by omega) (And.intro (by omega) (And.intro (by omega) (And.intro (by omega) (by omega)))))))
def sC_highestFall : qS := fun as A K => ∃ c k : Int, as = [rf 1, ni c, ni k] ∧ (iva IC A ∧ ivf JC A ∧ 0 ≤ c ∧ c ≤ 7) ∧ (∀ r : Int, (-1) ≤ r → r ≤ 6 → K (some (ni r)) A)
theorem okC_highestFall : okM LC 3 36 sC_highestFall := by
  refine qmeth [] false [(22, sC_hasCrop)] 38 rfl ⟨okC_hasCrop.le (by decide), trivial⟩ ?_
  rintro _ A K hA has ⟨c, k, rfl, ⟨i0, j0, p1, p2⟩, hK⟩
  have rg_c : rng c := has (ni c) (by simp)
  have rg_k : rng k := has (ni k) (by simp)
  have f0 := frm_0 [] [] A
  refine ⟨Nat.le_of_ble_eq_true rfl, [(2, [(0, 2, 1), (1, 0, 0), (2, 0, 0), (3, 0, 0)], fun zs B nn => match zs with | [l1, l2, l] => A = B ∧ nn = (6 - l : Int).toNat ∧ (l1 = c) ∧ (l2 = k) ∧ (0 ≤ l) ∧ (l ≤ 6) | _ => False)], ?_, ?_⟩
  · refine ⟨⟨rfl, ?_⟩, trivial⟩
    · refine fun l1 l2 l B mm hB hz hI => ?_
      obtain ⟨rfl, hm, c0, c1, c2, c3⟩ := hI
      obtain ⟨hz_l1, hz_l2, hz_l, _⟩ := hz
      refine And.intro (fun h3 => ?_) (fun h3 => ?_)
      · exact hK _ (by omega) (by omega)
      · refine fun v4 e5 => ?_
        refine fun v6 e7 => ?_
        refine And.intro (by omega) (Exists.intro v6 (And.intro rfl (And.intro (fun h8 => ?_) (fun h8 => ?_))))
        · obtain ⟨v9, e10⟩ : ∃ v, v = A 6 v6 := ⟨_, rfl⟩
          refine And.intro (fun h11 => by exfalso; omega) (fun h11 => ?_)
          refine And.intro (by omega) (fun v12 gv12 e13 => ?_)
          have b14 := iva_at i0 2 rfl (i := v6) (by omega) (by omega)
          have q15 : v9 = v12 := (e13.trans e10.symm).symm
          subst q15
          refine fun v16 e17 => ?_
          refine fun v18 e19 => ?_
          have h20 := ia_bd (a := v16) (b := 1) (by omega) (by omega)
          refine And.intro (fun h21 => ?_) (fun h21 => ?_)
          · refine fun v22 e23 => ?_
            exact And.intro (by omega) (Exists.intro (6 - v22 : Int).toNat (And.intro (by omega) (And.intro rfl (And.intro rfl (And.intro (by omega) (And.intro (by omega) (And.intro (by omega) (by omega))))))))
          · refine fun v24 e25 => ?_
            exact And.intro (by omega) (hK _ (by omega) (by omega))
        · refine And.intro (fun h26 => ?_) (fun h26 => by exfalso; omega)
          refine fun v27 e28 => ?_
          exact And.intro (by omega) (Exists.intro (6 - v27 : Int).toNat (And.intro (by omega) (And.intro rfl (And.intro rfl (And.intro (by omega) (And.intro (by omega) (And.intro (by omega) (by omega))))))))
  · exact Exists.intro (6 - 0 : Int).toNat (And.intro rfl (And.intro rfl (And.intro (by omega) (And.intro (by omega) (And.intro (by omega) (by omega))))))
def sC_netFact : qS := fun as A K => ∃ c w : Int, as = [rf 1, ni c, ni w] ∧ (iva IC A ∧ ivf JC A ∧ 0 ≤ c ∧ c ≤ 47) ∧ (∀ r : Int, rng r → K (some (ni r)) A)
theorem okC_netFact : okM LC 3 28 sC_netFact := by
  refine qmeth [] false [(29, sC_loadOf)] 63 rfl ⟨okC_loadOf.le (by decide), trivial⟩ ?_
  rintro _ A K hA has ⟨c, w, rfl, ⟨i0, j0, p1, p2⟩, hK⟩
  have rg_c : rng c := has (ni c) (by simp)
  have rg_w : rng w := has (ni w) (by simp)
  have f0 := frm_0 [] [] A
  refine ⟨Nat.le_of_ble_eq_true rfl, [], trivial, ?_⟩
  refine (And.intro (fun h3 => ?_) (And.intro (fun h3 => ?_) (And.intro (fun h3 => ?_) (And.intro (fun h3 => ?_) (And.intro (fun h3 => ?_) (And.intro (fun h3 => ?_) (And.intro (fun h3 => ?_) (And.intro (fun h3 => ?_) (And.intro (fun h3 => ?_) (And.intro (fun h3 => ?_) (And.intro (fun h3 => ?_) trivial)))))))))))
  · exact hK _ (by first | exact wI_rng _ | omega | (exact (hA _ _).2 rfl))
  · refine And.intro (by omega) (fun v4 gv4 e5 => ?_)
    have b6 := iva_at i0 0 rfl (i := c) (by omega) (by omega)
    exact hK _ (by first | exact wI_rng _ | omega | (exact (hA _ _).2 rfl))
  · refine And.intro (by omega) (fun v7 gv7 e8 => ?_)
    exact hK _ (by first | exact wI_rng _ | omega | (exact (hA _ _).2 rfl))
  · refine And.intro (by omega) (fun v9 gv9 e10 => ?_)
    exact hK _ (by first | exact wI_rng _ | omega | (exact (hA _ _).2 rfl))
  · refine And.intro (by omega) (fun v11 gv11 e12 => ?_)
    have b13 := iva_at i0 1 rfl (i := c) (by omega) (by omega)
    exact hK _ (by first | exact wI_rng _ | omega | (exact (hA _ _).2 rfl))
  · refine And.intro (by omega) (fun v14 gv14 e15 => ?_)
    have b16 := iva_at i0 2 rfl (i := c) (by omega) (by omega)
    exact hK _ (by first | exact wI_rng _ | omega | (exact (hA _ _).2 rfl))
  · refine And.intro (by omega) (fun v17 gv17 e18 => ?_)
    have b19 := iva_at i0 3 rfl (i := c) (by omega) (by omega)
    exact hK _ (by first | exact wI_rng _ | omega | (exact (hA _ _).2 rfl))
  · refine And.intro (by omega) (fun v20 gv20 e21 => ?_)
    exact hK _ (by first | exact wI_rng _ | omega | (exact (hA _ _).2 rfl))
  · refine And.intro (by omega) (fun v22 gv22 e23 => ?_)
    have b24 := iva_at i0 4 rfl (i := c) (by omega) (by omega)
    exact hK _ (by first | exact wI_rng _ | omega | (exact (hA _ _).2 rfl))
  · refine And.intro (by omega) (fun v25 gv25 e26 => ?_)
    have b27 := iva_at i0 5 rfl (i := c) (by omega) (by omega)
    refine And.intro (fun h28 => ?_) (fun h28 => ?_)
    · exact hK _ (by first | exact wI_rng _ | omega | (exact (hA _ _).2 rfl))
    · exact hK _ (by first | exact wI_rng _ | omega | (exact (hA _ _).2 rfl))
  · refine Exists.intro c (And.intro rfl (And.intro (And.intro i0 (And.intro j0 (And.intro (by omega) (by omega)))) (fun r29 g30 => ?_)))
    exact hK _ (by first | exact wI_rng _ | omega | (exact (hA _ _).2 rfl))
