def IC : List (Nat × Int × Int × Int) := [(6, 48, (-1), 5), (11, 6, 0, 20), (12, 6, 1, 200), (13, 6, 0, 99)]
def JC : List (Nat × Nat × Int × Int) := [(24, 9, 0, 60), (52, 1, 0, 220)]
def HG (A : qA) (c : Int) : Prop := jc (ja (jsu (A 1 (fd 0)) c) 1) 0 ≠ 0
def sC_within : qS := fun as A K => ∃ n m : Int, as = [ni n, ni m] ∧ ((0 ≤ n ∧ n ≤ m → K (some (ni 1)) A) ∧ (¬ (0 ≤ n ∧ n ≤ m) → K (some (ni 0)) A))
theorem okC_within : okM LC 1 138 sC_within := by
  refine qmeth [] false [] 15 rfl trivial ?_
  rintro _ A K hA has ⟨n, m, rfl, hK⟩
  have rg_n : rng n := has (ni n) (by simp)
  have rg_m : rng m := has (ni m) (by simp)
  refine ⟨Nat.le_of_ble_eq_true rfl, [], trivial, ?_⟩
  refine And.intro (fun h1 => ?_) (fun h1 => ?_)
  · exact And.intro (by omega) (hK.2 (by first | omega | (simp_all; done) | (simp_all; omega)))
  · refine And.intro (fun h2 => ?_) (fun h2 => ?_)
    · exact And.intro (by omega) (hK.2 (by first | omega | (simp_all; done) | (simp_all; omega)))
    · exact And.intro (by omega) (hK.1 (by first | omega | (simp_all; done) | (simp_all; omega)))
def sC_isColumn : qS := fun as A K => ∃ n : Int, as = [ni n] ∧ ((0 ≤ n ∧ n ≤ 7 → K (some (ni 1)) A) ∧ (¬ (0 ≤ n ∧ n ≤ 7) → K (some (ni 0)) A))
theorem okC_isColumn : okM LC 2 139 sC_isColumn := by
  refine qmeth [] false [(138, sC_within)] 10 rfl ⟨okC_within.le (by decide), trivial⟩ ?_
  rintro _ A K hA has ⟨n, rfl, hK⟩
  have rg_n : rng n := has (ni n) (by simp)
  refine ⟨Nat.le_of_ble_eq_true rfl, [], trivial, ?_⟩
  refine Exists.intro n (Exists.intro 7 (And.intro rfl (And.intro (fun h1 => ?_) (fun h1 => ?_))))
  · exact And.intro (by omega) (hK.1 (by first | omega | (simp_all; done) | (simp_all; omega)))
  · exact And.intro (by omega) (hK.2 (by first | omega | (simp_all; done) | (simp_all; omega)))
def sC_isCell : qS := fun as A K => ∃ n l : Int, as = [ni n, ni l] ∧ (((0 ≤ n ∧ n ≤ 7) ∧ (0 ≤ l ∧ l ≤ 5) → K (some (ni 1)) A) ∧ (¬ ((0 ≤ n ∧ n ≤ 7) ∧ (0 ≤ l ∧ l ≤ 5)) → K (some (ni 0)) A))
theorem okC_isCell : okM LC 3 141 sC_isCell := by
  refine qmeth [] false [(139, sC_isColumn), (138, sC_within)] 17 rfl ⟨okC_isColumn.le (by decide), ⟨okC_within.le (by decide), trivial⟩⟩ ?_
  rintro _ A K hA has ⟨n, l, rfl, hK⟩
  have rg_n : rng n := has (ni n) (by simp)
  have rg_l : rng l := has (ni l) (by simp)
  refine ⟨Nat.le_of_ble_eq_true rfl, [], trivial, ?_⟩
  refine Exists.intro n (And.intro rfl (And.intro (fun h1 => ?_) (fun h1 => ?_)))
  · refine And.intro (fun h2 => by exfalso; omega) (fun h2 => ?_)
    refine Exists.intro l (Exists.intro 5 (And.intro rfl (And.intro (fun h3 => ?_) (fun h3 => ?_))))
    · refine And.intro (fun h4 => by exfalso; omega) (fun h4 => ?_)
      exact And.intro (by omega) (hK.1 (by first | omega | (simp_all; done) | (simp_all; omega)))
    · refine And.intro (fun h5 => ?_) (fun h5 => by exfalso; omega)
      exact And.intro (by omega) (hK.2 (by first | omega | (simp_all; done) | (simp_all; omega)))
  · refine And.intro (fun h6 => ?_) (fun h6 => by exfalso; omega)
    exact And.intro (by omega) (hK.2 (by first | omega | (simp_all; done) | (simp_all; omega)))
def sC_hangs : qS := fun as A K => ∃ c : Int, as = [rf 1, ni c] ∧ ((0 ≤ c ∧ c ≤ 47 ∧ HG A c → K (some (ni 1)) A) ∧ (¬ (0 ≤ c ∧ c ≤ 47 ∧ HG A c) → K (some (ni 0)) A))
theorem okC_hangs : okM LC 1 21 sC_hangs := by
  refine qmeth [] false [] 24 rfl trivial ?_
  rintro _ A K hA has ⟨c, rfl, hK⟩
  have rg_c : rng c := has (ni c) (by simp)
  refine ⟨Nat.le_of_ble_eq_true rfl, [], trivial, ?_⟩
  refine And.intro (fun h1 => ?_) (fun h1 => ?_)
  · exact And.intro (by omega) (hK.2 (by first | omega | (unfold HG; simp_all; done) | (unfold HG; simp_all; omega)))
  · refine And.intro (fun h2 => ?_) (fun h2 => ?_)
    · exact And.intro (by omega) (hK.2 (by first | omega | (unfold HG; simp_all; done) | (unfold HG; simp_all; omega)))
    · refine fun v3 e4 => ?_
      refine fun v5 e6 => ?_
      refine fun v7 e8 => ?_
      refine fun v9 e10 => ?_
      refine And.intro (fun h11 => ?_) (fun h11 => ?_)
      · exact And.intro (by omega) (hK.2 (by first | omega | (unfold HG; simp_all; done) | (unfold HG; simp_all; omega)))
      · exact And.intro (by omega) (hK.1 (by first | omega | (unfold HG; simp_all; done) | (unfold HG; simp_all; omega)))
def sC_hasCrop : qS := fun as A K => ∃ c : Int, as = [rf 1, ni c] ∧ ((0 ≤ c ∧ c ≤ 47 ∧ HG A c ∧ 0 ≤ A 6 c ∧ A 6 c ≤ 5 → K (some (ni 1)) A) ∧ (¬ (0 ≤ c ∧ c ≤ 47 ∧ HG A c ∧ 0 ≤ A 6 c ∧ A 6 c ≤ 5) → K (some (ni 0)) A))
theorem okC_hasCrop : okM LC 2 22 sC_hasCrop := by
  refine qmeth [] false [(21, sC_hangs), (138, sC_within)] 21 rfl ⟨okC_hangs.le (by decide), ⟨okC_within.le (by decide), trivial⟩⟩ ?_
  rintro _ A K hA has ⟨c, rfl, hK⟩
  have rg_c : rng c := has (ni c) (by simp)
  refine ⟨Nat.le_of_ble_eq_true rfl, [], trivial, ?_⟩
  refine Exists.intro c (And.intro rfl (And.intro (fun h1 => ?_) (fun h1 => ?_)))
  · refine And.intro (fun h2 => by exfalso; omega) (fun h2 => ?_)
    refine And.intro (by omega) (fun v3 e4 => ?_)
    refine Exists.intro v3 (Exists.intro 5 (And.intro rfl (And.intro (fun h5 => ?_) (fun h5 => ?_))))
    · refine And.intro (fun h6 => by exfalso; omega) (fun h6 => ?_)
      exact And.intro (by omega) (hK.1 (by first | omega | (simp_all; done) | (simp_all; omega)))
    · refine And.intro (fun h7 => ?_) (fun h7 => by exfalso; omega)
      exact And.intro (by omega) (hK.2 (by first | omega | (simp_all; done) | (simp_all; omega)))
  · refine And.intro (fun h8 => ?_) (fun h8 => by exfalso; omega)
    exact And.intro (by omega) (hK.2 (by first | omega | (simp_all; done) | (simp_all; omega)))
def sC_isRipe : qS := fun as A K => ∃ c : Int, as = [rf 1, ni c] ∧ (iva IC A ∧ ivf JC A) ∧ (∀ r : Int, 0 ≤ r → r ≤ 1 → K (some (ni r)) A)
theorem okC_isRipe : okM LC 3 23 sC_isRipe := by
  refine qmeth [] false [(22, sC_hasCrop)] 26 rfl ⟨okC_hasCrop.le (by decide), trivial⟩ ?_
  rintro _ A K hA has ⟨c, rfl, ⟨i0, j0⟩, hK⟩
  have rg_c : rng c := has (ni c) (by simp)
  have f0 := frm_0 [] [] A
  refine ⟨Nat.le_of_ble_eq_true rfl, [], trivial, ?_⟩
  refine Exists.intro c (And.intro rfl (And.intro (fun h1 => ?_) (fun h1 => ?_)))
  · refine And.intro (fun h2 => by exfalso; omega) (fun h2 => ?_)
    refine And.intro (by omega) (fun v3 e4 => ?_)
    refine And.intro (by omega) (fun v5 e6 => ?_)
    have b7 := iva_at i0 0 rfl (i := c) (by omega) (by omega)
    refine And.intro (by omega) (fun v8 e9 => ?_)
    have b10 := iva_at i0 2 rfl (i := v5) (by omega) (by omega)
    refine And.intro (fun h11 => ?_) (fun h11 => ?_)
    · exact And.intro (by omega) (hK _ (by omega) (by omega))
    · exact And.intro (by omega) (hK _ (by omega) (by omega))
  · refine And.intro (fun h12 => ?_) (fun h12 => by exfalso; omega)
    exact And.intro (by omega) (hK _ (by omega) (by omega))
def sC_needOf : qS := fun as A K => ∃ c : Int, as = [rf 1, ni c] ∧ (iva IC A ∧ ivf JC A) ∧ (∀ r : Int, 0 ≤ r → r ≤ 20 → K (some (ni r)) A)
theorem okC_needOf : okM LC 3 24 sC_needOf := by
  refine qmeth [] false [(22, sC_hasCrop)] 20 rfl ⟨okC_hasCrop.le (by decide), trivial⟩ ?_
  rintro _ A K hA has ⟨c, rfl, ⟨i0, j0⟩, hK⟩
  have rg_c : rng c := has (ni c) (by simp)
  have f0 := frm_0 [] [] A
  refine ⟨Nat.le_of_ble_eq_true rfl, [], trivial, ?_⟩
  refine Exists.intro c (And.intro rfl (And.intro (fun h1 => ?_) (fun h1 => ?_)))
  · refine And.intro (fun h2 => by exfalso; omega) (fun h2 => ?_)
    refine And.intro (by omega) (fun v3 e4 => ?_)
    have b5 := iva_at i0 0 rfl (i := c) (by omega) (by omega)
    refine And.intro (by omega) (fun v6 e7 => ?_)
    have b8 := iva_at i0 1 rfl (i := v3) (by omega) (by omega)
    exact hK _ (by omega) (by omega)
  · refine And.intro (fun h9 => ?_) (fun h9 => by exfalso; omega)
    exact hK _ (by omega) (by omega)
def sC_setCrop : qS := fun as A K => ∃ c k w : Int, as = [rf 1, ni c, ni k, ni w] ∧ (iva IC A ∧ ivf JC A ∧ 0 ≤ c ∧ c ≤ 47 ∧ (-1) ≤ k ∧ k ≤ 5 ∧ 0 ≤ w ∧ w ≤ 200) ∧ (∀ A' : qA, iva IC A' → ivf JC A' → frm [6, 7, 10] [] A A' → K none A')
theorem okC_setCrop : okM LC 1 25 sC_setCrop := by
  refine qmeth [] false [] 22 rfl trivial ?_
  rintro _ A K hA has ⟨c, k, w, rfl, ⟨i0, j0, p1, p2, p3, p4, p5, p6⟩, hK⟩
  have rg_c : rng c := has (ni c) (by simp)
  have rg_k : rng k := has (ni k) (by simp)
  have rg_w : rng w := has (ni w) (by simp)
  have f0 := frm_0 [6, 7, 10] [] A
  refine ⟨Nat.le_of_ble_eq_true rfl, [], trivial, ?_⟩
  refine And.intro (by omega) (fun A7 e8 => ?_)
  have i9 := iva_st i0 e8 (And.intro (by omega) trivial)
  have j10 := ivf_sa j0 e8 rfl
  have f11 := frm_s f0 e8 rfl
  refine And.intro (by omega) (fun A12 e13 => ?_)
  have i14 := iva_st i9 e13 trivial
  have j15 := ivf_sa j10 e13 rfl
  have f16 := frm_s f11 e13 rfl
  refine And.intro (by omega) (And.intro (by omega) (fun A17 e18 => ?_))
  have i19 := iva_st i14 e18 trivial
  have j20 := ivf_sa j15 e18 rfl
  have f21 := frm_s f16 e18 rfl
  exact hK _ i19 j20 f21
def sC_crops : qS := fun as A K => as = [rf 1] ∧ (∀ r : Int, 0 ≤ r → r ≤ 48 → K (some (ni r)) A)
theorem okC_crops : okM LC 3 27 sC_crops := by
  refine qmeth [] false [(22, sC_hasCrop)] 22 rfl ⟨okC_hasCrop.le (by decide), trivial⟩ ?_
  rintro _ A K hA has ⟨rfl, hK⟩
  refine ⟨Nat.le_of_ble_eq_true rfl, [(4, [(0, 2, 1), (1, 0, 0), (2, 0, 0)], fun zs B n => match zs with | [a, c] => A = B ∧ n = (48 - c).toNat ∧ (0 ≤ c) ∧ (c ≤ 48) ∧ (0 ≤ a) ∧ (a ≤ c) | _ => False)], ?_, ?_⟩
  · refine ⟨⟨rfl, ?_⟩, trivial⟩
    · intro z B m hB hz hI
      obtain ⟨rfl, hm, c0, c1, c2, c3⟩ := hI
      obtain ⟨hz0, hz1, _⟩ := hz
      refine And.intro (fun h1 => ?_) (fun h1 => ?_)
      · exact hK _ (by omega) (by omega)
      · refine Exists.intro (z 1) (And.intro rfl (And.intro (fun h2 => ?_) (fun h2 => ?_)))
        · refine And.intro (fun h3 => by exfalso; omega) (fun h3 => ?_)
          refine fun v4 e5 => ?_
          refine fun v6 e7 => ?_
          exact And.intro (by omega) (And.intro (by omega) (Exists.intro (48 - v6).toNat (And.intro (by omega) (And.intro rfl (And.intro rfl (And.intro (by omega) (And.intro (by omega) (And.intro (by omega) (by omega)))))))))
        · refine And.intro (fun h8 => ?_) (fun h8 => by exfalso; omega)
          refine fun v9 e10 => ?_
          exact And.intro (by omega) (Exists.intro (48 - v9).toNat (And.intro (by omega) (And.intro rfl (And.intro rfl (And.intro (by omega) (And.intro (by omega) (And.intro (by omega) (by omega))))))))
  · exact Exists.intro (48 - 0).toNat (And.intro rfl (And.intro rfl (And.intro (by omega) (And.intro (by omega) (And.intro (by omega) (by omega))))))
