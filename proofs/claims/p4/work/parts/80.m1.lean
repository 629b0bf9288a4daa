def IM : List (Nat × Int × Int × Int) := [(1, 48, 0, 1), (2, 48, 0, 1), (7, 48, (-1), 5), (11, 6, 0, 20), (12, 6, 1, 200), (13, 6, 0, 99), (15, 8, 0, 7), (16, 8, 0, 9999), (20, 8, 0, 999), (21, 8, 0, 99), (22, 220, (-128), 127), (23, 220, 0, 2147483647), (24, 220, 0, 2147483647), (29, 220, 0, 2147483647), (38, 60, 0, 47), (39, 60, (-1), 5), (41, 60, 0, 6), (42, 60, (-1), 7), (45, 60, 0, 1), (46, 60, 0, 1), (47, 48, 0, 1), (50, 8, 0, 47), (51, 8, (-1), 5), (52, 8, (-1), 5), (60, 4, 0, 7), (61, 4, 0, 9), (62, 4, 0, 9), (26, 14, 0, 220), (27, 14, 0, 220), (28, 14, 0, 220), (31, 14, 0, 220), (32, 14, 0, 220), (33, 14, 0, 220)]
def JM : List (Nat × Nat × Int × Int) := [(0, 2, 0, 60), (0, 26, 0, 220), (0, 63, 0, 8), (0, 35, 0, 14), (0, 33, 0, 14), (0, 1, 0, 65535), (0, 27, 0, 200), (0, 28, 0, 200), (0, 31, 0, 220), (0, 32, 0, 220)]
/-- a stretch of the reference's code that is well made -/
def STEP (A : qA) (t : Int) (δ : Int → Int) (k : Int) : Prop := 0 ≤ δ k ∧ δ k ≤ 218 ∧ ((A 29 k / 1048576 = 0 ∧ δ (k + 1) = δ k + 1) ∨ (A 29 k / 1048576 = 1 ∧ A 29 k % 1048576 ≤ 13 ∧ δ (k + 1) = δ k + 1) ∨ (A 29 k / 1048576 = 10 ∧ 1 ≤ δ k ∧ δ (k + 1) = δ k) ∨ ((A 29 k / 1048576 = 11 ∨ A 29 k / 1048576 = 12) ∧ 1 ≤ δ k ∧ δ (k + 1) = δ k - 1 ∧ k < A 29 k % 1048576 ∧ A 29 k % 1048576 ≤ t ∧ δ (A 29 k % 1048576) = δ k) ∨ (2 ≤ A 29 k / 1048576 ∧ A 29 k / 1048576 ≤ 9 ∧ 2 ≤ δ k ∧ δ (k + 1) = δ k - 1))
def SG (A : qA) (f t : Int) (δ : Int → Int) : Prop := 0 ≤ f ∧ f ≤ 219 ∧ (f ≤ t ∧ t ≤ 220) ∧ δ f = 0 ∧ ∀ k, f ≤ k → k < t → STEP A t δ k
def SEG (A : qA) (f t : Int) : Prop := ∃ δ : Int → Int, SG A f t δ
theorem SEG_k {A A' : qA} {f t : Int} (h : SEG A f t) (e : A' 29 = A 29) : SEG A' f t := by
  obtain ⟨δ, a, b, c, d, h⟩ := h
  refine ⟨δ, a, b, c, d, fun k h0 h1 => ?_⟩
  have := h k h0 h1
  unfold STEP at this ⊢
  rw [e]
  exact this
def WF (A : qA) : Prop := ∀ q, 0 ≤ q → q < A 0 (fd 35) → SEG A (A 31 q) (A 32 q) ∧ SEG A (A 32 q) (A 33 q)
theorem WF_fr {W : List Nat} {V : List (Nat × Nat)} {A A' : qA} (h : WF A) (f : frm W V A A') (c : ((noW 29 W && noV 29 V) && (noW 31 W && noV 31 V) && (noW 32 W && noV 32 V) && (noW 33 W && noV 33 V) && (noW 0 W && noVf 0 35 V)) = true) : WF A' := by
  simp only [Bool.and_eq_true] at c
  obtain ⟨⟨⟨⟨⟨a1, a2⟩, ⟨b1, b2⟩⟩, ⟨c1, c2⟩⟩, ⟨d1, d2⟩⟩, ⟨e1, e2⟩⟩ := c
  intro q h0 h1
  rw [frm_f f (by rw [e1, e2]; rfl)] at h1
  rw [frm_a f (r := 31) (by rw [b1, b2]; rfl), frm_a f (r := 32) (by rw [c1, c2]; rfl), frm_a f (r := 33) (by rw [d1, d2]; rfl)]
  have e29 := frm_a f (r := 29) (by rw [a1, a2]; rfl)
  exact ⟨SEG_k (h q h0 h1).1 e29, SEG_k (h q h0 h1).2 e29⟩
def sM_in : qS := fun as A K => ∃ v a b : Int, as = [ni v, ni a, ni b] ∧ ((a ≤ v ∧ v ≤ b → K (some (ni 1)) A) ∧ (¬ (a ≤ v ∧ v ≤ b) → K (some (ni 0)) A))
theorem okM_in : okM LM 1 145 sM_in := by
  refine qmeth [] false [] 16 rfl trivial ?_
  rintro _ A K hA has ⟨v, a, b, rfl, hK⟩
  have rg_v : rng v := has (ni v) (by simp)
  have rg_a : rng a := has (ni a) (by simp)
  have rg_b : rng b := has (ni b) (by simp)
  refine ⟨Nat.le_of_ble_eq_true rfl, [], trivial, ?_⟩
  refine And.intro (fun h1 => ?_) (fun h1 => ?_)
  · exact And.intro (by omega) (hK.2 (by first | omega | (subst_vars; omega) | (simp_all; done) | (simp_all; omega)))
  · refine And.intro (fun h2 => ?_) (fun h2 => ?_)
    · exact And.intro (by omega) (hK.2 (by first | omega | (subst_vars; omega) | (simp_all; done) | (simp_all; omega)))
    · exact And.intro (by omega) (hK.1 (by first | omega | (subst_vars; omega) | (simp_all; done) | (simp_all; omega)))
def sM_less : qS := fun as A K => ∃ a b : Int, as = [ni a, ni b] ∧ (∀ r : Int, rng r → ((r = a ∧ a < b) ∨ (r = b ∧ b ≤ a)) → K (some (ni r)) A)
theorem okM_less : okM LM 1 146 sM_less := by
  refine qmeth [] false [] 13 rfl trivial ?_
  rintro _ A K hA has ⟨a, b, rfl, hK⟩
  have rg_a : rng a := has (ni a) (by simp)
  have rg_b : rng b := has (ni b) (by simp)
  refine ⟨Nat.le_of_ble_eq_true rfl, [], trivial, ?_⟩
  refine And.intro (fun h1 => ?_) (fun h1 => ?_)
  · exact hK _ (by first | exact wI_rng _ | omega | (exact (hA _ _).2 rfl)) (by first | assumption | omega | simp_all)
  · exact hK _ (by first | exact wI_rng _ | omega | (exact (hA _ _).2 rfl)) (by first | assumption | omega | simp_all)
def sM_more : qS := fun as A K => ∃ a b : Int, as = [ni a, ni b] ∧ (∀ r : Int, rng r → ((r = a ∧ b < a) ∨ (r = b ∧ a ≤ b)) → K (some (ni r)) A)
theorem okM_more : okM LM 1 147 sM_more := by
  refine qmeth [] false [] 13 rfl trivial ?_
  rintro _ A K hA has ⟨a, b, rfl, hK⟩
  have rg_a : rng a := has (ni a) (by simp)
  have rg_b : rng b := has (ni b) (by simp)
  refine ⟨Nat.le_of_ble_eq_true rfl, [], trivial, ?_⟩
  refine And.intro (fun h1 => ?_) (fun h1 => ?_)
  · exact hK _ (by first | exact wI_rng _ | omega | (exact (hA _ _).2 rfl)) (by first | assumption | omega | simp_all)
  · exact hK _ (by first | exact wI_rng _ | omega | (exact (hA _ _).2 rfl)) (by first | assumption | omega | simp_all)
def sM_isCell : qS := fun as A K => ∃ c l : Int, as = [ni c, ni l] ∧ (((0 ≤ c ∧ c ≤ 7) ∧ (0 ≤ l ∧ l ≤ 5) → K (some (ni 1)) A) ∧ (¬ ((0 ≤ c ∧ c ≤ 7) ∧ (0 ≤ l ∧ l ≤ 5)) → K (some (ni 0)) A))
theorem okM_isCell : okM LM 2 148 sM_isCell := by
  refine qmeth [] false [(145, sM_in)] 20 rfl ⟨okM_in.le (by decide), trivial⟩ ?_
  rintro _ A K hA has ⟨c, l, rfl, hK⟩
  have rg_c : rng c := has (ni c) (by simp)
  have rg_l : rng l := has (ni l) (by simp)
  refine ⟨Nat.le_of_ble_eq_true rfl, [], trivial, ?_⟩
  refine Exists.intro c (Exists.intro 0 (Exists.intro 7 (And.intro rfl (And.intro (fun h1 => ?_) (fun h1 => ?_)))))
  · refine And.intro (fun h2 => by exfalso; omega) (fun h2 => ?_)
    refine Exists.intro l (Exists.intro 0 (Exists.intro 5 (And.intro rfl (And.intro (fun h3 => ?_) (fun h3 => ?_)))))
    · refine And.intro (fun h4 => by exfalso; omega) (fun h4 => ?_)
      exact And.intro (by omega) (hK.1 (by first | omega | (subst_vars; omega) | (simp_all; done) | (simp_all; omega)))
    · refine And.intro (fun h5 => ?_) (fun h5 => by exfalso; omega)
      exact And.intro (by omega) (hK.2 (by first | omega | (subst_vars; omega) | (simp_all; done) | (simp_all; omega)))
  · refine And.intro (fun h6 => ?_) (fun h6 => by exfalso; omega)
    exact And.intro (by omega) (hK.2 (by first | omega | (subst_vars; omega) | (simp_all; done) | (simp_all; omega)))
def sM_at : qS := fun as A K => ∃ c l : Int, as = [ni c, ni l] ∧ (0 ≤ c ∧ c ≤ 7 ∧ (-1) ≤ l ∧ l ≤ 5) ∧ (K (some (ni (6 * c + l))) A)
theorem okM_at : okM LM 1 149 sM_at := by
  refine qmeth [] false [] 12 rfl trivial ?_
  rintro _ A K hA has ⟨c, l, rfl, ⟨p1, p2, p3, p4⟩, hK⟩
  have rg_c : rng c := has (ni c) (by simp)
  have rg_l : rng l := has (ni l) (by simp)
  refine ⟨Nat.le_of_ble_eq_true rfl, [], trivial, ?_⟩
  refine fun v5 e6 => ?_
  refine fun v7 e8 => ?_
  refine And.intro (by omega) (?_)
  have hq : v7 = 6 * c + l := by first | rfl | omega | simp_all
  rw [hq]
  exact hK
def sM_isHung : qS := fun as A K => ∃ c l : Int, as = [rf 0, ni c, ni l] ∧ (iva IM A ∧ ivf JM A) ∧ (((0 ≤ c ∧ c ≤ 7) ∧ (0 ≤ l ∧ l ≤ 5) → K (some (ni 1)) A) ∧ (True → K (some (ni 0)) A))
theorem okM_isHung : okM LM 3 150 sM_isHung := by
  refine qmeth [] false [(148, sM_isCell), (149, sM_at)] 21 rfl ⟨okM_isCell.le (by decide), ⟨okM_at.le (by decide), trivial⟩⟩ ?_
  rintro _ A K hA has ⟨c, l, rfl, ⟨i0, j0⟩, hK⟩
  have rg_c : rng c := has (ni c) (by simp)
  have rg_l : rng l := has (ni l) (by simp)
  have f0 := frm_0 [] [] A
  refine ⟨Nat.le_of_ble_eq_true rfl, [], trivial, ?_⟩
  refine Exists.intro c (Exists.intro l (And.intro rfl (And.intro (fun h1 => ?_) (fun h1 => ?_))))
  · refine And.intro (fun h2 => by exfalso; omega) (fun h2 => ?_)
    refine Exists.intro c (Exists.intro l (And.intro rfl (And.intro (And.intro (by omega) (And.intro (by omega) (And.intro (by omega) (by omega)))) ?_)))
    refine And.intro (by omega) (fun v3 gv3 e4 => ?_)
    have b5 := iva_at i0 0 rfl (i := (6 * c + l)) (by omega) (by omega)
    refine And.intro (fun h6 => ?_) (fun h6 => ?_)
    · exact And.intro (by omega) (hK.2 (by first | omega | (subst_vars; omega) | (simp_all; done) | (simp_all; omega)))
    · exact And.intro (by omega) (hK.1 (by first | omega | (subst_vars; omega) | (simp_all; done) | (simp_all; omega)))
  · refine And.intro (fun h7 => ?_) (fun h7 => by exfalso; omega)
    exact And.intro (by omega) (hK.2 (by first | omega | (subst_vars; omega) | (simp_all; done) | (simp_all; omega)))
def sM_empties : qS := fun as A K => ∃ c : Int, as = [rf 0, ni c] ∧ (iva IM A ∧ ivf JM A ∧ 0 ≤ c ∧ c ≤ 47) ∧ (∀ A' : qA, iva IM A' → ivf JM A' → frm [7, 8, 2] [] A A' → K none A')
theorem okM_empties : okM LM 1 152 sM_empties := by
  refine qmeth [] false [] 22 rfl trivial ?_
  rintro _ A K hA has ⟨c, rfl, ⟨i0, j0, p1, p2⟩, hK⟩
  have rg_c : rng c := has (ni c) (by simp)
  have f0 := frm_0 [7, 8, 2] [] A
  refine ⟨Nat.le_of_ble_eq_true rfl, [], trivial, ?_⟩
  refine And.intro (by omega) (fun A3 e4 => ?_)
  have i5 := iva_st i0 e4 (And.intro (by omega) trivial)
  have j6 := ivf_sa j0 e4 rfl
  have f7 := frm_s f0 e4 rfl
  refine And.intro (by omega) (fun A8 e9 => ?_)
  have i10 := iva_st i5 e9 trivial
  have j11 := ivf_sa j6 e9 rfl
  have f12 := frm_s f7 e9 rfl
  refine And.intro (by omega) (And.intro (by omega) (fun A13 e14 => ?_))
  have i15 := iva_st i10 e14 (And.intro (by omega) trivial)
  have j16 := ivf_sa j11 e14 rfl
  have f17 := frm_s f12 e14 rfl
  exact hK _ i15 j16 f17
def sM_hang : qS := fun as A K => ∃ c l s n f w : Int, as = [rf 0, ni c, ni l, ni s, ni n, ni f, ni w] ∧ (iva IM A ∧ ivf JM A) ∧ (∀ A' : qA, iva IM A' → ivf JM A' → frm [1, 4, 3, 5, 6, 7, 8, 2, 9, 10] [] A A' → ∀ r : Int, 0 ≤ r → r ≤ 1 → K (some (ni r)) A')
theorem okM_hang : okM LM 3 151 sM_hang := by
  refine qmeth [] false [(148, sM_isCell), (145, sM_in), (149, sM_at), (152, sM_empties)] 94 rfl ⟨okM_isCell.le (by decide), ⟨okM_in.le (by decide), ⟨okM_at.le (by decide), ⟨okM_empties.le (by decide), trivial⟩⟩⟩⟩ ?_
  rintro _ A K hA has ⟨c, l, s, n, f, w, rfl, ⟨i0, j0⟩, hK⟩
  have rg_c : rng c := has (ni c) (by simp)
  have rg_l : rng l := has (ni l) (by simp)
  have rg_s : rng s := has (ni s) (by simp)
  have rg_n : rng n := has (ni n) (by simp)
  have rg_f : rng f := has (ni f) (by simp)
  have rg_w : rng w := has (ni w) (by simp)
  have f0 := frm_0 [1, 4, 3, 5, 6, 7, 8, 2, 9, 10] [] A
  refine ⟨Nat.le_of_ble_eq_true rfl, [], trivial, ?_⟩
  refine Exists.intro c (Exists.intro l (And.intro rfl (And.intro (fun h1 => ?_) (fun h1 => ?_))))
  · refine And.intro (fun h2 => by exfalso; omega) (fun h2 => ?_)
    refine Exists.intro s (Exists.intro 0 (Exists.intro 9 (And.intro rfl (And.intro (fun h3 => ?_) (fun h3 => ?_)))))
    · refine And.intro (fun h4 => by exfalso; omega) (fun h4 => ?_)
      refine Exists.intro n (Exists.intro 0 (Exists.intro 9999 (And.intro rfl (And.intro (fun h5 => ?_) (fun h5 => ?_)))))
      · refine And.intro (fun h6 => by exfalso; omega) (fun h6 => ?_)
        refine Exists.intro f (Exists.intro 0 (Exists.intro 7 (And.intro rfl (And.intro (fun h7 => ?_) (fun h7 => ?_)))))
        · refine And.intro (fun h8 => by exfalso; omega) (fun h8 => ?_)
          refine Exists.intro w (Exists.intro 0 (Exists.intro 3 (And.intro rfl (And.intro (fun h9 => ?_) (fun h9 => ?_)))))
          · refine And.intro (fun h10 => by exfalso; omega) (fun h10 => ?_)
            refine Exists.intro c (Exists.intro l (And.intro rfl (And.intro (And.intro (by omega) (And.intro (by omega) (And.intro (by omega) (by omega)))) ?_)))
            refine And.intro (by omega) (fun v11 gv11 e12 => ?_)
            have b13 := iva_at i0 0 rfl (i := (6 * c + l)) (by omega) (by omega)
            refine And.intro (fun h14 => ?_) (fun h14 => ?_)
            · exact And.intro (by omega) (hK _ i0 j0 f0 _ (by omega) (by omega))
            · refine And.intro (fun h15 => ?_) (fun h15 => ?_)
              · refine Exists.intro c (Exists.intro l (And.intro rfl (And.intro (And.intro (by omega) (And.intro (by omega) (And.intro (by omega) (by omega)))) ?_)))
                refine And.intro (by omega) (And.intro (by omega) (fun A16 e17 => ?_))
                have i18 := iva_st i0 e17 (And.intro (by omega) trivial)
                have j19 := ivf_sa j0 e17 rfl
                have f20 := frm_s f0 e17 rfl
                refine And.intro (by omega) (fun A21 e22 => ?_)
                have i23 := iva_st i18 e22 trivial
                have j24 := ivf_sa j19 e22 rfl
                have f25 := frm_s f20 e22 rfl
                refine And.intro (by omega) (fun A26 e27 => ?_)
                have i28 := iva_st i23 e27 trivial
                have j29 := ivf_sa j24 e27 rfl
                have f30 := frm_s f25 e27 rfl
                refine And.intro (by omega) (fun A31 e32 => ?_)
                have i33 := iva_st i28 e32 trivial
                have j34 := ivf_sa j29 e32 rfl
                have f35 := frm_s f30 e32 rfl
                refine And.intro (by omega) (fun A36 e37 => ?_)
                have i38 := iva_st i33 e37 trivial
                have j39 := ivf_sa j34 e37 rfl
                have f40 := frm_s f35 e37 rfl
                refine Exists.intro (6 * c + l) (And.intro rfl (And.intro (And.intro i38 (And.intro j39 (And.intro (by omega) (by omega)))) (fun A41 i42 j43 f44 => ?_)))
                have f45 := frm_c f40 f44 rfl
                refine And.intro (by omega) (fun A46 e47 => ?_)
                have i48 := iva_st i42 e47 trivial
                have j49 := ivf_sa j43 e47 rfl
                have f50 := frm_s f45 e47 rfl
                refine And.intro (by omega) (fun A51 e52 => ?_)
                have i53 := iva_st i48 e52 trivial
                have j54 := ivf_sa j49 e52 rfl
                have f55 := frm_s f50 e52 rfl
                exact And.intro (by omega) (hK _ i53 j54 f55 _ (by omega) (by omega))
              · refine fun v56 e57 => ?_
                refine And.intro (by omega) (Exists.intro c (Exists.intro v56 (And.intro rfl (And.intro (And.intro (by omega) (And.intro (by omega) (And.intro (by omega) (by omega)))) ?_))))
                refine And.intro (by omega) (fun v58 gv58 e59 => ?_)
                have b60 := iva_at i0 0 rfl (i := (6 * c + v56)) (by omega) (by omega)
                refine And.intro (fun h61 => ?_) (fun h61 => ?_)
                · refine Exists.intro c (Exists.intro l (And.intro rfl (And.intro (And.intro (by omega) (And.intro (by omega) (And.intro (by omega) (by omega)))) ?_)))
                  refine And.intro (by omega) (And.intro (by omega) (fun A62 e63 => ?_))
                  have i64 := iva_st i0 e63 (And.intro (by omega) trivial)
                  have j65 := ivf_sa j0 e63 rfl
                  have f66 := frm_s f0 e63 rfl
                  refine And.intro (by omega) (fun A67 e68 => ?_)
                  have i69 := iva_st i64 e68 trivial
                  have j70 := ivf_sa j65 e68 rfl
                  have f71 := frm_s f66 e68 rfl
                  refine And.intro (by omega) (fun A72 e73 => ?_)
                  have i74 := iva_st i69 e73 trivial
                  have j75 := ivf_sa j70 e73 rfl
                  have f76 := frm_s f71 e73 rfl
                  refine And.intro (by omega) (fun A77 e78 => ?_)
                  have i79 := iva_st i74 e78 trivial
                  have j80 := ivf_sa j75 e78 rfl
                  have f81 := frm_s f76 e78 rfl
                  refine And.intro (by omega) (fun A82 e83 => ?_)
                  have i84 := iva_st i79 e83 trivial
                  have j85 := ivf_sa j80 e83 rfl
                  have f86 := frm_s f81 e83 rfl
                  refine Exists.intro (6 * c + l) (And.intro rfl (And.intro (And.intro i84 (And.intro j85 (And.intro (by omega) (by omega)))) (fun A87 i88 j89 f90 => ?_)))
                  have f91 := frm_c f86 f90 rfl
                  refine And.intro (by omega) (fun A92 e93 => ?_)
                  have i94 := iva_st i88 e93 trivial
                  have j95 := ivf_sa j89 e93 rfl
                  have f96 := frm_s f91 e93 rfl
                  refine And.intro (by omega) (fun A97 e98 => ?_)
                  have i99 := iva_st i94 e98 trivial
                  have j100 := ivf_sa j95 e98 rfl
                  have f101 := frm_s f96 e98 rfl
                  exact And.intro (by omega) (hK _ i99 j100 f101 _ (by omega) (by omega))
                · exact And.intro (by omega) (hK _ i0 j0 f0 _ (by omega) (by omega))
          · refine And.intro (fun h102 => ?_) (fun h102 => by exfalso; omega)
            exact And.intro (by omega) (hK _ i0 j0 f0 _ (by omega) (by omega))
        · refine And.intro (fun h103 => ?_) (fun h103 => by exfalso; omega)
          exact And.intro (by omega) (hK _ i0 j0 f0 _ (by omega) (by omega))
      · refine And.intro (fun h104 => ?_) (fun h104 => by exfalso; omega)
        exact And.intro (by omega) (hK _ i0 j0 f0 _ (by omega) (by omega))
    · refine And.intro (fun h105 => ?_) (fun h105 => by exfalso; omega)
      exact And.intro (by omega) (hK _ i0 j0 f0 _ (by omega) (by omega))
  · refine And.intro (fun h106 => ?_) (fun h106 => by exfalso; omega)
    exact And.intro (by omega) (hK _ i0 j0 f0 _ (by omega) (by omega))
def sM_knot : qS := fun as A K => ∃ c l n : Int, as = [rf 0, ni c, ni l, ni n] ∧ (iva IM A ∧ ivf JM A) ∧ (∀ A' : qA, iva IM A' → ivf JM A' → frm [3] [] A A' → ∀ r : Int, 0 ≤ r → r ≤ 1 → K (some (ni r)) A')
theorem okM_knot : okM LM 4 153 sM_knot := by
  refine qmeth [] false [(150, sM_isHung), (145, sM_in), (149, sM_at)] 27 rfl ⟨okM_isHung.le (by decide), ⟨okM_in.le (by decide), ⟨okM_at.le (by decide), trivial⟩⟩⟩ ?_
  rintro _ A K hA has ⟨c, l, n, rfl, ⟨i0, j0⟩, hK⟩
  have rg_c : rng c := has (ni c) (by simp)
  have rg_l : rng l := has (ni l) (by simp)
  have rg_n : rng n := has (ni n) (by simp)
  have f0 := frm_0 [3] [] A
  refine ⟨Nat.le_of_ble_eq_true rfl, [], trivial, ?_⟩
  refine Exists.intro c (Exists.intro l (And.intro rfl (And.intro (And.intro i0 j0) (And.intro (fun h1 => ?_) (fun h1 => ?_)))))
  · refine And.intro (fun h2 => by exfalso; omega) (fun h2 => ?_)
    refine Exists.intro n (Exists.intro 0 (Exists.intro 9999 (And.intro rfl (And.intro (fun h3 => ?_) (fun h3 => ?_)))))
    · refine And.intro (fun h4 => ?_) (fun h4 => by exfalso; omega)
      refine Exists.intro c (Exists.intro l (And.intro rfl (And.intro (And.intro (by omega) (And.intro (by omega) (And.intro (by omega) (by omega)))) ?_)))
      refine And.intro (by omega) (fun A5 e6 => ?_)
      have i7 := iva_st i0 e6 trivial
      have j8 := ivf_sa j0 e6 rfl
      have f9 := frm_s f0 e6 rfl
      exact And.intro (by omega) (hK _ i7 j8 f9 _ (by omega) (by omega))
    · refine And.intro (fun h10 => by exfalso; omega) (fun h10 => ?_)
      exact And.intro (by omega) (hK _ i0 j0 f0 _ (by omega) (by omega))
  · refine And.intro (fun h11 => ?_) (fun h11 => by exfalso; omega)
    exact And.intro (by omega) (hK _ i0 j0 f0 _ (by omega) (by omega))
def sM_kind : qS := fun as A K => ∃ k n r w : Int, as = [rf 0, ni k, ni n, ni r, ni w] ∧ (iva IM A ∧ ivf JM A) ∧ (∀ A' : qA, iva IM A' → ivf JM A' → frm [11, 12, 13] [] A A' → ((0 ≤ k ∧ k ≤ 5) ∧ (0 ≤ n ∧ n ≤ 20) ∧ (1 ≤ r ∧ r ≤ 200) ∧ (0 ≤ w ∧ w ≤ 99) → K (some (ni 1)) A') ∧ (¬ ((0 ≤ k ∧ k ≤ 5) ∧ (0 ≤ n ∧ n ≤ 20) ∧ (1 ≤ r ∧ r ≤ 200) ∧ (0 ≤ w ∧ w ≤ 99)) → K (some (ni 0)) A'))
theorem okM_kind : okM LM 2 154 sM_kind := by
  refine qmeth [] false [(145, sM_in)] 45 rfl ⟨okM_in.le (by decide), trivial⟩ ?_
  rintro _ A K hA has ⟨k, n, r, w, rfl, ⟨i0, j0⟩, hK⟩
  have rg_k : rng k := has (ni k) (by simp)
  have rg_n : rng n := has (ni n) (by simp)
  have rg_r : rng r := has (ni r) (by simp)
  have rg_w : rng w := has (ni w) (by simp)
  have f0 := frm_0 [11, 12, 13] [] A
  refine ⟨Nat.le_of_ble_eq_true rfl, [], trivial, ?_⟩
  refine Exists.intro k (Exists.intro 0 (Exists.intro 5 (And.intro rfl (And.intro (fun h1 => ?_) (fun h1 => ?_)))))
  · refine And.intro (fun h2 => by exfalso; omega) (fun h2 => ?_)
    refine Exists.intro n (Exists.intro 0 (Exists.intro 20 (And.intro rfl (And.intro (fun h3 => ?_) (fun h3 => ?_)))))
    · refine And.intro (fun h4 => by exfalso; omega) (fun h4 => ?_)
      refine Exists.intro r (Exists.intro 1 (Exists.intro 200 (And.intro rfl (And.intro (fun h5 => ?_) (fun h5 => ?_)))))
      · refine And.intro (fun h6 => by exfalso; omega) (fun h6 => ?_)
        refine Exists.intro w (Exists.intro 0 (Exists.intro 99 (And.intro rfl (And.intro (fun h7 => ?_) (fun h7 => ?_)))))
        · refine And.intro (fun h8 => ?_) (fun h8 => by exfalso; omega)
          refine And.intro (by omega) (fun A9 e10 => ?_)
          have i11 := iva_st i0 e10 (And.intro (by omega) trivial)
          have j12 := ivf_sa j0 e10 rfl
          have f13 := frm_s f0 e10 rfl
          refine And.intro (by omega) (fun A14 e15 => ?_)
          have i16 := iva_st i11 e15 (And.intro (by omega) trivial)
          have j17 := ivf_sa j12 e15 rfl
          have f18 := frm_s f13 e15 rfl
          refine And.intro (by omega) (fun A19 e20 => ?_)
          have i21 := iva_st i16 e20 (And.intro (by omega) trivial)
          have j22 := ivf_sa j17 e20 rfl
          have f23 := frm_s f18 e20 rfl
          exact And.intro (by omega) ((hK _ i21 j22 f23).1 (by first | omega | (subst_vars; omega) | (simp_all; done) | (simp_all; omega)))
        · refine And.intro (fun h24 => by exfalso; omega) (fun h24 => ?_)
          exact And.intro (by omega) ((hK _ i0 j0 f0).2 (by first | omega | (subst_vars; omega) | (simp_all; done) | (simp_all; omega)))
      · refine And.intro (fun h25 => ?_) (fun h25 => by exfalso; omega)
        exact And.intro (by omega) ((hK _ i0 j0 f0).2 (by first | omega | (subst_vars; omega) | (simp_all; done) | (simp_all; omega)))
    · refine And.intro (fun h26 => ?_) (fun h26 => by exfalso; omega)
      exact And.intro (by omega) ((hK _ i0 j0 f0).2 (by first | omega | (subst_vars; omega) | (simp_all; done) | (simp_all; omega)))
  · refine And.intro (fun h27 => ?_) (fun h27 => by exfalso; omega)
    exact And.intro (by omega) ((hK _ i0 j0 f0).2 (by first | omega | (subst_vars; omega) | (simp_all; done) | (simp_all; omega)))
def sM_plant : qS := fun as A K => ∃ c l k w : Int, as = [rf 0, ni c, ni l, ni k, ni w] ∧ (iva IM A ∧ ivf JM A) ∧ (∀ A' : qA, iva IM A' → ivf JM A' → frm [7, 8] [] A A' → ∀ r : Int, 0 ≤ r → r ≤ 1 → K (some (ni r)) A')
theorem okM_plant : okM LM 4 155 sM_plant := by
  refine qmeth [] false [(150, sM_isHung), (149, sM_at), (145, sM_in)] 47 rfl ⟨okM_isHung.le (by decide), ⟨okM_at.le (by decide), ⟨okM_in.le (by decide), trivial⟩⟩⟩ ?_
  rintro _ A K hA has ⟨c, l, k, w, rfl, ⟨i0, j0⟩, hK⟩
  have rg_c : rng c := has (ni c) (by simp)
  have rg_l : rng l := has (ni l) (by simp)
  have rg_k : rng k := has (ni k) (by simp)
  have rg_w : rng w := has (ni w) (by simp)
  have f0 := frm_0 [7, 8] [] A
  refine ⟨Nat.le_of_ble_eq_true rfl, [], trivial, ?_⟩
  refine Exists.intro c (Exists.intro l (And.intro rfl (And.intro (And.intro i0 j0) (And.intro (fun h1 => ?_) (fun h1 => ?_)))))
  · refine And.intro (fun h2 => by exfalso; omega) (fun h2 => ?_)
    refine Exists.intro c (Exists.intro l (And.intro rfl (And.intro (And.intro (by omega) (And.intro (by omega) (And.intro (by omega) (by omega)))) ?_)))
    refine And.intro (by omega) (fun v3 gv3 e4 => ?_)
    have b5 := iva_at i0 2 rfl (i := (6 * c + l)) (by omega) (by omega)
    refine And.intro (fun h6 => ?_) (fun h6 => ?_)
    · exact And.intro (by omega) (hK _ i0 j0 f0 _ (by omega) (by omega))
    · refine Exists.intro k (Exists.intro 0 (Exists.intro 5 (And.intro rfl (And.intro (fun h7 => ?_) (fun h7 => ?_)))))
      · refine And.intro (fun h8 => by exfalso; omega) (fun h8 => ?_)
        refine Exists.intro w (Exists.intro 0 (Exists.intro 200 (And.intro rfl (And.intro (fun h9 => ?_) (fun h9 => ?_)))))
        · refine And.intro (fun h10 => ?_) (fun h10 => by exfalso; omega)
          refine Exists.intro c (Exists.intro l (And.intro rfl (And.intro (And.intro (by omega) (And.intro (by omega) (And.intro (by omega) (by omega)))) ?_)))
          refine And.intro (by omega) (fun A11 e12 => ?_)
          have i13 := iva_st i0 e12 (And.intro (by omega) trivial)
          have j14 := ivf_sa j0 e12 rfl
          have f15 := frm_s f0 e12 rfl
          refine Exists.intro c (Exists.intro l (And.intro rfl (And.intro (And.intro (by omega) (And.intro (by omega) (And.intro (by omega) (by omega)))) ?_)))
          refine And.intro (by omega) (fun A16 e17 => ?_)
          have i18 := iva_st i13 e17 trivial
          have j19 := ivf_sa j14 e17 rfl
          have f20 := frm_s f15 e17 rfl
          exact And.intro (by omega) (hK _ i18 j19 f20 _ (by omega) (by omega))
        · refine And.intro (fun h21 => by exfalso; omega) (fun h21 => ?_)
          exact And.intro (by omega) (hK _ i0 j0 f0 _ (by omega) (by omega))
      · refine And.intro (fun h22 => ?_) (fun h22 => by exfalso; omega)
        exact And.intro (by omega) (hK _ i0 j0 f0 _ (by omega) (by omega))
  · refine And.intro (fun h23 => ?_) (fun h23 => by exfalso; omega)
    exact And.intro (by omega) (hK _ i0 j0 f0 _ (by omega) (by omega))
def sM_valve : qS := fun as A K => ∃ c d : Int, as = [rf 0, ni c, ni d] ∧ (iva IM A ∧ ivf JM A) ∧ (∀ A' : qA, iva IM A' → ivf JM A' → frm [14] [] A A' → ((0 ≤ c ∧ c ≤ 7) ∧ (0 ≤ d ∧ d ≤ 99) → K (some (ni 1)) A') ∧ (¬ ((0 ≤ c ∧ c ≤ 7) ∧ (0 ≤ d ∧ d ≤ 99)) → K (some (ni 0)) A'))
theorem okM_valve : okM LM 2 156 sM_valve := by
  refine qmeth [] false [(145, sM_in)] 25 rfl ⟨okM_in.le (by decide), trivial⟩ ?_
  rintro _ A K hA has ⟨c, d, rfl, ⟨i0, j0⟩, hK⟩
  have rg_c : rng c := has (ni c) (by simp)
  have rg_d : rng d := has (ni d) (by simp)
  have f0 := frm_0 [14] [] A
  refine ⟨Nat.le_of_ble_eq_true rfl, [], trivial, ?_⟩
  refine Exists.intro c (Exists.intro 0 (Exists.intro 7 (And.intro rfl (And.intro (fun h1 => ?_) (fun h1 => ?_)))))
  · refine And.intro (fun h2 => by exfalso; omega) (fun h2 => ?_)
    refine Exists.intro d (Exists.intro 0 (Exists.intro 99 (And.intro rfl (And.intro (fun h3 => ?_) (fun h3 => ?_)))))
    · refine And.intro (fun h4 => ?_) (fun h4 => by exfalso; omega)
      refine And.intro (by omega) (fun A5 e6 => ?_)
      have i7 := iva_st i0 e6 trivial
      have j8 := ivf_sa j0 e6 rfl
      have f9 := frm_s f0 e6 rfl
      exact And.intro (by omega) ((hK _ i7 j8 f9).1 (by first | omega | (subst_vars; omega) | (simp_all; done) | (simp_all; omega)))
    · refine And.intro (fun h10 => by exfalso; omega) (fun h10 => ?_)
      exact And.intro (by omega) ((hK _ i0 j0 f0).2 (by first | omega | (subst_vars; omega) | (simp_all; done) | (simp_all; omega)))
  · refine And.intro (fun h11 => ?_) (fun h11 => by exfalso; omega)
    exact And.intro (by omega) ((hK _ i0 j0 f0).2 (by first | omega | (subst_vars; omega) | (simp_all; done) | (simp_all; omega)))
def sM_kitchen : qS := fun as A K => ∃ c o f : Int, as = [rf 0, ni c, ni o, ni f] ∧ (iva IM A ∧ ivf JM A) ∧ (∀ A' : qA, iva IM A' → ivf JM A' → frm [15, 16] [] A A' → ((0 ≤ c ∧ c ≤ 7) ∧ (0 ≤ o ∧ o ≤ 7) ∧ (0 ≤ f ∧ f ≤ 9999) → K (some (ni 1)) A') ∧ (¬ ((0 ≤ c ∧ c ≤ 7) ∧ (0 ≤ o ∧ o ≤ 7) ∧ (0 ≤ f ∧ f ≤ 9999)) → K (some (ni 0)) A'))
theorem okM_kitchen : okM LM 2 157 sM_kitchen := by
  refine qmeth [] false [(145, sM_in)] 35 rfl ⟨okM_in.le (by decide), trivial⟩ ?_
  rintro _ A K hA has ⟨c, o, f, rfl, ⟨i0, j0⟩, hK⟩
  have rg_c : rng c := has (ni c) (by simp)
  have rg_o : rng o := has (ni o) (by simp)
  have rg_f : rng f := has (ni f) (by simp)
  have f0 := frm_0 [15, 16] [] A
  refine ⟨Nat.le_of_ble_eq_true rfl, [], trivial, ?_⟩
  refine Exists.intro c (Exists.intro 0 (Exists.intro 7 (And.intro rfl (And.intro (fun h1 => ?_) (fun h1 => ?_)))))
  · refine And.intro (fun h2 => by exfalso; omega) (fun h2 => ?_)
    refine Exists.intro o (Exists.intro 0 (Exists.intro 7 (And.intro rfl (And.intro (fun h3 => ?_) (fun h3 => ?_)))))
    · refine And.intro (fun h4 => by exfalso; omega) (fun h4 => ?_)
      refine Exists.intro f (Exists.intro 0 (Exists.intro 9999 (And.intro rfl (And.intro (fun h5 => ?_) (fun h5 => ?_)))))
      · refine And.intro (fun h6 => ?_) (fun h6 => by exfalso; omega)
        refine And.intro (by omega) (fun A7 e8 => ?_)
        have i9 := iva_st i0 e8 (And.intro (by omega) trivial)
        have j10 := ivf_sa j0 e8 rfl
        have f11 := frm_s f0 e8 rfl
        refine And.intro (by omega) (fun A12 e13 => ?_)
        have i14 := iva_st i9 e13 (And.intro (by omega) trivial)
        have j15 := ivf_sa j10 e13 rfl
        have f16 := frm_s f11 e13 rfl
        exact And.intro (by omega) ((hK _ i14 j15 f16).1 (by first | omega | (subst_vars; omega) | (simp_all; done) | (simp_all; omega)))
      · refine And.intro (fun h17 => by exfalso; omega) (fun h17 => ?_)
        exact And.intro (by omega) ((hK _ i0 j0 f0).2 (by first | omega | (subst_vars; omega) | (simp_all; done) | (simp_all; omega)))
    · refine And.intro (fun h18 => ?_) (fun h18 => by exfalso; omega)
      exact And.intro (by omega) ((hK _ i0 j0 f0).2 (by first | omega | (subst_vars; omega) | (simp_all; done) | (simp_all; omega)))
  · refine And.intro (fun h19 => ?_) (fun h19 => by exfalso; omega)
    exact And.intro (by omega) ((hK _ i0 j0 f0).2 (by first | omega | (subst_vars; omega) | (simp_all; done) | (simp_all; omega)))
def sM_rope : qS := fun as A K => ∃ c b w : Int, as = [rf 0, ni c, ni b, ni w] ∧ (iva IM A ∧ ivf JM A) ∧ (∀ A' : qA, iva IM A' → ivf JM A' → frm [20, 21] [] A A' → ((0 ≤ c ∧ c ≤ 7) ∧ (0 ≤ b ∧ b ≤ 999) ∧ (0 ≤ w ∧ w ≤ 99) → K (some (ni 1)) A') ∧ (¬ ((0 ≤ c ∧ c ≤ 7) ∧ (0 ≤ b ∧ b ≤ 999) ∧ (0 ≤ w ∧ w ≤ 99)) → K (some (ni 0)) A'))
theorem okM_rope : okM LM 2 158 sM_rope := by
  refine qmeth [] false [(145, sM_in)] 35 rfl ⟨okM_in.le (by decide), trivial⟩ ?_
  rintro _ A K hA has ⟨c, b, w, rfl, ⟨i0, j0⟩, hK⟩
  have rg_c : rng c := has (ni c) (by simp)
  have rg_b : rng b := has (ni b) (by simp)
  have rg_w : rng w := has (ni w) (by simp)
  have f0 := frm_0 [20, 21] [] A
  refine ⟨Nat.le_of_ble_eq_true rfl, [], trivial, ?_⟩
  refine Exists.intro c (Exists.intro 0 (Exists.intro 7 (And.intro rfl (And.intro (fun h1 => ?_) (fun h1 => ?_)))))
  · refine And.intro (fun h2 => by exfalso; omega) (fun h2 => ?_)
    refine Exists.intro b (Exists.intro 0 (Exists.intro 999 (And.intro rfl (And.intro (fun h3 => ?_) (fun h3 => ?_)))))
    · refine And.intro (fun h4 => by exfalso; omega) (fun h4 => ?_)
      refine Exists.intro w (Exists.intro 0 (Exists.intro 99 (And.intro rfl (And.intro (fun h5 => ?_) (fun h5 => ?_)))))
      · refine And.intro (fun h6 => ?_) (fun h6 => by exfalso; omega)
        refine And.intro (by omega) (fun A7 e8 => ?_)
        have i9 := iva_st i0 e8 (And.intro (by omega) trivial)
        have j10 := ivf_sa j0 e8 rfl
        have f11 := frm_s f0 e8 rfl
        refine And.intro (by omega) (fun A12 e13 => ?_)
        have i14 := iva_st i9 e13 (And.intro (by omega) trivial)
        have j15 := ivf_sa j10 e13 rfl
        have f16 := frm_s f11 e13 rfl
        exact And.intro (by omega) ((hK _ i14 j15 f16).1 (by first | omega | (subst_vars; omega) | (simp_all; done) | (simp_all; omega)))
      · refine And.intro (fun h17 => by exfalso; omega) (fun h17 => ?_)
        exact And.intro (by omega) ((hK _ i0 j0 f0).2 (by first | omega | (subst_vars; omega) | (simp_all; done) | (simp_all; omega)))
    · refine And.intro (fun h18 => ?_) (fun h18 => by exfalso; omega)
      exact And.intro (by omega) ((hK _ i0 j0 f0).2 (by first | omega | (subst_vars; omega) | (simp_all; done) | (simp_all; omega)))
  · refine And.intro (fun h19 => ?_) (fun h19 => by exfalso; omega)
    exact And.intro (by omega) ((hK _ i0 j0 f0).2 (by first | omega | (subst_vars; omega) | (simp_all; done) | (simp_all; omega)))
def sM_seed : qS := fun as A K => ∃ x : Int, as = [rf 0, ni x] ∧ (iva IM A ∧ ivf JM A) ∧ (∀ A' : qA, iva IM A' → ivf JM A' → frm [] [(0, 1)] A A' → (0 ≤ x ∧ x ≤ 65535 → K (some (ni 1)) A') ∧ (¬ (0 ≤ x ∧ x ≤ 65535) → K (some (ni 0)) A'))
theorem okM_seed : okM LM 2 159 sM_seed := by
  refine qmeth [] false [(145, sM_in)] 18 rfl ⟨okM_in.le (by decide), trivial⟩ ?_
  rintro _ A K hA has ⟨x, rfl, ⟨i0, j0⟩, hK⟩
  have rg_x : rng x := has (ni x) (by simp)
  have f0 := frm_0 [] [(0, 1)] A
  refine ⟨Nat.le_of_ble_eq_true rfl, [], trivial, ?_⟩
  have k1 : qn 65535 = 65535 := by decide
  refine Exists.intro x (Exists.intro 0 (Exists.intro (qn 65535) (And.intro rfl (And.intro (fun h2 => ?_) (fun h2 => ?_)))))
  · refine And.intro (fun h3 => ?_) (fun h3 => by exfalso; omega)
    refine fun A4 e5 => ?_
    have i6 := iva_sf i0 e5 rfl
    have j7 := ivf_st j0 e5 (And.intro (by omega) trivial)
    have f8 := frm_sf f0 e5 rfl
    exact And.intro (by omega) ((hK _ i6 j7 f8).1 (by first | omega | (subst_vars; omega) | (simp_all; done) | (simp_all; omega)))
  · refine And.intro (fun h9 => by exfalso; omega) (fun h9 => ?_)
    exact And.intro (by omega) ((hK _ i0 j0 f0).2 (by first | omega | (subst_vars; omega) | (simp_all; done) | (simp_all; omega)))
def sM_types : qS := fun as A K => ∃ x : Int, as = [rf 0, ni x] ∧ (iva IM A ∧ ivf JM A ∧ (A 0 (fd 26) ≤ 216)) ∧ (∀ A' : qA, iva IM A' → ivf JM A' → frm [22] [(0, 26)] A A' → (A' 0 (fd 26) = A 0 (fd 26) + 4) → K none A')
theorem okM_types : okM LM 1 160 sM_types := by
  refine qmeth [] false [] 30 rfl trivial ?_
  rintro _ A K hA has ⟨x, rfl, ⟨i0, j0, p1⟩, hK⟩
  have rg_x : rng x := has (ni x) (by simp)
  have f0 := frm_0 [22] [(0, 26)] A
  have hb_0_26 := ivf_at j0 1 rfl
  refine ⟨Nat.le_of_ble_eq_true rfl, [(2, [(0, 2, 0), (1, 0, 0), (2, 0, 0)], fun zs B nn => match zs with | [l1, k] => iva IM B ∧ ivf JM B ∧ frm [22] [(0, 26)] A B ∧ nn = (k + 1 : Int).toNat ∧ (l1 = x) ∧ ((-1) ≤ k) ∧ (k ≤ 3) ∧ (B 0 (fd 26) = A 0 (fd 26) + 3 - k) | _ => False)], ?_, ?_⟩
  · refine ⟨⟨rfl, ?_⟩, trivial⟩
    · refine fun l1 k B mm hB hz hI => ?_
      obtain ⟨i1, j1, f1, hm, c0, c1, c2, c3⟩ := hI
      obtain ⟨hz_l1, hz_k, _⟩ := hz
      have hc_0_26 := ivf_at j1 1 rfl
      refine And.intro (fun h2 => ?_) (fun h2 => ?_)
      · exact hK _ i1 j1 f1 (by first | assumption | omega | simp_all)
      · refine fun v3 gv3 e4 => ?_
        have b5 := ivf_at j1 1 rfl
        refine fun v6 e7 => ?_
        refine fun v8 e9 => ?_
        refine fun v10 e11 => ?_
        have h12 := w8_bd v8
        refine And.intro (by omega) (And.intro (by omega) (fun A13 e14 => ?_))
        have i15 := iva_st i1 e14 (And.intro (by omega) trivial)
        have j16 := ivf_sa j1 e14 rfl
        have f17 := frm_s f1 e14 rfl
        have t18 : A13 0 (fd 26) = B 0 (fd 26) := (congrFun (st_a e14 rfl) _)
        refine fun v19 gv19 e20 => ?_
        have b21 := ivf_at j16 1 rfl
        have q22 : v3 = v19 := (e20.trans ((congrFun (st_a e14 rfl) _).trans e4.symm)).symm
        subst q22
        refine fun v23 e24 => ?_
        refine And.intro (by omega) (fun A25 e26 => ?_)
        have i27 := iva_sf i15 e26 rfl
        have j28 := ivf_st j16 e26 (And.intro (by omega) trivial)
        have f29 := frm_sf f17 e26 rfl
        have t30 := st_v e26
        refine fun v31 e32 => ?_
        exact And.intro (by omega) (Exists.intro (v31 + 1 : Int).toNat (And.intro (by omega) (And.intro i27 (And.intro j28 (And.intro f29 (And.intro rfl (And.intro (by omega) (And.intro (by omega) (And.intro (by omega) (by omega))))))))))
  · exact Exists.intro (3 + 1 : Int).toNat (And.intro i0 (And.intro j0 (And.intro f0 (And.intro rfl (And.intro (by omega) (And.intro (by omega) (And.intro (by omega) (by omega))))))))
