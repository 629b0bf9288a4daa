def sM_here : qS := fun as A K => as = [rf 0] ∧ (iva IM A ∧ ivf JM A) ∧ (∀ r : Int, (-1) ≤ r → r ≤ 255 → ((r < 0 ∧ A 0 (fd 28) ≤ A 0 (fd 27)) ∨ (A 0 (fd 27) < A 0 (fd 28) ∧ 0 ≤ r)) → K (some (ni r)) A)
theorem okM_here : okM LM 1 162 sM_here := by
  refine qmeth [] false [] 21 rfl trivial ?_
  rintro _ A K hA has ⟨rfl, ⟨i0, j0⟩, hK⟩
  have f0 := frm_0 [] [] A
  refine ⟨Nat.le_of_ble_eq_true rfl, [], trivial, ?_⟩
  refine fun v1 gv1 e2 => ?_
  have b3 := ivf_at j0 6 rfl
  refine fun v4 gv4 e5 => ?_
  have b6 := ivf_at j0 7 rfl
  refine And.intro (fun h7 => ?_) (fun h7 => ?_)
  · exact hK _ (by omega) (by omega) (by first | assumption | omega | simp_all)
  · refine fun v8 gv8 e9 => ?_
    have b10 := ivf_at j0 6 rfl
    have q11 : v1 = v8 := (e9.trans e2.symm).symm
    subst q11
    refine And.intro (by omega) (fun v12 gv12 e13 => ?_)
    have b14 := iva_at i0 10 rfl (i := v1) (by omega) (by omega)
    refine fun v15 e16 => ?_
    have h17 := ia_bd (a := v12) (b := 255) (by omega) (by omega)
    exact hK _ (by omega) (by omega) (by first | assumption | omega | simp_all)
def sM_isDigit : qS := fun as A K => as = [rf 0] ∧ (iva IM A ∧ ivf JM A) ∧ (∀ r : Int, 0 ≤ r → r ≤ 1 → (r = 0 ∨ A 0 (fd 27) < A 0 (fd 28)) → K (some (ni r)) A)
theorem okM_isDigit : okM LM 2 163 sM_isDigit := by
  refine qmeth [] false [(162, sM_here)] 18 rfl ⟨okM_here.le (by decide), trivial⟩ ?_
  rintro _ A K hA has ⟨rfl, ⟨i0, j0⟩, hK⟩
  have f0 := frm_0 [] [] A
  refine ⟨Nat.le_of_ble_eq_true rfl, [], trivial, ?_⟩
  refine And.intro rfl (And.intro (And.intro i0 j0) (fun r1 g3 g4 g2 => ?_))
  refine And.intro (fun h5 => ?_) (fun h5 => ?_)
  · exact And.intro (by omega) (hK _ (by omega) (by omega) (by first | assumption | omega | simp_all))
  · refine And.intro rfl (And.intro (And.intro i0 j0) (fun r6 g8 g9 g7 => ?_))
    refine And.intro (fun h10 => ?_) (fun h10 => ?_)
    · exact And.intro (by omega) (hK _ (by omega) (by omega) (by first | assumption | omega | simp_all))
    · exact And.intro (by omega) (hK _ (by omega) (by omega) (by first | assumption | omega | simp_all))
def sM_wrongAt : qS := fun as A K => ∃ w p : Int, as = [rf 0, ni w, ni p] ∧ (iva IM A ∧ ivf JM A ∧ 1 ≤ w ∧ w ≤ 5 ∧ 0 ≤ p ∧ p ≤ 200) ∧ (∀ A' : qA, iva IM A' → ivf JM A' → frm [] [(0, 29)] A A' → (True → K (some (ni 0)) A'))
theorem okM_wrongAt : okM LM 1 164 sM_wrongAt := by
  refine qmeth [] false [] 15 rfl trivial ?_
  rintro _ A K hA has ⟨w, p, rfl, ⟨i0, j0, p1, p2, p3, p4⟩, hK⟩
  have rg_w : rng w := has (ni w) (by simp)
  have rg_p : rng p := has (ni p) (by simp)
  have f0 := frm_0 [] [(0, 29)] A
  refine ⟨Nat.le_of_ble_eq_true rfl, [], trivial, ?_⟩
  refine fun v5 e6 => ?_
  refine fun v7 e8 => ?_
  refine And.intro (by omega) (fun A9 e10 => ?_)
  have i11 := iva_sf i0 e10 rfl
  have j12 := ivf_st j0 e10 trivial
  have f13 := frm_sf f0 e10 rfl
  exact And.intro (by omega) ((hK _ i11 j12 f13) (by first | omega | (subst_vars; omega) | (simp_all; done) | (simp_all; omega)))
def sM_takes : qS := fun as A K => ∃ c : Int, as = [rf 0, ni c] ∧ (iva IM A ∧ ivf JM A ∧ 0 ≤ c ∧ c ≤ 255) ∧ (∀ A' : qA, iva IM A' → ivf JM A' → frm [] [(0, 27), (0, 29)] A A' → ∀ r : Int, 0 ≤ r → r ≤ 1 → (A 0 (fd 27) ≤ A' 0 (fd 27)) → K (some (ni r)) A')
theorem okM_takes : okM LM 2 165 sM_takes := by
  refine qmeth [] false [(162, sM_here), (164, sM_wrongAt)] 24 rfl ⟨okM_here.le (by decide), ⟨okM_wrongAt.le (by decide), trivial⟩⟩ ?_
  rintro _ A K hA has ⟨c, rfl, ⟨i0, j0, p1, p2⟩, hK⟩
  have rg_c : rng c := has (ni c) (by simp)
  have f0 := frm_0 [] [(0, 27), (0, 29)] A
  have hb_0_27 := ivf_at j0 6 rfl
  have hb_0_28 := ivf_at j0 7 rfl
  refine ⟨Nat.le_of_ble_eq_true rfl, [], trivial, ?_⟩
  refine And.intro rfl (And.intro (And.intro i0 j0) (fun r3 g5 g6 g4 => ?_))
  refine And.intro (fun h7 => ?_) (fun h7 => ?_)
  · refine fun v8 gv8 e9 => ?_
    have b10 := ivf_at j0 6 rfl
    refine fun v11 e12 => ?_
    refine And.intro (by omega) (fun A13 e14 => ?_)
    have i15 := iva_sf i0 e14 rfl
    have j16 := ivf_st j0 e14 (And.intro (by omega) trivial)
    have f17 := frm_sf f0 e14 rfl
    have t18 := st_v e14
    have t19 : A13 0 (fd 28) = A 0 (fd 28) := (st_f e14 rfl)
    exact And.intro (by omega) (hK _ i15 j16 f17 _ (by omega) (by omega) (by first | assumption | omega | simp_all))
  · refine fun v20 gv20 e21 => ?_
    have b22 := ivf_at j0 6 rfl
    refine Exists.intro 1 (Exists.intro v20 (And.intro rfl (And.intro (And.intro i0 (And.intro j0 (And.intro (by omega) (And.intro (by omega) (And.intro (by omega) (by omega)))))) (fun A23 i24 j25 f26 => (fun h27 => ?_)))))
    · have f28 := frm_c f0 f26 rfl
      have t29 : A23 0 (fd 27) = A 0 (fd 27) := (frm_f f26 rfl)
      have t30 : A23 0 (fd 28) = A 0 (fd 28) := (frm_f f26 rfl)
      exact And.intro (by omega) (hK _ i24 j25 f28 _ (by omega) (by omega) (by first | assumption | omega | simp_all))
def sM_factOf : qS := fun as A K => ∃ c : Int, as = [ni c] ∧ (∀ r : Int, (-1) ≤ r → r ≤ 13 → (r = -1 ∨ 0 < c) → K (some (ni r)) A)
theorem okM_factOf : okM LM 1 170 sM_factOf := by
  refine qmeth [] false [] 38 rfl trivial ?_
  rintro _ A K hA has ⟨c, rfl, hK⟩
  have rg_c : rng c := has (ni c) (by simp)
  refine ⟨Nat.le_of_ble_eq_true rfl, [], trivial, ?_⟩
  refine (And.intro (fun h1 => ?_) (And.intro (fun h1 => ?_) (And.intro (fun h1 => ?_) (And.intro (fun h1 => ?_) (And.intro (fun h1 => ?_) (And.intro (fun h1 => ?_) (And.intro (fun h1 => ?_) (And.intro (fun h1 => ?_) (And.intro (fun h1 => ?_) (And.intro (fun h1 => ?_) (And.intro (fun h1 => ?_) (And.intro (fun h1 => ?_) (And.intro (fun h1 => ?_) (And.intro (fun h1 => ?_) (And.intro (fun h1 => ?_) (And.intro (fun h1 => ?_) (And.intro (fun h1 => ?_) (And.intro (fun h1 => ?_) (And.intro (fun h1 => ?_) (And.intro (fun h1 => ?_) (And.intro (fun h1 => ?_) (And.intro (fun h1 => ?_) (And.intro (fun h1 => ?_) (And.intro (fun h1 => ?_) (And.intro (fun h1 => ?_) trivial)))))))))))))))))))))))))
  · exact hK _ (by omega) (by omega) (by first | assumption | omega | simp_all)
  · exact hK _ (by omega) (by omega) (by first | assumption | omega | simp_all)
  · exact hK _ (by omega) (by omega) (by first | assumption | omega | simp_all)
  · exact hK _ (by omega) (by omega) (by first | assumption | omega | simp_all)
  · exact hK _ (by omega) (by omega) (by first | assumption | omega | simp_all)
  · exact hK _ (by omega) (by omega) (by first | assumption | omega | simp_all)
  · exact hK _ (by omega) (by omega) (by first | assumption | omega | simp_all)
  · exact hK _ (by omega) (by omega) (by first | assumption | omega | simp_all)
  · exact hK _ (by omega) (by omega) (by first | assumption | omega | simp_all)
  · exact hK _ (by omega) (by omega) (by first | assumption | omega | simp_all)
  · exact hK _ (by omega) (by omega) (by first | assumption | omega | simp_all)
  · exact hK _ (by omega) (by omega) (by first | assumption | omega | simp_all)
  · exact hK _ (by omega) (by omega) (by first | assumption | omega | simp_all)
  · exact hK _ (by omega) (by omega) (by first | assumption | omega | simp_all)
  · exact hK _ (by omega) (by omega) (by first | assumption | omega | simp_all)
  · exact hK _ (by omega) (by omega) (by first | assumption | omega | simp_all)
  · exact hK _ (by omega) (by omega) (by first | assumption | omega | simp_all)
  · exact hK _ (by omega) (by omega) (by first | assumption | omega | simp_all)
  · exact hK _ (by omega) (by omega) (by first | assumption | omega | simp_all)
  · exact hK _ (by omega) (by omega) (by first | assumption | omega | simp_all)
  · exact hK _ (by omega) (by omega) (by first | assumption | omega | simp_all)
  · exact hK _ (by omega) (by omega) (by first | assumption | omega | simp_all)
  · exact hK _ (by omega) (by omega) (by first | assumption | omega | simp_all)
  · exact hK _ (by omega) (by omega) (by first | assumption | omega | simp_all)
  · exact hK _ (by omega) (by omega) (by first | assumption | omega | simp_all)
def sM_sumSign : qS := fun as A K => ∃ c : Int, as = [ni c] ∧ (∀ r : Int, (-1) ≤ r → r ≤ 6 → (r = -1 ∨ (2 ≤ r ∧ 0 < c)) → K (some (ni r)) A)
theorem okM_sumSign : okM LM 1 171 sM_sumSign := by
  refine qmeth [] false [] 33 rfl trivial ?_
  rintro _ A K hA has ⟨c, rfl, hK⟩
  have rg_c : rng c := has (ni c) (by simp)
  refine ⟨Nat.le_of_ble_eq_true rfl, [], trivial, ?_⟩
  refine And.intro (fun h1 => ?_) (fun h1 => ?_)
  · refine And.intro (fun h2 => ?_) (fun h2 => ?_)
    · refine And.intro (fun h3 => ?_) (fun h3 => ?_)
      · refine And.intro (fun h4 => ?_) (fun h4 => ?_)
        · refine And.intro (fun h5 => ?_) (fun h5 => ?_)
          · exact hK _ (by omega) (by omega) (by first | assumption | omega | simp_all)
          · exact hK _ (by omega) (by omega) (by first | assumption | omega | simp_all)
        · exact hK _ (by omega) (by omega) (by first | assumption | omega | simp_all)
      · exact hK _ (by omega) (by omega) (by first | assumption | omega | simp_all)
    · exact hK _ (by omega) (by omega) (by first | assumption | omega | simp_all)
  · exact hK _ (by omega) (by omega) (by first | assumption | omega | simp_all)
def sM_canBegin : qS := fun as A K => ∃ c : Int, as = [ni c] ∧ (∀ r : Int, 0 ≤ r → r ≤ 1 → (r = 0 ∨ 0 < c) → K (some (ni r)) A)
theorem okM_canBegin : okM LM 1 181 sM_canBegin := by
  refine qmeth [] false [] 28 rfl trivial ?_
  rintro _ A K hA has ⟨c, rfl, hK⟩
  have rg_c : rng c := has (ni c) (by simp)
  refine ⟨Nat.le_of_ble_eq_true rfl, [], trivial, ?_⟩
  refine And.intro (fun h1 => ?_) (fun h1 => ?_)
  · exact And.intro (by omega) (hK _ (by omega) (by omega) (by first | assumption | omega | simp_all))
  · refine And.intro (fun h2 => ?_) (fun h2 => ?_)
    · exact And.intro (by omega) (hK _ (by omega) (by omega) (by first | assumption | omega | simp_all))
    · refine And.intro (fun h3 => ?_) (fun h3 => ?_)
      · exact And.intro (by omega) (hK _ (by omega) (by omega) (by first | assumption | omega | simp_all))
      · refine And.intro (fun h4 => ?_) (fun h4 => ?_)
        · exact And.intro (by omega) (hK _ (by omega) (by omega) (by first | assumption | omega | simp_all))
        · refine And.intro (fun h5 => ?_) (fun h5 => ?_)
          · exact And.intro (by omega) (hK _ (by omega) (by omega) (by first | assumption | omega | simp_all))
          · refine And.intro (fun h6 => ?_) (fun h6 => ?_)
            · exact And.intro (by omega) (hK _ (by omega) (by omega) (by first | assumption | omega | simp_all))
            · exact And.intro (by omega) (hK _ (by omega) (by omega) (by first | assumption | omega | simp_all))
