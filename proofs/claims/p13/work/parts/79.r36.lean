/-- what stood before stands still -/
def PF (b : Nat) (A A' : qA) : Prop := ∀ i, 0 ≤ i → i < A b (fd 8) → A' (b + 1) i = A (b + 1) i
theorem PF_rf (b : Nat) (A : qA) : PF b A A := fun _ _ _ => rfl
theorem PF_k {b : Nat} {A A1 A2 : qA} (h : PF b A A1) (e : A2 (b + 1) = A1 (b + 1)) : PF b A A2 := fun i h0 h1 => by rw [e]; exact h i h0 h1
theorem PF_tr {b : Nat} {A A1 A2 : qA} (h : PF b A A1) (h2 : PF b A1 A2) (hs : A b (fd 8) ≤ A1 b (fd 8)) : PF b A A2 := fun i h0 h1 => by rw [h2 i h0 (by (first | (clear hm hnf; omega) | omega))]; exact h i h0 h1
theorem KO_k {A A' : qA} (h : KO A) (e1 : A' 37 = A 37) (e2 : A' 38 = A 38) (e3 : A' 72 = A 72) (e4 : A' 73 = A 73) : KO A' := by
  unfold KO
  rw [e1, e2, e3, e4]
  exact h
theorem KO_o38 {A A' : qA} {j v : Int} (h : KO A) (e : A' = qu A 38 j v) (hj : A 37 j ≠ 107) : KO A' := by
  subst e
  refine ⟨fun i h0 h1 h2 => ?_, fun i h0 h1 h2 => ?_⟩
  · rw [qu_is] at h2 ⊢
    rw [if_neg (by (first | (clear hm hnf; omega) | omega))] at h2
    by_cases hij : i = j
    · rw [hij] at h2; exact absurd h2 hj
    · rw [if_neg (fun q => hij q.2)]; exact h.1 i h0 h1 h2
  · rw [qu_is] at h2 ⊢
    rw [if_neg (by (first | (clear hm hnf; omega) | omega))] at h2 ⊢
    exact h.2 i h0 h1 h2
theorem KO_o73 {A A' : qA} {j v : Int} (h : KO A) (e : A' = qu A 73 j v) (hj : A 72 j ≠ 107) : KO A' := by
  subst e
  refine ⟨fun i h0 h1 h2 => ?_, fun i h0 h1 h2 => ?_⟩
  · rw [qu_is] at h2 ⊢
    rw [if_neg (by (first | (clear hm hnf; omega) | omega))] at h2 ⊢
    exact h.1 i h0 h1 h2
  · rw [qu_is] at h2 ⊢
    rw [if_neg (by (first | (clear hm hnf; omega) | omega))] at h2
    by_cases hij : i = j
    · rw [hij] at h2; exact absurd h2 hj
    · rw [if_neg (fun q => hij q.2)]; exact h.2 i h0 h1 h2
theorem qone_p {s : Nat} {x : Int} (hx : rng x) : qone s x = 0 ∨ (0 < x ∧ 0 ≤ qix s x) := by
  unfold qone qix pv_one
  split
  · next h =>
    refine Or.inr ⟨?_, ?_⟩
    · have := Int32.lt_iff_toInt_lt.mp h.1
      rw [iI_to hx] at this
      exact this
    · exact Int32.le_iff_toInt_le.mp h.2
  · exact Or.inl rfl
theorem put_KO36 {A A1 A2 A3 : qA} {s g x v : Int} (h : KO A) (e1 : A1 = qu A 37 s g) (e2 : A2 = qu A1 38 s x) (e3 : A3 = qu A2 36 (fd 8) v) (hg : g = 107 → 0 ≤ x ∧ x ≤ 13) : KO A3 := by
  subst e3; subst e2; subst e1
  refine ⟨fun i h0 h1 h2 => ?_, fun i h0 h1 h2 => ?_⟩
  · simp only [qu_is] at h2 ⊢
    by_cases hi : i = s
    · subst hi
      simp at h2 ⊢
      exact hg h2
    · simp [hi] at h2 ⊢
      exact h.1 i h0 h1 h2
  · simp only [qu_is] at h2 ⊢
    simp at h2 ⊢
    exact h.2 i h0 h1 h2
theorem put_KO71 {A A1 A2 A3 : qA} {s g x v : Int} (h : KO A) (e1 : A1 = qu A 72 s g) (e2 : A2 = qu A1 73 s x) (e3 : A3 = qu A2 71 (fd 8) v) (hg : g = 107 → 0 ≤ x ∧ x ≤ 13) : KO A3 := by
  subst e3; subst e2; subst e1
  refine ⟨fun i h0 h1 h2 => ?_, fun i h0 h1 h2 => ?_⟩
  · simp only [qu_is] at h2 ⊢
    simp at h2 ⊢
    exact h.1 i h0 h1 h2
  · simp only [qu_is] at h2 ⊢
    by_cases hi : i = s
    · subst hi
      simp at h2 ⊢
      exact hg h2
    · simp [hi] at h2 ⊢
      exact h.2 i h0 h1 h2
theorem put_PF {b : Nat} {A A1 A2 A3 : qA} {s g x v : Int} (e1 : A1 = qu A (b + 1) s g) (e2 : A2 = qu A1 (b + 2) s x) (e3 : A3 = qu A2 b (fd 8) v) (hs : s = A b (fd 8)) : PF b A A3 ∧ A3 (b + 1) s = g := by
  have h1 : A3 (b + 1) = A1 (b + 1) := by
    rw [e3, qu_ne (by (first | (clear hm hnf; omega) | omega)), e2, qu_ne (by (first | (clear hm hnf; omega) | omega))]
  refine ⟨fun i h0 h2 => ?_, ?_⟩
  · rw [h1, e1, qu_nj (by (first | (clear hm hnf; omega) | omega))]
  · rw [h1, e1, qu_at]
def sC_isDigit : qS := fun as A K => ∃ x : Int, as = [ni x] ∧ ((48 ≤ x ∧ x ≤ 57 → K (some (ni 1)) A) ∧ (¬ (48 ≤ x ∧ x ≤ 57) → K (some (ni 0)) A))
theorem okC_isDigit : okM LC 1 60 sC_isDigit := by
  refine qmeth [] false [] 16 rfl trivial ?_
  rintro _ A K hA has ⟨x, rfl, hK⟩
  have rg_x : rng x := has (ni x) (by simp)
  refine ⟨Nat.le_of_ble_eq_true rfl, [], trivial, ?_⟩
  refine And.intro (fun h1 => ?_) (fun h1 => ?_)
  · exact And.intro (by (first | (clear hm hnf; omega) | omega)) (hK.2 (by first | omega | (subst_vars; omega) | (simp_all; done) | (simp_all; omega)))
  · refine And.intro (fun h2 => ?_) (fun h2 => ?_)
    · exact And.intro (by (first | (clear hm hnf; omega) | omega)) (hK.2 (by first | omega | (subst_vars; omega) | (simp_all; done) | (simp_all; omega)))
    · exact And.intro (by (first | (clear hm hnf; omega) | omega)) (hK.1 (by first | omega | (subst_vars; omega) | (simp_all; done) | (simp_all; omega)))
def fC_look_36 (A : qA) : Int := qlet (A 54 (fd 3)) fun v7 => qlet (A 54 (fd 3)) fun v11 => qlet (A 54 (fd 2)) fun v15 => (if v7 < v15 then qlet (A 54 (fd 3)) fun v19 => qlet (A 54 (fd 3)) fun v27 => qlet (A 53 v7) fun v31 => v31 else (-1))
def sC_look_36 : qS := fun as A K => as = [rf 54] ∧ (iva IC A ∧ ivf JC A ∧ (52 ≤ A 54 (fd 0) ∧ A 54 (fd 0) ≤ 52) ∧ (36 ≤ A 54 (fd 1) ∧ A 54 (fd 1) ≤ 36)) ∧ (∀ r : Int, (-1) ≤ r → r ≤ 255 → ((r < 0 ∧ A 54 (fd 2) ≤ A 54 (fd 3)) ∨ (A 54 (fd 3) < A 54 (fd 2) ∧ 0 ≤ r ∧ r = A 53 (A 54 (fd 3)))) → (r = fC_look_36 A) → K (some (ni r)) A)
theorem okC_look_36 : okM LC 1 46 sC_look_36 := by
  refine qmeth [(54, 0, 52), (54, 1, 36)] false [] 27 rfl trivial ?_
  rintro _ A K hA has ⟨rfl, ⟨i0, j0, p1, p2⟩, hK⟩
  have f0 := frm_0 [] [] A
  obtain ⟨v3, e4⟩ : ∃ v, v = A 54 (fd 0) := ⟨_, rfl⟩
  rw [← e4] at p1
  obtain ⟨v5, e6⟩ : ∃ v, v = A 54 (fd 1) := ⟨_, rfl⟩
  rw [← e6] at p2
  have hT : _ = fC_look_36 A := (fC_look_36.eq_1 A).symm
  refine ⟨Nat.le_of_ble_eq_true rfl, [], trivial, ?_⟩
  refine fun v7 gv7 e8 => ?_
  replace hT := qlc e8 hT
  have b9 := ivf_at j0 1 rfl
  refine And.intro (fun h10 => by exfalso; omega) (fun h10 => ?_)
  refine fun v11 gv11 e12 => ?_
  replace hT := qlc e12 hT
  have b13 := ivf_at j0 1 rfl
  have q14 : v7 = v11 := (e12.trans e8.symm).symm
  subst q14
  refine fun v15 gv15 e16 => ?_
  replace hT := qlc e16 hT
  have b17 := ivf_at j0 0 rfl
  refine And.intro (fun h18 => ?_) (fun h18 => ?_)
  · replace hT := (if_neg (Int.not_lt.mpr h18)).symm.trans hT
    exact hK _ (by (first | (clear hm hnf; omega) | omega)) (by (first | (clear hm hnf; omega) | omega)) (by first | omega | (subst_vars; omega)) hT
  · replace hT := (if_pos h18).symm.trans hT
    refine fun v19 gv19 e20 => ?_
    replace hT := qlc e20 hT
    have b21 := ivf_at j0 1 rfl
    have q22 : v7 = v19 := (e20.trans e12.symm).symm
    subst q22
    refine And.intro (fun h23 => by exfalso; omega) (fun h23 => ?_)
    obtain ⟨v24, e25⟩ : ∃ v, v = A 54 (fd 0) := ⟨_, rfl⟩
    have q26 : v3 = v24 := (e25.trans e4.symm).symm
    subst q26
    refine And.intro (show A 54 (fd 0) = ((52 : Nat) : Int) by (first | (clear hm hnf; omega) | omega)) ?_
    refine fun v27 gv27 e28 => ?_
    replace hT := qlc e28 hT
    have b29 := ivf_at j0 1 rfl
    have q30 : v7 = v27 := (e28.trans e20.symm).symm
    subst q30
    refine And.intro (by (first | (clear hm hnf; omega) | omega)) (fun v31 gv31 e32 => ?_)
    replace hT := qlc e32 hT
    have b33 := iva_at i0 26 rfl (i := v7) (by (first | (clear hm hnf; omega) | omega)) (by (first | (clear hm hnf; omega) | omega))
    exact hK _ (by (first | (clear hm hnf; omega) | omega)) (by (first | (clear hm hnf; omega) | omega)) (by first | omega | (subst_vars; omega)) hT
theorem pC_look_36 {A : qA} (hA : qokA LC A) (p0 : iva IC A) (p1 : ivf JC A) (p2 : (52 ≤ A 54 (fd 0) ∧ A 54 (fd 0) ≤ 52)) (p3 : (36 ≤ A 54 (fd 1) ∧ A 54 (fd 1) ≤ 36)) : ((-1) ≤ (fC_look_36 A) ∧ (fC_look_36 A) ≤ 255) ∧ (((fC_look_36 A) < 0 ∧ A 54 (fd 2) ≤ A 54 (fd 3)) ∨ (A 54 (fd 3) < A 54 (fd 2) ∧ 0 ≤ (fC_look_36 A) ∧ (fC_look_36 A) = A 53 (A 54 (fd 3)))) := by
  obtain ⟨r, B, hB, _, hk⟩ := okM_ex okC_look_36 (as := [rf 54]) (K := fun _ B => B = A ∧ ((-1) ≤ (fC_look_36 A) ∧ (fC_look_36 A) ≤ 255) ∧ (((fC_look_36 A) < 0 ∧ A 54 (fd 2) ≤ A 54 (fd 3)) ∨ (A 54 (fd 3) < A 54 (fd 2) ∧ 0 ≤ (fC_look_36 A) ∧ (fC_look_36 A) = A 53 (A 54 (fd 3))))) hA (qoks_c (show qok (rf _) from trivial) qoks_n) ⟨rfl, ⟨p0, p1, p2, p3⟩, fun r9 g8 g9 x0 x1 => (by rw [← x1]; exact ⟨rfl, ⟨g8, g9⟩, x0⟩)⟩
  exact hk.2
def fC_fail_36 (x : Int) (A : qA) : qA := qlet ((-1000) * x) fun v9 => qlet (A 54 (fd 3)) fun v11 => qlet (v9 - v11) fun v14 => qlet (qu A 54 (fd 4) v14) fun A16 => A16
def sC_fail_36 : qS := fun as A K => ∃ x : Int, as = [rf 54, ni x] ∧ (iva IC A ∧ ivf JC A ∧ 1 ≤ x ∧ x ≤ 5 ∧ (52 ≤ A 54 (fd 0) ∧ A 54 (fd 0) ≤ 52) ∧ (36 ≤ A 54 (fd 1) ∧ A 54 (fd 1) ≤ 36)) ∧ (∀ A' : qA, iva IC A' → ivf JC A' → frm [] [(54, 4)] A A' → (A' = fC_fail_36 x A) → (True → K (some (ni 0)) A'))
theorem okC_fail_36 : okM LC 1 47 sC_fail_36 := by
  refine qmeth [(54, 0, 52), (54, 1, 36)] false [] 16 rfl trivial ?_
  rintro _ A K hA has ⟨x, rfl, ⟨i0, j0, p1, p2, p3, p4⟩, hK⟩
  have rg_x : rng x := has (ni x) (by simp)
  have f0 := frm_0 [] [(54, 4)] A
  obtain ⟨v5, e6⟩ : ∃ v, v = A 54 (fd 0) := ⟨_, rfl⟩
  rw [← e6] at p3
  obtain ⟨v7, e8⟩ : ∃ v, v = A 54 (fd 1) := ⟨_, rfl⟩
  rw [← e8] at p4
  have hT : _ = fC_fail_36 x A := (fC_fail_36.eq_1 x A).symm
  refine ⟨Nat.le_of_ble_eq_true rfl, [], trivial, ?_⟩
  refine fun v9 e10 => ?_
  replace hT := qlc e10 hT
  refine fun v11 gv11 e12 => ?_
  replace hT := qlc e12 hT
  have b13 := ivf_at j0 1 rfl
  refine fun v14 e15 => ?_
  replace hT := qlc e15 hT
  refine And.intro (by (first | (clear hm hnf; omega) | omega)) (fun A16 e17 => ?_)
  replace hT := qlc e17 hT
  have i18 := iva_sf i0 e17 rfl
  have j19 := ivf_st j0 e17 trivial
  have f20 := frm_sf f0 e17 rfl
  exact And.intro (by (first | (clear hm hnf; omega) | omega)) ((hK _ i18 j19 f20 hT) (by first | omega | (subst_vars; omega) | (simp_all; done) | (simp_all; omega)))
theorem pC_fail_36 {x : Int} {A : qA} (hA : qokA LC A) (p0 : iva IC A) (p1 : ivf JC A) (p2 : 1 ≤ x) (p3 : x ≤ 5) (p4 : (52 ≤ A 54 (fd 0) ∧ A 54 (fd 0) ≤ 52)) (p5 : (36 ≤ A 54 (fd 1) ∧ A 54 (fd 1) ≤ 36)) : qokA LC (fC_fail_36 x A) ∧ iva IC (fC_fail_36 x A) ∧ ivf JC (fC_fail_36 x A) ∧ frm [] [(54, 4)] A (fC_fail_36 x A) := by
  obtain ⟨r, B, hB, _, hk⟩ := okM_ex okC_fail_36 (as := [rf 54, ni x]) (K := fun _ B => B = (fC_fail_36 x A) ∧ iva IC (fC_fail_36 x A) ∧ ivf JC (fC_fail_36 x A) ∧ frm [] [(54, 4)] A (fC_fail_36 x A)) hA (qoks_c (show qok (rf _) from trivial) (qoks_c (show rng x from ⟨by (first | (clear hm hnf; omega) | omega), by (first | (clear hm hnf; omega) | omega)⟩) qoks_n)) ⟨x, rfl, ⟨p0, p1, p2, p3, p4, p5⟩, fun A9 i9 j9 f9 x0 => (by rw [← x0]; exact fun _ => ⟨rfl, i9, j9, f9⟩)⟩
  exact ⟨hk.1 ▸ hB, hk.2⟩
def fC_expect_36 (c : Int) (A : qA) : Int × qA := qlet (fC_look_36 A) fun r17 => (if r17 = c then qlet (A 54 (fd 3)) fun v23 => qlet (v23 + 1) fun v26 => qlet (qu A 54 (fd 3) v26) fun A28 => (1, A28) else qlet (fC_fail_36 1 A) fun A44 => (0, A44))
def sC_expect_36 : qS := fun as A K => ∃ c : Int, as = [rf 54, ni c] ∧ (iva IC A ∧ ivf JC A ∧ 0 ≤ c ∧ c ≤ 255 ∧ (52 ≤ A 54 (fd 0) ∧ A 54 (fd 0) ≤ 52) ∧ (36 ≤ A 54 (fd 1) ∧ A 54 (fd 1) ≤ 36) ∧ (KO A) ∧ (A 36 (fd 8) ≤ A 54 (fd 3))) ∧ (∀ A' : qA, iva IC A' → ivf JC A' → frm [] [(54, 3), (54, 4)] A A' → ∀ r : Int, 0 ≤ r → r ≤ 1 → (A 54 (fd 3) ≤ A' 54 (fd 3)) → (r = (fC_expect_36 c A).1) → (A' = (fC_expect_36 c A).2) → K (some (ni r)) A')
theorem okC_expect_36 : okM LC 2 48 sC_expect_36 := by
  refine qmeth [(54, 0, 52), (54, 1, 36)] false [(46, sC_look_36), (47, sC_fail_36)] 22 rfl ⟨okC_look_36.le (by decide), ⟨okC_fail_36.le (by decide), trivial⟩⟩ ?_
  rintro _ A K hA has ⟨c, rfl, ⟨i0, j0, p1, p2, p3, p4, p5, p6⟩, hK⟩
  have rg_c : rng c := has (ni c) (by simp)
  have f0 := frm_0 [] [(54, 3), (54, 4)] A
  obtain ⟨v7, e8⟩ : ∃ v, v = A 54 (fd 0) := ⟨_, rfl⟩
  rw [← e8] at p3
  obtain ⟨v9, e10⟩ : ∃ v, v = A 54 (fd 1) := ⟨_, rfl⟩
  rw [← e10] at p4
  have pf0 := PF_rf 36 A
  have hb_36_8 := ivf_at j0 9 rfl
  have hb_54_3 := ivf_at j0 1 rfl
  have hb_54_2 := ivf_at j0 0 rfl
  have hT : _ = fC_expect_36 c A := (fC_expect_36.eq_1 c A).symm
  refine ⟨Nat.le_of_ble_eq_true rfl, [], trivial, ?_⟩
  obtain ⟨v11, e12⟩ : ∃ v, v = A 54 (fd 0) := ⟨_, rfl⟩
  have q13 : v7 = v11 := (e12.trans e8.symm).symm
  subst q13
  obtain ⟨v14, e15⟩ : ∃ v, v = A 54 (fd 1) := ⟨_, rfl⟩
  have q16 : v9 = v14 := (e15.trans e10.symm).symm
  subst q16
  refine And.intro rfl (And.intro (And.intro i0 (And.intro j0 (And.intro (by rw [← e12]; omega) (by rw [← e15]; omega)))) (fun r17 g20 g21 g18 g19 => ?_))
  replace hT := qlc g19 hT
  clear g19
  refine And.intro (fun h22 => ?_) (fun h22 => ?_)
  · replace hT := (if_pos h22).symm.trans hT
    refine fun v23 gv23 e24 => ?_
    replace hT := qlc e24 hT
    have b25 := ivf_at j0 1 rfl
    refine fun v26 e27 => ?_
    replace hT := qlc e27 hT
    refine And.intro (by (first | (clear hm hnf; omega) | omega)) (fun A28 e29 => ?_)
    replace hT := qlc e29 hT
    have i30 := iva_sf i0 e29 rfl
    have j31 := ivf_st j0 e29 (And.intro (by (first | (clear hm hnf; omega) | omega)) trivial)
    have f32 := frm_sf f0 e29 rfl
    have t33 : A28 36 (fd 8) = A 36 (fd 8) := (congrFun (st_a e29 rfl) _)
    have t34 := st_v e29
    have t35 : A28 54 (fd 2) = A 54 (fd 2) := (st_f e29 rfl)
    have kk36 := KO_k p5 (st_a e29 rfl) (st_a e29 rfl) (st_a e29 rfl) (st_a e29 rfl)
    have pf37 := PF_k pf0 (st_a e29 rfl)
    exact And.intro (by (first | (clear hm hnf; omega) | omega)) (hK _ i30 j31 f32 _ (by (first | (clear hm hnf; omega) | omega)) (by (first | (clear hm hnf; omega) | omega)) (by first | assumption | omega | simp_all) (congrArg Prod.fst hT) (congrArg Prod.snd hT))
  · replace hT := (if_neg h22).symm.trans hT
    obtain ⟨v38, e39⟩ : ∃ v, v = A 54 (fd 0) := ⟨_, rfl⟩
    have q40 : v7 = v38 := (e39.trans e12.symm).symm
    subst q40
    obtain ⟨v41, e42⟩ : ∃ v, v = A 54 (fd 1) := ⟨_, rfl⟩
    have q43 : v9 = v41 := (e42.trans e15.symm).symm
    subst q43
    refine Exists.intro 1 (And.intro rfl (And.intro (And.intro i0 (And.intro j0 (And.intro (by (first | (clear hm hnf; omega) | omega)) (And.intro (by (first | (clear hm hnf; omega) | omega)) (And.intro (by rw [← e39]; omega) (by rw [← e42]; omega)))))) (fun A44 i45 j46 f47 g48 => (fun h49 => ?_))))
    · replace hT := qlc g48 hT
      have f50 := frm_c f0 f47 rfl
      have t51 : A44 36 (fd 8) = A 36 (fd 8) := (frm_f f47 rfl)
      have t52 : A44 54 (fd 3) = A 54 (fd 3) := (frm_f f47 rfl)
      have t53 : A44 54 (fd 2) = A 54 (fd 2) := (frm_f f47 rfl)
      have kk54 := KO_fr p5 f47 rfl
      have pf55 := PF_k pf0 (frm_a f47 rfl)
      exact And.intro (by (first | (clear hm hnf; omega) | omega)) (hK _ i45 j46 f50 _ (by (first | (clear hm hnf; omega) | omega)) (by (first | (clear hm hnf; omega) | omega)) (by first | assumption | omega | simp_all) (congrArg Prod.fst hT) (congrArg Prod.snd hT))
theorem pC_expect_36 {c : Int} {A : qA} (hA : qokA LC A) (p0 : iva IC A) (p1 : ivf JC A) (p2 : 0 ≤ c) (p3 : c ≤ 255) (p4 : (52 ≤ A 54 (fd 0) ∧ A 54 (fd 0) ≤ 52)) (p5 : (36 ≤ A 54 (fd 1) ∧ A 54 (fd 1) ≤ 36)) (p6 : KO A) (p7 : A 36 (fd 8) ≤ A 54 (fd 3)) : qokA LC (fC_expect_36 c A).2 ∧ iva IC (fC_expect_36 c A).2 ∧ ivf JC (fC_expect_36 c A).2 ∧ frm [] [(54, 3), (54, 4)] A (fC_expect_36 c A).2 ∧ (0 ≤ (fC_expect_36 c A).1 ∧ (fC_expect_36 c A).1 ≤ 1) ∧ (A 54 (fd 3) ≤ (fC_expect_36 c A).2 54 (fd 3)) := by
  obtain ⟨r, B, hB, _, hk⟩ := okM_ex okC_expect_36 (as := [rf 54, ni c]) (K := fun _ B => B = (fC_expect_36 c A).2 ∧ iva IC (fC_expect_36 c A).2 ∧ ivf JC (fC_expect_36 c A).2 ∧ frm [] [(54, 3), (54, 4)] A (fC_expect_36 c A).2 ∧ (0 ≤ (fC_expect_36 c A).1 ∧ (fC_expect_36 c A).1 ≤ 1) ∧ (A 54 (fd 3) ≤ (fC_expect_36 c A).2 54 (fd 3))) hA (qoks_c (show qok (rf _) from trivial) (qoks_c (show rng c from ⟨by (first | (clear hm hnf; omega) | omega), by (first | (clear hm hnf; omega) | omega)⟩) qoks_n)) ⟨c, rfl, ⟨p0, p1, p2, p3, p4, p5, p6, p7⟩, fun A9 i9 j9 f9 r9 g8 g9 x0 x1 x2 => (by rw [← x2]; (try rw [← x1]); exact ⟨rfl, i9, j9, f9, ⟨g8, g9⟩, x0⟩)⟩
  exact ⟨hk.1 ▸ hB, hk.2⟩
def fC_enter_36 (d : Int) (A : qA) : qA := (if d < 6 then qlet (A 54 (fd 3)) fun v12 => qlet (v12 + 1) fun v15 => qlet (qu A 54 (fd 3) v15) fun A17 => A17 else qlet (fC_fail_36 5 A) fun A33 => A33)
def sC_enter_36 : qS := fun as A K => ∃ d : Int, as = [rf 54, ni d] ∧ (iva IC A ∧ ivf JC A ∧ 0 ≤ d ∧ d ≤ 6 ∧ (52 ≤ A 54 (fd 0) ∧ A 54 (fd 0) ≤ 52) ∧ (36 ≤ A 54 (fd 1) ∧ A 54 (fd 1) ≤ 36) ∧ (KO A) ∧ (A 54 (fd 3) < A 54 (fd 2))) ∧ (∀ A' : qA, iva IC A' → ivf JC A' → frm [] [(54, 3), (54, 4)] A A' → (A 54 (fd 3) ≤ A' 54 (fd 3)) → (d ≤ 5 → A' 54 (fd 3) = A 54 (fd 3) + 1) → (A' = fC_enter_36 d A) → (d ≤ 5 → K (some (ni 1)) A') ∧ (6 ≤ d → K (some (ni 0)) A'))
theorem okC_enter_36 : okM LC 2 49 sC_enter_36 := by
  refine qmeth [(54, 0, 52), (54, 1, 36)] false [(47, sC_fail_36)] 21 rfl ⟨okC_fail_36.le (by decide), trivial⟩ ?_
  rintro _ A K hA has ⟨d, rfl, ⟨i0, j0, p1, p2, p3, p4, p5, p6⟩, hK⟩
  have rg_d : rng d := has (ni d) (by simp)
  have f0 := frm_0 [] [(54, 3), (54, 4)] A
  obtain ⟨v7, e8⟩ : ∃ v, v = A 54 (fd 0) := ⟨_, rfl⟩
  rw [← e8] at p3
  obtain ⟨v9, e10⟩ : ∃ v, v = A 54 (fd 1) := ⟨_, rfl⟩
  rw [← e10] at p4
  have pf0 := PF_rf 36 A
  have hb_36_8 := ivf_at j0 9 rfl
  have hb_54_3 := ivf_at j0 1 rfl
  have hb_54_2 := ivf_at j0 0 rfl
  have hT : _ = fC_enter_36 d A := (fC_enter_36.eq_1 d A).symm
  refine ⟨Nat.le_of_ble_eq_true rfl, [], trivial, ?_⟩
  refine And.intro (fun h11 => ?_) (fun h11 => ?_)
  · replace hT := (if_pos h11).symm.trans hT
    refine fun v12 gv12 e13 => ?_
    replace hT := qlc e13 hT
    have b14 := ivf_at j0 1 rfl
    refine fun v15 e16 => ?_
    replace hT := qlc e16 hT
    refine And.intro (by (first | (clear hm hnf; omega) | omega)) (fun A17 e18 => ?_)
    replace hT := qlc e18 hT
    have i19 := iva_sf i0 e18 rfl
    have j20 := ivf_st j0 e18 (And.intro (by (first | (clear hm hnf; omega) | omega)) trivial)
    have f21 := frm_sf f0 e18 rfl
    have t22 : A17 36 (fd 8) = A 36 (fd 8) := (congrFun (st_a e18 rfl) _)
    have t23 := st_v e18
    have t24 : A17 54 (fd 2) = A 54 (fd 2) := (st_f e18 rfl)
    have kk25 := KO_k p5 (st_a e18 rfl) (st_a e18 rfl) (st_a e18 rfl) (st_a e18 rfl)
    have pf26 := PF_k pf0 (st_a e18 rfl)
    exact And.intro (by (first | (clear hm hnf; omega) | omega)) ((hK _ i19 j20 f21 (by first | assumption | omega | simp_all) (by first | assumption | omega | simp_all) hT).1 (by first | omega | (subst_vars; omega) | (simp_all; done) | (simp_all; omega)))
  · replace hT := (if_neg (Int.not_lt.mpr h11)).symm.trans hT
    obtain ⟨v27, e28⟩ : ∃ v, v = A 54 (fd 0) := ⟨_, rfl⟩
    have q29 : v7 = v27 := (e28.trans e8.symm).symm
    subst q29
    obtain ⟨v30, e31⟩ : ∃ v, v = A 54 (fd 1) := ⟨_, rfl⟩
    have q32 : v9 = v30 := (e31.trans e10.symm).symm
    subst q32
    refine Exists.intro 5 (And.intro rfl (And.intro (And.intro i0 (And.intro j0 (And.intro (by (first | (clear hm hnf; omega) | omega)) (And.intro (by (first | (clear hm hnf; omega) | omega)) (And.intro (by rw [← e28]; omega) (by rw [← e31]; omega)))))) (fun A33 i34 j35 f36 g37 => (fun h38 => ?_))))
    · replace hT := qlc g37 hT
      have f39 := frm_c f0 f36 rfl
      have t40 : A33 36 (fd 8) = A 36 (fd 8) := (frm_f f36 rfl)
      have t41 : A33 54 (fd 3) = A 54 (fd 3) := (frm_f f36 rfl)
      have t42 : A33 54 (fd 2) = A 54 (fd 2) := (frm_f f36 rfl)
      have kk43 := KO_fr p5 f36 rfl
      have pf44 := PF_k pf0 (frm_a f36 rfl)
      exact And.intro (by (first | (clear hm hnf; omega) | omega)) ((hK _ i34 j35 f39 (by first | assumption | omega | simp_all) (by first | assumption | omega | simp_all) hT).2 (by first | omega | (subst_vars; omega) | (simp_all; done) | (simp_all; omega)))
theorem pC_enter_36 {d : Int} {A : qA} (hA : qokA LC A) (p0 : iva IC A) (p1 : ivf JC A) (p2 : 0 ≤ d) (p3 : d ≤ 6) (p4 : (52 ≤ A 54 (fd 0) ∧ A 54 (fd 0) ≤ 52)) (p5 : (36 ≤ A 54 (fd 1) ∧ A 54 (fd 1) ≤ 36)) (p6 : KO A) (p7 : A 54 (fd 3) < A 54 (fd 2)) : qokA LC (fC_enter_36 d A) ∧ iva IC (fC_enter_36 d A) ∧ ivf JC (fC_enter_36 d A) ∧ frm [] [(54, 3), (54, 4)] A (fC_enter_36 d A) ∧ (A 54 (fd 3) ≤ (fC_enter_36 d A) 54 (fd 3)) ∧ (d ≤ 5 → (fC_enter_36 d A) 54 (fd 3) = A 54 (fd 3) + 1) := by
  obtain ⟨r, B, hB, _, hk⟩ := okM_ex okC_enter_36 (as := [rf 54, ni d]) (K := fun _ B => B = (fC_enter_36 d A) ∧ iva IC (fC_enter_36 d A) ∧ ivf JC (fC_enter_36 d A) ∧ frm [] [(54, 3), (54, 4)] A (fC_enter_36 d A) ∧ (A 54 (fd 3) ≤ (fC_enter_36 d A) 54 (fd 3)) ∧ (d ≤ 5 → (fC_enter_36 d A) 54 (fd 3) = A 54 (fd 3) + 1)) hA (qoks_c (show qok (rf _) from trivial) (qoks_c (show rng d from ⟨by (first | (clear hm hnf; omega) | omega), by (first | (clear hm hnf; omega) | omega)⟩) qoks_n)) ⟨d, rfl, ⟨p0, p1, p2, p3, p4, p5, p6, p7⟩, fun A9 i9 j9 f9 x0 x1 x2 => (by rw [← x2]; exact ⟨fun _ => ⟨rfl, i9, j9, f9, x0, x1⟩, fun _ => ⟨rfl, i9, j9, f9, x0, x1⟩⟩)⟩
  exact ⟨hk.1 ▸ hB, hk.2⟩
def fC_putr36 (g x : Int) (A : qA) : qA := qlet (A 36 (fd 8)) fun v6 => (if v6 < 200 then qlet (A 36 (fd 8)) fun v10 => qlet (qu A 37 v6 g) fun A14 => qlet (A14 36 (fd 8)) fun v19 => qlet (qu A14 38 v6 x) fun A23 => qlet (A23 36 (fd 8)) fun v28 => qlet (v6 + 1) fun v32 => qlet (qu A23 36 (fd 8) v32) fun A34 => A34 else A)
def sC_putr36 : qS := fun as A K => ∃ g x : Int, as = [rf 36, ni g, ni x] ∧ (iva IC A ∧ ivf JC A ∧ 0 ≤ x ∧ x ≤ 99999 ∧ (KO A) ∧ (A 36 (fd 8) ≤ 199) ∧ (g = 107 → x ≤ 13)) ∧ (∀ A' : qA, iva IC A' → ivf JC A' → frm [37, 38] [(36, 8)] A A' → (KO A') → (PF 36 A A') → (A' 36 (fd 8) = A 36 (fd 8) + 1) → (A' 37 (A 36 (fd 8)) = g) → (A' = fC_putr36 g x A) → K none A')
theorem okC_putr36 : okM LC 1 75 sC_putr36 := by
  refine qmeth [] false [] 29 rfl trivial ?_
  rintro _ A K hA has ⟨g, x, rfl, ⟨i0, j0, p1, p2, p3, p4, p5⟩, hK⟩
  have rg_g : rng g := has (ni g) (by simp)
  have rg_x : rng x := has (ni x) (by simp)
  have f0 := frm_0 [37, 38] [(36, 8)] A
  have hT : _ = fC_putr36 g x A := (fC_putr36.eq_1 g x A).symm
  refine ⟨Nat.le_of_ble_eq_true rfl, [], trivial, ?_⟩
  refine fun v6 gv6 e7 => ?_
  replace hT := qlc e7 hT
  have b8 := ivf_at j0 9 rfl
  refine And.intro (fun h9 => ?_) (fun h9 => ?_)
  · replace hT := (if_neg (Int.not_lt.mpr h9)).symm.trans hT
    first
    | (exfalso; omega)
    | (have zz := put_PF (b := 36) hE hE hE (by (first | (clear hm hnf; omega) | omega))
       exact hK _ i0 j0 f0 (put_KO36 p3 hE hE hE (by (first | (clear hm hnf; omega) | omega))) zz.1 (by rw [st_v hE]; omega) (by rw [show A 36 (fd 8) = _ from (by assumption : _ = A 36 (fd 8)).symm]; exact zz.2) hT)
  · replace hT := (if_pos h9).symm.trans hT
    refine fun v10 gv10 e11 => ?_
    replace hT := qlc e11 hT
    have b12 := ivf_at j0 9 rfl
    have q13 : v6 = v10 := (e11.trans e7.symm).symm
    subst q13
    refine And.intro (by (first | (clear hm hnf; omega) | omega)) (fun A14 e15 => ?_)
    replace hT := qlc e15 hT
    have i16 := iva_st i0 e15 trivial
    have j17 := ivf_sa j0 e15 rfl
    have f18 := frm_s f0 e15 rfl
    refine fun v19 gv19 e20 => ?_
    replace hT := qlc e20 hT
    have b21 := ivf_at j17 9 rfl
    have q22 : v6 = v19 := (e20.trans ((congrFun (st_a e15 rfl) _).trans e11.symm)).symm
    subst q22
    refine And.intro (by (first | (clear hm hnf; omega) | omega)) (fun A23 e24 => ?_)
    replace hT := qlc e24 hT
    have i25 := iva_st i16 e24 (And.intro (by (first | (clear hm hnf; omega) | omega)) trivial)
    have j26 := ivf_sa j17 e24 rfl
    have f27 := frm_s f18 e24 rfl
    refine fun v28 gv28 e29 => ?_
    replace hT := qlc e29 hT
    have b30 := ivf_at j26 9 rfl
    have q31 : v6 = v28 := (e29.trans ((congrFun (st_a e24 rfl) _).trans e20.symm)).symm
    subst q31
    refine fun v32 e33 => ?_
    replace hT := qlc e33 hT
    refine And.intro (by (first | (clear hm hnf; omega) | omega)) (fun A34 e35 => ?_)
    replace hT := qlc e35 hT
    have i36 := iva_sf i25 e35 rfl
    have j37 := ivf_st j26 e35 (And.intro (by (first | (clear hm hnf; omega) | omega)) trivial)
    have f38 := frm_sf f27 e35 rfl
    first
    | (exfalso; omega)
    | (have zz := put_PF (b := 36) e15 e24 e35 (by (first | (clear hm hnf; omega) | omega))
       exact hK _ i36 j37 f38 (put_KO36 p3 e15 e24 e35 (by (first | (clear hm hnf; omega) | omega))) zz.1 (by rw [st_v e35]; omega) (by rw [show A 36 (fd 8) = _ from (by assumption : _ = A 36 (fd 8)).symm]; exact zz.2) hT)
theorem pC_putr36 {g x : Int} {A : qA} (hA : qokA LC A) (rg_g : rng g) (p0 : iva IC A) (p1 : ivf JC A) (p2 : 0 ≤ x) (p3 : x ≤ 99999) (p4 : KO A) (p5 : A 36 (fd 8) ≤ 199) (p6 : g = 107 → x ≤ 13) : qokA LC (fC_putr36 g x A) ∧ iva IC (fC_putr36 g x A) ∧ ivf JC (fC_putr36 g x A) ∧ frm [37, 38] [(36, 8)] A (fC_putr36 g x A) ∧ (KO (fC_putr36 g x A)) ∧ (PF 36 A (fC_putr36 g x A)) ∧ ((fC_putr36 g x A) 36 (fd 8) = A 36 (fd 8) + 1) ∧ ((fC_putr36 g x A) 37 (A 36 (fd 8)) = g) := by
  obtain ⟨r, B, hB, _, hk⟩ := okM_ex okC_putr36 (as := [rf 36, ni g, ni x]) (K := fun _ B => B = (fC_putr36 g x A) ∧ iva IC (fC_putr36 g x A) ∧ ivf JC (fC_putr36 g x A) ∧ frm [37, 38] [(36, 8)] A (fC_putr36 g x A) ∧ (KO (fC_putr36 g x A)) ∧ (PF 36 A (fC_putr36 g x A)) ∧ ((fC_putr36 g x A) 36 (fd 8) = A 36 (fd 8) + 1) ∧ ((fC_putr36 g x A) 37 (A 36 (fd 8)) = g)) hA (qoks_c (show qok (rf _) from trivial) (qoks_c (rg_g) (qoks_c (show rng x from ⟨by (first | (clear hm hnf; omega) | omega), by (first | (clear hm hnf; omega) | omega)⟩) qoks_n))) ⟨g, x, rfl, ⟨p0, p1, p2, p3, p4, p5, p6⟩, fun A9 i9 j9 f9 x0 x1 x2 x3 x4 => (by rw [← x4]; exact ⟨rfl, i9, j9, f9, x0, x1, x2, x3⟩)⟩
  exact ⟨hk.1 ▸ hB, hk.2⟩
def fC_readJump_36 (A : qA) : Int × qA := qlet (A 36 (fd 8)) fun v14 => qlet (min v14 199) fun v17 => qlet (fC_look_36 A) fun r28 => qlet (fC_putr36 r28 0 A) fun A33 => qlet (A33 54 (fd 3)) fun v47 => qlet (v47 + 1) fun v50 => qlet (qu A33 54 (fd 3) v50) fun A52 => (v17, A52)
def sC_readJump_36 : qS := fun as A K => as = [rf 54] ∧ (iva IC A ∧ ivf JC A ∧ (52 ≤ A 54 (fd 0) ∧ A 54 (fd 0) ≤ 52) ∧ (36 ≤ A 54 (fd 1) ∧ A 54 (fd 1) ≤ 36) ∧ (KO A) ∧ (A 36 (fd 8) ≤ A 54 (fd 3)) ∧ (A 54 (fd 3) < A 54 (fd 2)) ∧ (A 53 (A 54 (fd 3)) ≠ 107)) ∧ (∀ A' : qA, iva IC A' → ivf JC A' → frm [37, 38] [(36, 8), (54, 3)] A A' → ∀ r : Int, 0 ≤ r → r ≤ 199 → (KO A') → (PF 36 A A') → (r = A 36 (fd 8)) → (A' 36 (fd 8) = r + 1) → (A' 54 (fd 3) = A 54 (fd 3) + 1) → (A' 37 r ≠ 107) → (r = (fC_readJump_36 A).1) → (A' = (fC_readJump_36 A).2) → K (some (ni r)) A')
theorem okC_readJump_36 : okM LC 2 54 sC_readJump_36 := by
  refine qmeth [(54, 0, 52), (54, 1, 36)] false [(46, sC_look_36), (75, sC_putr36)] 26 rfl ⟨okC_look_36.le (by decide), ⟨okC_putr36.le (by decide), trivial⟩⟩ ?_
  rintro _ A K hA has ⟨rfl, ⟨i0, j0, p1, p2, p3, p4, p5, p6⟩, hK⟩
  have f0 := frm_0 [37, 38] [(36, 8), (54, 3)] A
  obtain ⟨v7, e8⟩ : ∃ v, v = A 54 (fd 0) := ⟨_, rfl⟩
  rw [← e8] at p1
  obtain ⟨v9, e10⟩ : ∃ v, v = A 54 (fd 1) := ⟨_, rfl⟩
  rw [← e10] at p2
  have pf0 := PF_rf 36 A
  have hb_36_8 := ivf_at j0 9 rfl
  have hb_54_3 := ivf_at j0 1 rfl
  have hb_54_2 := ivf_at j0 0 rfl
  have hT : _ = fC_readJump_36 A := (fC_readJump_36.eq_1 A).symm
  refine ⟨Nat.le_of_ble_eq_true rfl, [], trivial, ?_⟩
  obtain ⟨v11, e12⟩ : ∃ v, v = A 54 (fd 1) := ⟨_, rfl⟩
  have q13 : v9 = v11 := (e12.trans e10.symm).symm
  subst q13
  refine And.intro (show A 54 (fd 1) = ((36 : Nat) : Int) by (first | (clear hm hnf; omega) | omega)) ?_
  refine fun v14 gv14 e15 => ?_
  replace hT := qlc e15 hT
  have b16 := ivf_at j0 9 rfl
  refine (fun v17 e18 => ?_)
  replace hT := qlc e18 hT
  obtain ⟨v19, e20⟩ : ∃ v, v = A 54 (fd 1) := ⟨_, rfl⟩
  have q21 : v9 = v19 := (e20.trans e12.symm).symm
  subst q21
  refine And.intro (show A 54 (fd 1) = ((36 : Nat) : Int) by (first | (clear hm hnf; omega) | omega)) ?_
  obtain ⟨v22, e23⟩ : ∃ v, v = A 54 (fd 0) := ⟨_, rfl⟩
  have q24 : v7 = v22 := (e23.trans e8.symm).symm
  subst q24
  obtain ⟨v25, e26⟩ : ∃ v, v = A 54 (fd 1) := ⟨_, rfl⟩
  have q27 : v9 = v25 := (e26.trans e20.symm).symm
  subst q27
  refine And.intro rfl (And.intro (And.intro i0 (And.intro j0 (And.intro (by rw [← e23]; omega) (by rw [← e26]; omega)))) (fun r28 g31 g32 g29 g30 => ?_))
  replace hT := qlc g30 hT
  clear g30
  refine Exists.intro r28 (Exists.intro 0 (And.intro rfl (And.intro (And.intro i0 (And.intro j0 (And.intro (by (first | (clear hm hnf; omega) | omega)) (And.intro (by (first | (clear hm hnf; omega) | omega)) (And.intro p3 (And.intro (by first | assumption | omega | simp_all) (by first | assumption | omega | simp_all))))))) (fun A33 i34 j35 f36 g37 g38 g39 g40 g41 => ?_))))
  replace hT := qlc g41 hT
  have f42 := frm_c f0 f36 rfl
  have t43 := ivf_at j35 9 rfl
  have t44 : A33 54 (fd 3) = A 54 (fd 3) := (frm_f f36 rfl)
  have t45 : A33 54 (fd 2) = A 54 (fd 2) := (frm_f f36 rfl)
  have pf46 := PF_tr pf0 g38 (by (first | (clear hm hnf; omega) | omega))
  refine fun v47 gv47 e48 => ?_
  replace hT := qlc e48 hT
  have b49 := ivf_at j35 1 rfl
  refine fun v50 e51 => ?_
  replace hT := qlc e51 hT
  refine And.intro (by (first | (clear hm hnf; omega) | omega)) (fun A52 e53 => ?_)
  replace hT := qlc e53 hT
  have i54 := iva_sf i34 e53 rfl
  have j55 := ivf_st j35 e53 (And.intro (by (first | (clear hm hnf; omega) | omega)) trivial)
  have f56 := frm_sf f42 e53 rfl
  have t57 : A52 36 (fd 8) = A33 36 (fd 8) := (congrFun (st_a e53 rfl) _)
  have t58 := st_v e53
  have t59 : A52 54 (fd 2) = A33 54 (fd 2) := (st_f e53 rfl)
  have kk60 := KO_k g37 (st_a e53 rfl) (st_a e53 rfl) (st_a e53 rfl) (st_a e53 rfl)
  have pf61 := PF_k pf46 (st_a e53 rfl)
  exact hK _ i54 j55 f56 _ (by (first | (clear hm hnf; omega) | omega)) (by (first | (clear hm hnf; omega) | omega)) kk60 pf61 (by (first | (clear hm hnf; omega) | omega)) (by (first | (clear hm hnf; omega) | omega)) (by (first | (clear hm hnf; omega) | omega)) (by rw [show v17 = A 36 (fd 8) by (first | (clear hm hnf; omega) | omega), st_a e53 rfl, g40]; omega) (congrArg Prod.fst hT) (congrArg Prod.snd hT)
theorem pC_readJump_36 {A : qA} (hA : qokA LC A) (p0 : iva IC A) (p1 : ivf JC A) (p2 : (52 ≤ A 54 (fd 0) ∧ A 54 (fd 0) ≤ 52)) (p3 : (36 ≤ A 54 (fd 1) ∧ A 54 (fd 1) ≤ 36)) (p4 : KO A) (p5 : A 36 (fd 8) ≤ A 54 (fd 3)) (p6 : A 54 (fd 3) < A 54 (fd 2)) (p7 : A 53 (A 54 (fd 3)) ≠ 107) : qokA LC (fC_readJump_36 A).2 ∧ iva IC (fC_readJump_36 A).2 ∧ ivf JC (fC_readJump_36 A).2 ∧ frm [37, 38] [(36, 8), (54, 3)] A (fC_readJump_36 A).2 ∧ (0 ≤ (fC_readJump_36 A).1 ∧ (fC_readJump_36 A).1 ≤ 199) ∧ (KO (fC_readJump_36 A).2) ∧ (PF 36 A (fC_readJump_36 A).2) ∧ ((fC_readJump_36 A).1 = A 36 (fd 8)) ∧ ((fC_readJump_36 A).2 36 (fd 8) = (fC_readJump_36 A).1 + 1) ∧ ((fC_readJump_36 A).2 54 (fd 3) = A 54 (fd 3) + 1) ∧ ((fC_readJump_36 A).2 37 (fC_readJump_36 A).1 ≠ 107) := by
  obtain ⟨r, B, hB, _, hk⟩ := okM_ex okC_readJump_36 (as := [rf 54]) (K := fun _ B => B = (fC_readJump_36 A).2 ∧ iva IC (fC_readJump_36 A).2 ∧ ivf JC (fC_readJump_36 A).2 ∧ frm [37, 38] [(36, 8), (54, 3)] A (fC_readJump_36 A).2 ∧ (0 ≤ (fC_readJump_36 A).1 ∧ (fC_readJump_36 A).1 ≤ 199) ∧ (KO (fC_readJump_36 A).2) ∧ (PF 36 A (fC_readJump_36 A).2) ∧ ((fC_readJump_36 A).1 = A 36 (fd 8)) ∧ ((fC_readJump_36 A).2 36 (fd 8) = (fC_readJump_36 A).1 + 1) ∧ ((fC_readJump_36 A).2 54 (fd 3) = A 54 (fd 3) + 1) ∧ ((fC_readJump_36 A).2 37 (fC_readJump_36 A).1 ≠ 107)) hA (qoks_c (show qok (rf _) from trivial) qoks_n) ⟨rfl, ⟨p0, p1, p2, p3, p4, p5, p6, p7⟩, fun A9 i9 j9 f9 r9 g8 g9 x0 x1 x2 x3 x4 x5 x6 x7 => (by rw [← x7]; (try rw [← x6]); exact ⟨rfl, i9, j9, f9, ⟨g8, g9⟩, x0, x1, x2, x3, x4, x5⟩)⟩
  exact ⟨hk.1 ▸ hB, hk.2⟩
def fC_readNumber_36_c4 (rec : Nat → List Int → qA → Int × qA) (x i : Int) (B : qA) : Int × qA := (if i < 5 then qlet (fC_look_36 B) fun r78 => (if 48 ≤ r78 ∧ r78 ≤ 57 then qlet (10 * x) fun v85 => qlet (fC_look_36 B) fun r93 => qlet (v85 + r93) fun v98 => qlet (v98 - 48) fun v100 => qlet (B 54 (fd 3)) fun v102 => qlet (v102 + 1) fun v105 => qlet (qu B 54 (fd 3) v105) fun A107 => qlet (i + 1) fun v117 => rec 4 [v100, v117] A107 else qlet (fC_look_36 B) fun r132 => (if 48 ≤ r132 ∧ r132 ≤ 57 then qlet (fC_fail_36 2 B) fun A145 => (0, A145) else qlet (fC_putr36 48 x B) fun A161 => (1, A161))) else qlet (fC_look_36 B) fun r29 => (if 48 ≤ r29 ∧ r29 ≤ 57 then qlet (fC_fail_36 2 B) fun A42 => (0, A42) else qlet (fC_putr36 48 x B) fun A58 => (1, A58)))
def fC_readNumber_36_L : Nat → Nat → List Int → qA → Int × qA
  | 0 => fun _ _ B => (0, B)
  | nF + 1 => fun k zs B => bif Nat.beq k 4 then (match zs with | [x, i] => fC_readNumber_36_c4 (fC_readNumber_36_L nF) x i B | _ => (0, B)) else (0, B)
theorem fC_readNumber_36_L4 (nF : Nat) (x i : Int) (B : qA) : fC_readNumber_36_L (nF + 1) 4 [x, i] B = fC_readNumber_36_c4 (fC_readNumber_36_L nF) x i B := (congrFun (congrFun (congrFun (fC_readNumber_36_L.eq_2 nF) 4) [x, i]) B).trans (qL1 rfl rfl)
def fC_readNumber_36 (A : qA) : Int × qA := (fC_readNumber_36_L 100000) 4 [0, 0] A
def sC_readNumber_36 : qS := fun as A K => as = [rf 54] ∧ (iva IC A ∧ ivf JC A ∧ (52 ≤ A 54 (fd 0) ∧ A 54 (fd 0) ≤ 52) ∧ (36 ≤ A 54 (fd 1) ∧ A 54 (fd 1) ≤ 36) ∧ (KO A) ∧ (A 36 (fd 8) ≤ A 54 (fd 3)) ∧ (A 54 (fd 3) < A 54 (fd 2)) ∧ (48 ≤ A 53 (A 54 (fd 3))) ∧ (A 53 (A 54 (fd 3)) ≤ 57)) ∧ (∀ A' : qA, iva IC A' → ivf JC A' → frm [37, 38] [(36, 8), (54, 3), (54, 4)] A A' → ∀ r : Int, 0 ≤ r → r ≤ 1 → (KO A') → (PF 36 A A') → (A 36 (fd 8) ≤ A' 36 (fd 8)) → (A' 36 (fd 8) + A 54 (fd 3) ≤ A 36 (fd 8) + A' 54 (fd 3)) → (r = (fC_readNumber_36 A).1) → (A' = (fC_readNumber_36 A).2) → K (some (ni r)) A')
theorem okC_readNumber_36 : okM LC 2 61 sC_readNumber_36 := by
  refine qmeth [(54, 0, 52), (54, 1, 36)] false [(46, sC_look_36), (60, sC_isDigit), (47, sC_fail_36), (75, sC_putr36)] 49 rfl ⟨okC_look_36.le (by decide), ⟨okC_isDigit.le (by decide), ⟨okC_fail_36.le (by decide), ⟨okC_putr36.le (by decide), trivial⟩⟩⟩⟩ ?_
  rintro _ A K hA has ⟨rfl, ⟨i0, j0, p1, p2, p3, p4, p5, p6, p7⟩, hK⟩
  have f0 := frm_0 [37, 38] [(36, 8), (54, 3), (54, 4)] A
  obtain ⟨v8, e9⟩ : ∃ v, v = A 54 (fd 0) := ⟨_, rfl⟩
  rw [← e9] at p1
  obtain ⟨v10, e11⟩ : ∃ v, v = A 54 (fd 1) := ⟨_, rfl⟩
  rw [← e11] at p2
  have pf0 := PF_rf 36 A
  have hb_36_8 := ivf_at j0 9 rfl
  have hb_54_3 := ivf_at j0 1 rfl
  have hb_54_2 := ivf_at j0 0 rfl
  have hT : _ = fC_readNumber_36 A := (fC_readNumber_36.eq_1 A).symm
  refine ⟨Nat.le_of_ble_eq_true rfl, [(4, [(0, 2, 54), (1, 0, 0), (2, 0, 0)], fun zs B nn => match zs with | [x, i] => iva IC B ∧ ivf JC B ∧ frm [37, 38] [(36, 8), (54, 3), (54, 4)] A B ∧ nn = (5 - i : Int).toNat ∧ (52 ≤ B 54 (fd 0) ∧ B 54 (fd 0) ≤ 52) ∧ (36 ≤ B 54 (fd 1) ∧ B 54 (fd 1) ≤ 36) ∧ (0 ≤ i) ∧ (i ≤ 5) ∧ (0 ≤ x) ∧ (x ≤ 99999) ∧ (i = 0 → x = 0) ∧ (i = 1 → x ≤ 9) ∧ (i = 2 → x ≤ 99) ∧ (i = 3 → x ≤ 999) ∧ (i = 4 → x ≤ 9999) ∧ (KO B) ∧ (PF 36 A B) ∧ (B 36 (fd 8) = A 36 (fd 8)) ∧ (A 54 (fd 3) + i ≤ B 54 (fd 3)) ∧ (i = 0 → (48 ≤ B 53 (B 54 (fd 3)) ∧ B 53 (B 54 (fd 3)) ≤ 57 ∧ B 54 (fd 3) < B 54 (fd 2))) ∧ (∃ nf : Nat, nn < nf ∧ fC_readNumber_36_L nf 4 [x, i] B = fC_readNumber_36 A) | _ => False)], ?_, ?_⟩
  · refine ⟨⟨rfl, ?_⟩, trivial⟩
    · refine fun x i B mm hB hz hI => ?_
      obtain ⟨i1, j1, f1, hm, d0, d1, c0, c1, c2, c3, c4, c5, c6, c7, c8, c9, c10, c11, c12, c13, ⟨nf, hnf, hT⟩⟩ := hI
      obtain ⟨hz_x, hz_i, _⟩ := hz
      obtain ⟨ng, rfl⟩ : ∃ k, nf = k + 1 := ⟨nf - 1, by omega⟩
      replace hT := (fC_readNumber_36_c4.eq_1 (fC_readNumber_36_L ng) x i B).symm.trans ((fC_readNumber_36_L4 ng x i B).symm.trans hT)
      obtain ⟨v18, e19⟩ : ∃ v, v = B 54 (fd 0) := ⟨_, rfl⟩
      rw [← e19] at d0
      obtain ⟨v20, e21⟩ : ∃ v, v = B 54 (fd 1) := ⟨_, rfl⟩
      rw [← e21] at d1
      have hc_36_8 := ivf_at j1 9 rfl
      have hc_54_3 := ivf_at j1 1 rfl
      have hc_54_2 := ivf_at j1 0 rfl
      have hc_t : B 54 (fd 2) = A 54 (fd 2) := frm_f f1 rfl
      have hc_w : B 53 = A 53 := frm_a f1 rfl
      refine And.intro (fun h22 => ?_) (fun h22 => ?_)
      · replace hT := (if_neg (Int.not_lt.mpr h22)).symm.trans hT
        obtain ⟨v23, e24⟩ : ∃ v, v = B 54 (fd 0) := ⟨_, rfl⟩
        have q25 : v18 = v23 := (e24.trans e19.symm).symm
        subst q25
        obtain ⟨v26, e27⟩ : ∃ v, v = B 54 (fd 1) := ⟨_, rfl⟩
        have q28 : v20 = v26 := (e27.trans e21.symm).symm
        subst q28
        refine And.intro rfl (And.intro (And.intro i1 (And.intro j1 (And.intro (by rw [← e24]; omega) (by rw [← e27]; omega)))) (fun r29 g32 g33 g30 g31 => ?_))
        replace hT := qlc g31 hT
        clear g31
        refine Exists.intro r29 (And.intro rfl (And.intro (fun h34 => ?_) (fun h34 => ?_)))
        · replace hT := (if_pos h34).symm.trans hT
          refine And.intro (fun h35 => by exfalso; omega) (fun h35 => ?_)
          obtain ⟨v36, e37⟩ : ∃ v, v = B 54 (fd 0) := ⟨_, rfl⟩
          have q38 : v18 = v36 := (e37.trans e24.symm).symm
          subst q38
          obtain ⟨v39, e40⟩ : ∃ v, v = B 54 (fd 1) := ⟨_, rfl⟩
          have q41 : v20 = v39 := (e40.trans e27.symm).symm
          subst q41
          refine Exists.intro 2 (And.intro rfl (And.intro (And.intro i1 (And.intro j1 (And.intro (by (first | (clear hm hnf; omega) | omega)) (And.intro (by (first | (clear hm hnf; omega) | omega)) (And.intro (by rw [← e37]; omega) (by rw [← e40]; omega)))))) (fun A42 i43 j44 f45 g46 => (fun h47 => ?_))))
          · replace hT := qlc g46 hT
            have f48 := frm_c f1 f45 rfl
            have t49 : A42 36 (fd 8) = B 36 (fd 8) := (frm_f f45 rfl)
            have t50 : A42 54 (fd 3) = B 54 (fd 3) := (frm_f f45 rfl)
            have t51 : A42 54 (fd 2) = B 54 (fd 2) := (frm_f f45 rfl)
            have kk52 := KO_fr c9 f45 rfl
            have pf53 := PF_k c10 (frm_a f45 rfl)
            exact And.intro (by (first | (clear hm hnf; omega) | omega)) (hK _ i43 j44 f48 _ (by (first | (clear hm hnf; omega) | omega)) (by (first | (clear hm hnf; omega) | omega)) kk52 pf53 (by first | assumption | omega | simp_all) (by first | assumption | omega | simp_all) (congrArg Prod.fst hT) (congrArg Prod.snd hT))
        · replace hT := (if_neg h34).symm.trans hT
          refine And.intro (fun h54 => ?_) (fun h54 => by exfalso; omega)
          obtain ⟨v55, e56⟩ : ∃ v, v = B 54 (fd 1) := ⟨_, rfl⟩
          have q57 : v20 = v55 := (e56.trans e27.symm).symm
          subst q57
          refine And.intro (show B 54 (fd 1) = ((36 : Nat) : Int) by (first | (clear hm hnf; omega) | omega)) ?_
          refine Exists.intro 48 (Exists.intro x (And.intro rfl (And.intro (And.intro i1 (And.intro j1 (And.intro (by (first | (clear hm hnf; omega) | omega)) (And.intro (by (first | (clear hm hnf; omega) | omega)) (And.intro c9 (And.intro (by first | assumption | omega | simp_all) (by first | assumption | omega | simp_all))))))) (fun A58 i59 j60 f61 g62 g63 g64 g65 g66 => ?_))))
          replace hT := qlc g66 hT
          have f67 := frm_c f1 f61 rfl
          have t68 := ivf_at j60 9 rfl
          have t69 : A58 54 (fd 3) = B 54 (fd 3) := (frm_f f61 rfl)
          have t70 : A58 54 (fd 2) = B 54 (fd 2) := (frm_f f61 rfl)
          have pf71 := PF_tr c10 g63 (by (first | (clear hm hnf; omega) | omega))
          exact And.intro (by (first | (clear hm hnf; omega) | omega)) (hK _ i59 j60 f67 _ (by (first | (clear hm hnf; omega) | omega)) (by (first | (clear hm hnf; omega) | omega)) g62 pf71 (by first | assumption | omega | simp_all) (by first | assumption | omega | simp_all) (congrArg Prod.fst hT) (congrArg Prod.snd hT))
      · replace hT := (if_pos h22).symm.trans hT
        obtain ⟨v72, e73⟩ : ∃ v, v = B 54 (fd 0) := ⟨_, rfl⟩
        have q74 : v18 = v72 := (e73.trans e19.symm).symm
        subst q74
        obtain ⟨v75, e76⟩ : ∃ v, v = B 54 (fd 1) := ⟨_, rfl⟩
        have q77 : v20 = v75 := (e76.trans e21.symm).symm
        subst q77
        refine And.intro rfl (And.intro (And.intro i1 (And.intro j1 (And.intro (by rw [← e73]; omega) (by rw [← e76]; omega)))) (fun r78 g81 g82 g79 g80 => ?_))
        replace hT := qlc g80 hT
        clear g80
        refine Exists.intro r78 (And.intro rfl (And.intro (fun h83 => ?_) (fun h83 => ?_)))
        · replace hT := (if_pos h83).symm.trans hT
          refine And.intro (fun h84 => by exfalso; omega) (fun h84 => ?_)
          refine fun v85 e86 => ?_
          replace hT := qlc e86 hT
          obtain ⟨v87, e88⟩ : ∃ v, v = B 54 (fd 0) := ⟨_, rfl⟩
          have q89 : v18 = v87 := (e88.trans e73.symm).symm
          subst q89
          obtain ⟨v90, e91⟩ : ∃ v, v = B 54 (fd 1) := ⟨_, rfl⟩
          have q92 : v20 = v90 := (e91.trans e76.symm).symm
          subst q92
          refine And.intro rfl (And.intro (And.intro i1 (And.intro j1 (And.intro (by rw [← e88]; omega) (by rw [← e91]; omega)))) (fun r93 g96 g97 g94 g95 => ?_))
          replace hT := qlc g95 hT
          clear g95
          refine fun v98 e99 => ?_
          replace hT := qlc e99 hT
          refine fun v100 e101 => ?_
          replace hT := qlc e101 hT
          refine fun v102 gv102 e103 => ?_
          replace hT := qlc e103 hT
          have b104 := ivf_at j1 1 rfl
          refine fun v105 e106 => ?_
          replace hT := qlc e106 hT
          refine And.intro (by (first | (clear hm hnf; omega) | omega)) (fun A107 e108 => ?_)
          replace hT := qlc e108 hT
          have i109 := iva_sf i1 e108 rfl
          have j110 := ivf_st j1 e108 (And.intro (by (first | (clear hm hnf; omega) | omega)) trivial)
          have f111 := frm_sf f1 e108 rfl
          have t112 : A107 36 (fd 8) = B 36 (fd 8) := (congrFun (st_a e108 rfl) _)
          have t113 := st_v e108
          have t114 : A107 54 (fd 2) = B 54 (fd 2) := (st_f e108 rfl)
          have kk115 := KO_k c9 (st_a e108 rfl) (st_a e108 rfl) (st_a e108 rfl) (st_a e108 rfl)
          have pf116 := PF_k c10 (st_a e108 rfl)
          refine fun v117 e118 => ?_
          replace hT := qlc e118 hT
          obtain ⟨v119, e120⟩ : ∃ v, v = A107 54 (fd 0) := ⟨_, rfl⟩
          have q121 : v18 = v119 := (e120.trans ((st_f e108 rfl).trans e88.symm)).symm
          subst q121
          obtain ⟨v122, e123⟩ : ∃ v, v = A107 54 (fd 1) := ⟨_, rfl⟩
          have q124 : v20 = v122 := (e123.trans ((st_f e108 rfl).trans e91.symm)).symm
          subst q124
          exact And.intro (by (first | (clear hm hnf; omega) | omega)) (And.intro (by (first | (clear hm hnf; omega) | omega)) (Exists.intro (5 - v117 : Int).toNat (And.intro (by first | exact qtn hm (by (try clear hm hnf); omega) | omega) (And.intro i109 (And.intro j110 (And.intro f111 (And.intro rfl (And.intro (by rw [← e120]; omega) (And.intro (by rw [← e123]; omega) (And.intro (by (first | (clear hm hnf; omega) | omega)) (And.intro (by (first | (clear hm hnf; omega) | omega)) (And.intro (by (first | (clear hm hnf; omega) | omega)) (And.intro (by (first | (clear hm hnf; omega) | omega)) (And.intro (by (first | (clear hm hnf; omega) | omega)) (And.intro (by (first | (clear hm hnf; omega) | omega)) (And.intro (by (first | (clear hm hnf; omega) | omega)) (And.intro (by (first | (clear hm hnf; omega) | omega)) (And.intro (by (first | (clear hm hnf; omega) | omega)) (And.intro kk115 (And.intro pf116 (And.intro (by (first | (clear hm hnf; omega) | omega)) (And.intro (by (first | (clear hm hnf; omega) | omega)) (And.intro (by (first | (clear hm hnf; omega) | omega)) (Exists.intro ng (And.intro (by first | exact qtm hm hnf (by (try clear hm hnf); omega) | omega) hT)))))))))))))))))))))))))
        · replace hT := (if_neg h83).symm.trans hT
          refine And.intro (fun h125 => ?_) (fun h125 => by exfalso; omega)
          obtain ⟨v126, e127⟩ : ∃ v, v = B 54 (fd 0) := ⟨_, rfl⟩
          have q128 : v18 = v126 := (e127.trans e73.symm).symm
          subst q128
          obtain ⟨v129, e130⟩ : ∃ v, v = B 54 (fd 1) := ⟨_, rfl⟩
          have q131 : v20 = v129 := (e130.trans e76.symm).symm
          subst q131
          refine And.intro rfl (And.intro (And.intro i1 (And.intro j1 (And.intro (by rw [← e127]; omega) (by rw [← e130]; omega)))) (fun r132 g135 g136 g133 g134 => ?_))
          replace hT := qlc g134 hT
          clear g134
          refine Exists.intro r132 (And.intro rfl (And.intro (fun h137 => ?_) (fun h137 => ?_)))
          · replace hT := (if_pos h137).symm.trans hT
            refine And.intro (fun h138 => by exfalso; omega) (fun h138 => ?_)
            obtain ⟨v139, e140⟩ : ∃ v, v = B 54 (fd 0) := ⟨_, rfl⟩
            have q141 : v18 = v139 := (e140.trans e127.symm).symm
            subst q141
            obtain ⟨v142, e143⟩ : ∃ v, v = B 54 (fd 1) := ⟨_, rfl⟩
            have q144 : v20 = v142 := (e143.trans e130.symm).symm
            subst q144
            refine Exists.intro 2 (And.intro rfl (And.intro (And.intro i1 (And.intro j1 (And.intro (by (first | (clear hm hnf; omega) | omega)) (And.intro (by (first | (clear hm hnf; omega) | omega)) (And.intro (by rw [← e140]; omega) (by rw [← e143]; omega)))))) (fun A145 i146 j147 f148 g149 => (fun h150 => ?_))))
            · replace hT := qlc g149 hT
              have f151 := frm_c f1 f148 rfl
              have t152 : A145 36 (fd 8) = B 36 (fd 8) := (frm_f f148 rfl)
              have t153 : A145 54 (fd 3) = B 54 (fd 3) := (frm_f f148 rfl)
              have t154 : A145 54 (fd 2) = B 54 (fd 2) := (frm_f f148 rfl)
              have kk155 := KO_fr c9 f148 rfl
              have pf156 := PF_k c10 (frm_a f148 rfl)
              exact And.intro (by (first | (clear hm hnf; omega) | omega)) (hK _ i146 j147 f151 _ (by (first | (clear hm hnf; omega) | omega)) (by (first | (clear hm hnf; omega) | omega)) kk155 pf156 (by first | assumption | omega | simp_all) (by first | assumption | omega | simp_all) (congrArg Prod.fst hT) (congrArg Prod.snd hT))
          · replace hT := (if_neg h137).symm.trans hT
            refine And.intro (fun h157 => ?_) (fun h157 => by exfalso; omega)
            obtain ⟨v158, e159⟩ : ∃ v, v = B 54 (fd 1) := ⟨_, rfl⟩
            have q160 : v20 = v158 := (e159.trans e130.symm).symm
            subst q160
            refine And.intro (show B 54 (fd 1) = ((36 : Nat) : Int) by (first | (clear hm hnf; omega) | omega)) ?_
            refine Exists.intro 48 (Exists.intro x (And.intro rfl (And.intro (And.intro i1 (And.intro j1 (And.intro (by (first | (clear hm hnf; omega) | omega)) (And.intro (by (first | (clear hm hnf; omega) | omega)) (And.intro c9 (And.intro (by first | assumption | omega | simp_all) (by first | assumption | omega | simp_all))))))) (fun A161 i162 j163 f164 g165 g166 g167 g168 g169 => ?_))))
            replace hT := qlc g169 hT
            have f170 := frm_c f1 f164 rfl
            have t171 := ivf_at j163 9 rfl
            have t172 : A161 54 (fd 3) = B 54 (fd 3) := (frm_f f164 rfl)
            have t173 : A161 54 (fd 2) = B 54 (fd 2) := (frm_f f164 rfl)
            have pf174 := PF_tr c10 g166 (by (first | (clear hm hnf; omega) | omega))
            exact And.intro (by (first | (clear hm hnf; omega) | omega)) (hK _ i162 j163 f170 _ (by (first | (clear hm hnf; omega) | omega)) (by (first | (clear hm hnf; omega) | omega)) g165 pf174 (by first | assumption | omega | simp_all) (by first | assumption | omega | simp_all) (congrArg Prod.fst hT) (congrArg Prod.snd hT))
  · obtain ⟨v12, e13⟩ : ∃ v, v = A 54 (fd 0) := ⟨_, rfl⟩
    have q14 : v8 = v12 := (e13.trans e9.symm).symm
    subst q14
    obtain ⟨v15, e16⟩ : ∃ v, v = A 54 (fd 1) := ⟨_, rfl⟩
    have q17 : v10 = v15 := (e16.trans e11.symm).symm
    subst q17
    exact Exists.intro (5 - 0 : Int).toNat (And.intro i0 (And.intro j0 (And.intro f0 (And.intro rfl (And.intro (by rw [← e13]; omega) (And.intro (by rw [← e16]; omega) (And.intro (by (first | (clear hm hnf; omega) | omega)) (And.intro (by (first | (clear hm hnf; omega) | omega)) (And.intro (by (first | (clear hm hnf; omega) | omega)) (And.intro (by (first | (clear hm hnf; omega) | omega)) (And.intro (by (first | (clear hm hnf; omega) | omega)) (And.intro (by (first | (clear hm hnf; omega) | omega)) (And.intro (by (first | (clear hm hnf; omega) | omega)) (And.intro (by (first | (clear hm hnf; omega) | omega)) (And.intro (by (first | (clear hm hnf; omega) | omega)) (And.intro p3 (And.intro pf0 (And.intro (by (first | (clear hm hnf; omega) | omega)) (And.intro (by (first | (clear hm hnf; omega) | omega)) (And.intro (by (first | (clear hm hnf; omega) | omega)) (Exists.intro 100000 (And.intro (by (first | (clear hm hnf; omega) | omega)) hT))))))))))))))))))))))
theorem pC_readNumber_36 {A : qA} (hA : qokA LC A) (p0 : iva IC A) (p1 : ivf JC A) (p2 : (52 ≤ A 54 (fd 0) ∧ A 54 (fd 0) ≤ 52)) (p3 : (36 ≤ A 54 (fd 1) ∧ A 54 (fd 1) ≤ 36)) (p4 : KO A) (p5 : A 36 (fd 8) ≤ A 54 (fd 3)) (p6 : A 54 (fd 3) < A 54 (fd 2)) (p7 : 48 ≤ A 53 (A 54 (fd 3))) (p8 : A 53 (A 54 (fd 3)) ≤ 57) : qokA LC (fC_readNumber_36 A).2 ∧ iva IC (fC_readNumber_36 A).2 ∧ ivf JC (fC_readNumber_36 A).2 ∧ frm [37, 38] [(36, 8), (54, 3), (54, 4)] A (fC_readNumber_36 A).2 ∧ (0 ≤ (fC_readNumber_36 A).1 ∧ (fC_readNumber_36 A).1 ≤ 1) ∧ (KO (fC_readNumber_36 A).2) ∧ (PF 36 A (fC_readNumber_36 A).2) ∧ (A 36 (fd 8) ≤ (fC_readNumber_36 A).2 36 (fd 8)) ∧ ((fC_readNumber_36 A).2 36 (fd 8) + A 54 (fd 3) ≤ A 36 (fd 8) + (fC_readNumber_36 A).2 54 (fd 3)) := by
  obtain ⟨r, B, hB, _, hk⟩ := okM_ex okC_readNumber_36 (as := [rf 54]) (K := fun _ B => B = (fC_readNumber_36 A).2 ∧ iva IC (fC_readNumber_36 A).2 ∧ ivf JC (fC_readNumber_36 A).2 ∧ frm [37, 38] [(36, 8), (54, 3), (54, 4)] A (fC_readNumber_36 A).2 ∧ (0 ≤ (fC_readNumber_36 A).1 ∧ (fC_readNumber_36 A).1 ≤ 1) ∧ (KO (fC_readNumber_36 A).2) ∧ (PF 36 A (fC_readNumber_36 A).2) ∧ (A 36 (fd 8) ≤ (fC_readNumber_36 A).2 36 (fd 8)) ∧ ((fC_readNumber_36 A).2 36 (fd 8) + A 54 (fd 3) ≤ A 36 (fd 8) + (fC_readNumber_36 A).2 54 (fd 3))) hA (qoks_c (show qok (rf _) from trivial) qoks_n) ⟨rfl, ⟨p0, p1, p2, p3, p4, p5, p6, p7, p8⟩, fun A9 i9 j9 f9 r9 g8 g9 x0 x1 x2 x3 x4 x5 => (by rw [← x5]; (try rw [← x4]); exact ⟨rfl, i9, j9, f9, ⟨g8, g9⟩, x0, x1, x2, x3⟩)⟩
  exact ⟨hk.1 ▸ hB, hk.2⟩
def fC_readTerm_36_B_c6 (p_readFactor_36 : Int → qA → Int × qA) (rec : Nat → List Int → qA → Int × qA) (l1 w i : Int) (B : qA) : Int × qA := (if i < 200 then (if w = 0 then (w, B) else qlet (fC_look_36 B) fun r54 => qlet (qone 4 r54) fun v59 => (if v59 = 0 then (w, B) else qlet (fC_look_36 B) fun r70 => qlet (B 54 (fd 3)) fun v75 => qlet (v75 + 1) fun v78 => qlet (qu B 54 (fd 3) v78) fun A80 => qlp (p_readFactor_36 l1 A80) fun r100 A96 => qlet (fC_putr36 r70 0 A96) fun A117 => qlet (i + 1) fun v131 => rec 6 [l1, r100, v131] A117)) else (w, B))
def fC_readTerm_36_B_L (p_readFactor_36 : Int → qA → Int × qA) : Nat → Nat → List Int → qA → Int × qA
  | 0 => fun _ _ B => (0, B)
  | nF + 1 => fun k zs B => bif Nat.beq k 6 then (match zs with | [l1, w, i] => fC_readTerm_36_B_c6 p_readFactor_36 (fC_readTerm_36_B_L p_readFactor_36 nF) l1 w i B | _ => (0, B)) else (0, B)
theorem fC_readTerm_36_B_L6 (p_readFactor_36 : Int → qA → Int × qA) (nF : Nat) (l1 w i : Int) (B : qA) : fC_readTerm_36_B_L p_readFactor_36 (nF + 1) 6 [l1, w, i] B = fC_readTerm_36_B_c6 p_readFactor_36 (fC_readTerm_36_B_L p_readFactor_36 nF) l1 w i B := (congrFun (congrFun (congrFun (fC_readTerm_36_B_L.eq_2 p_readFactor_36 nF) 6) [l1, w, i]) B).trans (qL1 rfl rfl)
def fC_readTerm_36_B (p_readFactor_36 : Int → qA → Int × qA) (d : Int) (A : qA) : Int × qA := qlp (p_readFactor_36 d A) fun r22 A18 => (fC_readTerm_36_B_L p_readFactor_36 100000) 6 [d, r22, 0] A18
def fC_readSum_36_B_c6 (p_readTerm_36 : Int → qA → Int × qA) (rec : Nat → List Int → qA → Int × qA) (l1 w i : Int) (B : qA) : Int × qA := (if i < 200 then (if w = 0 then (w, B) else qlet (fC_look_36 B) fun r54 => qlet (qone 3 r54) fun v59 => (if v59 = 0 then (w, B) else qlet (fC_look_36 B) fun r70 => qlet (B 54 (fd 3)) fun v75 => qlet (v75 + 1) fun v78 => qlet (qu B 54 (fd 3) v78) fun A80 => qlp (p_readTerm_36 l1 A80) fun r100 A96 => qlet (fC_putr36 r70 0 A96) fun A117 => qlet (i + 1) fun v131 => rec 6 [l1, r100, v131] A117)) else (w, B))
def fC_readSum_36_B_L (p_readTerm_36 : Int → qA → Int × qA) : Nat → Nat → List Int → qA → Int × qA
  | 0 => fun _ _ B => (0, B)
  | nF + 1 => fun k zs B => bif Nat.beq k 6 then (match zs with | [l1, w, i] => fC_readSum_36_B_c6 p_readTerm_36 (fC_readSum_36_B_L p_readTerm_36 nF) l1 w i B | _ => (0, B)) else (0, B)
theorem fC_readSum_36_B_L6 (p_readTerm_36 : Int → qA → Int × qA) (nF : Nat) (l1 w i : Int) (B : qA) : fC_readSum_36_B_L p_readTerm_36 (nF + 1) 6 [l1, w, i] B = fC_readSum_36_B_c6 p_readTerm_36 (fC_readSum_36_B_L p_readTerm_36 nF) l1 w i B := (congrFun (congrFun (congrFun (fC_readSum_36_B_L.eq_2 p_readTerm_36 nF) 6) [l1, w, i]) B).trans (qL1 rfl rfl)
def fC_readSum_36_B (p_readTerm_36 : Int → qA → Int × qA) (d : Int) (A : qA) : Int × qA := qlp (p_readTerm_36 d A) fun r22 A18 => (fC_readSum_36_B_L p_readTerm_36 100000) 6 [d, r22, 0] A18
def fC_readFactorZ_36_B (d : Int) (A : qA) : Int × qA := qlet (fC_look_36 A) fun r18 => (if r18 = 91 then qlet (fC_enter_36 d A) fun A115 => (0, A115) else (if 48 ≤ r18 ∧ r18 ≤ 57 then qlp (fC_readNumber_36 A) fun r36 A32 => (r36, A32) else qlet (qone 0 r18) fun v51 => (if v51 = 0 then qlet (fC_fail_36 1 A) fun A97 => (0, A97) else qlet (qix 0 r18) fun v59 => qlet (fC_putr36 107 v59 A) fun A62 => qlet (A62 54 (fd 3)) fun v76 => qlet (v76 + 1) fun v79 => qlet (qu A62 54 (fd 3) v79) fun A81 => (1, A81))))
def fC_readFactorS_36_B (p_readSum_36 : Int → qA → Int × qA) (d : Int) (A : qA) : Int × qA := qlet (fC_look_36 A) fun r18 => (if r18 = 91 then qlet (fC_enter_36 d A) fun A115 => qlet (d + 1) fun v130 => qlp (p_readSum_36 v130 A115) fun r142 A138 => (if r142 = 0 then (0, A138) else qlp (fC_expect_36 93 A138) fun r167 A163 => (if r167 = 0 then (0, A163) else (1, A163))) else (if 48 ≤ r18 ∧ r18 ≤ 57 then qlp (fC_readNumber_36 A) fun r36 A32 => (r36, A32) else qlet (qone 0 r18) fun v51 => (if v51 = 0 then qlet (fC_fail_36 1 A) fun A97 => (0, A97) else qlet (qix 0 r18) fun v59 => qlet (fC_putr36 107 v59 A) fun A62 => qlet (A62 54 (fd 3)) fun v76 => qlet (v76 + 1) fun v79 => qlet (qu A62 54 (fd 3) v79) fun A81 => (1, A81))))
def fC_readComparison_36_B (p_readSum_36 : Int → qA → Int × qA) (d : Int) (A : qA) : Int × qA := qlp (p_readSum_36 d A) fun r22 A18 => (if r22 = 0 then (0, A18) else qlet (fC_look_36 A18) fun r43 => qlet (qone 2 r43) fun v48 => (if v48 = 0 then qlet (fC_fail_36 1 A18) fun A116 => (0, A116) else qlet (A18 54 (fd 3)) fun v53 => qlet (v53 + 1) fun v56 => qlet (qu A18 54 (fd 3) v56) fun A58 => qlp (p_readSum_36 d A58) fun r78 A74 => (if r78 = 0 then (0, A74) else qlet (fC_putr36 r43 0 A74) fun A96 => (1, A96))))
def fC_readPart_36_B_c6 (p_readPiece_36 : Int → qA → Int × qA) (rec : Nat → List Int → qA → Int × qA) (l1 w i : Int) (B : qA) : Int × qA := (if i < 200 then (if w = 0 then (w, B) else qlet (fC_look_36 B) fun r54 => (if r54 = 38 then qlp (fC_readJump_36 B) fun r70 A66 => qlp (p_readPiece_36 l1 A66) fun r96 A92 => qlet (A92 36 (fd 8)) fun v116 => qlet (qu A92 38 r70 v116) fun A119 => qlet (i + 1) fun v129 => rec 6 [l1, r96, v129] A119 else (w, B))) else (w, B))
def fC_readPart_36_B_L (p_readPiece_36 : Int → qA → Int × qA) : Nat → Nat → List Int → qA → Int × qA
  | 0 => fun _ _ B => (0, B)
  | nF + 1 => fun k zs B => bif Nat.beq k 6 then (match zs with | [l1, w, i] => fC_readPart_36_B_c6 p_readPiece_36 (fC_readPart_36_B_L p_readPiece_36 nF) l1 w i B | _ => (0, B)) else (0, B)
theorem fC_readPart_36_B_L6 (p_readPiece_36 : Int → qA → Int × qA) (nF : Nat) (l1 w i : Int) (B : qA) : fC_readPart_36_B_L p_readPiece_36 (nF + 1) 6 [l1, w, i] B = fC_readPart_36_B_c6 p_readPiece_36 (fC_readPart_36_B_L p_readPiece_36 nF) l1 w i B := (congrFun (congrFun (congrFun (fC_readPart_36_B_L.eq_2 p_readPiece_36 nF) 6) [l1, w, i]) B).trans (qL1 rfl rfl)
def fC_readPart_36_B (p_readPiece_36 : Int → qA → Int × qA) (d : Int) (A : qA) : Int × qA := qlp (p_readPiece_36 d A) fun r22 A18 => (fC_readPart_36_B_L p_readPiece_36 100000) 6 [d, r22, 0] A18
def fC_readCondition_36_B_c6 (p_readPart_36 : Int → qA → Int × qA) (rec : Nat → List Int → qA → Int × qA) (l1 w i : Int) (B : qA) : Int × qA := (if i < 200 then (if w = 0 then (w, B) else qlet (fC_look_36 B) fun r54 => (if r54 = 124 then qlp (fC_readJump_36 B) fun r70 A66 => qlp (p_readPart_36 l1 A66) fun r96 A92 => qlet (A92 36 (fd 8)) fun v116 => qlet (qu A92 38 r70 v116) fun A119 => qlet (i + 1) fun v129 => rec 6 [l1, r96, v129] A119 else (w, B))) else (w, B))
def fC_readCondition_36_B_L (p_readPart_36 : Int → qA → Int × qA) : Nat → Nat → List Int → qA → Int × qA
  | 0 => fun _ _ B => (0, B)
  | nF + 1 => fun k zs B => bif Nat.beq k 6 then (match zs with | [l1, w, i] => fC_readCondition_36_B_c6 p_readPart_36 (fC_readCondition_36_B_L p_readPart_36 nF) l1 w i B | _ => (0, B)) else (0, B)
theorem fC_readCondition_36_B_L6 (p_readPart_36 : Int → qA → Int × qA) (nF : Nat) (l1 w i : Int) (B : qA) : fC_readCondition_36_B_L p_readPart_36 (nF + 1) 6 [l1, w, i] B = fC_readCondition_36_B_c6 p_readPart_36 (fC_readCondition_36_B_L p_readPart_36 nF) l1 w i B := (congrFun (congrFun (congrFun (fC_readCondition_36_B_L.eq_2 p_readPart_36 nF) 6) [l1, w, i]) B).trans (qL1 rfl rfl)
def fC_readCondition_36_B (p_readPart_36 : Int → qA → Int × qA) (d : Int) (A : qA) : Int × qA := qlp (p_readPart_36 d A) fun r22 A18 => (fC_readCondition_36_B_L p_readPart_36 100000) 6 [d, r22, 0] A18
def fC_readPieceZ_36_B (p_readComparison_36 : Int → qA → Int × qA) (d : Int) (A : qA) : Int × qA := qlet (fC_look_36 A) fun r18 => (if r18 = 40 then qlet (fC_enter_36 d A) fun A76 => (0, A76) else (if r18 = 33 then qlet (fC_enter_36 d A) fun A55 => (0, A55) else qlp (p_readComparison_36 d A) fun r35 A31 => (r35, A31)))
def fC_readPieceS_36_B (p_readCondition_36 : Int → qA → Int × qA) (p_readPiece_36 : Int → qA → Int × qA) (p_readComparison_36 : Int → qA → Int × qA) (d : Int) (A : qA) : Int × qA := qlet (fC_look_36 A) fun r18 => (if r18 = 40 then qlet (fC_enter_36 d A) fun A120 => qlet (d + 1) fun v135 => qlp (p_readCondition_36 v135 A120) fun r147 A143 => (if r147 = 0 then (0, A143) else qlp (fC_expect_36 41 A143) fun r172 A168 => (if r172 = 0 then (0, A168) else (1, A168))) else (if r18 = 33 then qlet (fC_enter_36 d A) fun A55 => qlet (d + 1) fun v70 => qlp (p_readPiece_36 v70 A55) fun r82 A78 => (if r82 = 0 then (0, A78) else qlet (fC_putr36 33 0 A78) fun A100 => (1, A100)) else qlp (p_readComparison_36 d A) fun r35 A31 => (r35, A31)))
def fC_readFactor_36 : Nat → Int → qA → Int × qA
  | 0 => fC_readFactorZ_36_B
  | e + 1 => fC_readFactorS_36_B (fC_readSum_36_B (fC_readTerm_36_B (fC_readFactor_36 e)))
def fC_readTerm_36 (e : Nat) : Int → qA → Int × qA := fC_readTerm_36_B (fC_readFactor_36 e)
def fC_readSum_36 (e : Nat) : Int → qA → Int × qA := fC_readSum_36_B (fC_readTerm_36 e)
def fC_readComparison_36 (e : Nat) : Int → qA → Int × qA := fC_readComparison_36_B (fC_readSum_36 e)
def fC_readPiece_36 : Nat → Int → qA → Int × qA
  | 0 => fC_readPieceZ_36_B (fC_readComparison_36 0)
  | e + 1 => fC_readPieceS_36_B (fC_readCondition_36_B (fC_readPart_36_B (fC_readPiece_36 e))) (fC_readPiece_36 e) (fC_readComparison_36 (e + 1))
def fC_readPart_36 (e : Nat) : Int → qA → Int × qA := fC_readPart_36_B (fC_readPiece_36 e)
def fC_readCondition_36 (e : Nat) : Int → qA → Int × qA := fC_readCondition_36_B (fC_readPart_36 e)
def sC_readFactor_36 (e : Nat) : qS := fun as A K => ∃ d : Int, as = [rf 54, ni d] ∧ (iva IC A ∧ ivf JC A ∧ 0 ≤ d ∧ d ≤ 6 ∧ (52 ≤ A 54 (fd 0) ∧ A 54 (fd 0) ≤ 52) ∧ (36 ≤ A 54 (fd 1) ∧ A 54 (fd 1) ≤ 36) ∧ (KO A) ∧ (A 36 (fd 8) ≤ A 54 (fd 3)) ∧ (d = 6 - (e : Int))) ∧ (∀ A' : qA, iva IC A' → ivf JC A' → frm [37, 38] [(36, 8), (54, 3), (54, 4)] A A' → ∀ r : Int, 0 ≤ r → r ≤ 1 → (KO A') → (PF 36 A A') → (A 36 (fd 8) ≤ A' 36 (fd 8)) → (A' 36 (fd 8) + A 54 (fd 3) ≤ A 36 (fd 8) + A' 54 (fd 3)) → (r = (fC_readFactor_36 e d A).1) → (A' = (fC_readFactor_36 e d A).2) → K (some (ni r)) A')
def sC_readTerm_36 (e : Nat) : qS := fun as A K => ∃ d : Int, as = [rf 54, ni d] ∧ (iva IC A ∧ ivf JC A ∧ 0 ≤ d ∧ d ≤ 6 ∧ (52 ≤ A 54 (fd 0) ∧ A 54 (fd 0) ≤ 52) ∧ (36 ≤ A 54 (fd 1) ∧ A 54 (fd 1) ≤ 36) ∧ (KO A) ∧ (A 36 (fd 8) ≤ A 54 (fd 3)) ∧ (d = 6 - (e : Int))) ∧ (∀ A' : qA, iva IC A' → ivf JC A' → frm [37, 38] [(36, 8), (54, 3), (54, 4)] A A' → ∀ r : Int, 0 ≤ r → r ≤ 1 → (KO A') → (PF 36 A A') → (A 36 (fd 8) ≤ A' 36 (fd 8)) → (A' 36 (fd 8) + A 54 (fd 3) ≤ A 36 (fd 8) + A' 54 (fd 3)) → (r = (fC_readTerm_36 e d A).1) → (A' = (fC_readTerm_36 e d A).2) → K (some (ni r)) A')
def sC_readSum_36 (e : Nat) : qS := fun as A K => ∃ d : Int, as = [rf 54, ni d] ∧ (iva IC A ∧ ivf JC A ∧ 0 ≤ d ∧ d ≤ 6 ∧ (52 ≤ A 54 (fd 0) ∧ A 54 (fd 0) ≤ 52) ∧ (36 ≤ A 54 (fd 1) ∧ A 54 (fd 1) ≤ 36) ∧ (KO A) ∧ (A 36 (fd 8) ≤ A 54 (fd 3)) ∧ (d = 6 - (e : Int))) ∧ (∀ A' : qA, iva IC A' → ivf JC A' → frm [37, 38] [(36, 8), (54, 3), (54, 4)] A A' → ∀ r : Int, 0 ≤ r → r ≤ 1 → (KO A') → (PF 36 A A') → (A 36 (fd 8) ≤ A' 36 (fd 8)) → (A' 36 (fd 8) + A 54 (fd 3) ≤ A 36 (fd 8) + A' 54 (fd 3)) → (r = (fC_readSum_36 e d A).1) → (A' = (fC_readSum_36 e d A).2) → K (some (ni r)) A')
def sC_readComparison_36 (e : Nat) : qS := fun as A K => ∃ d : Int, as = [rf 54, ni d] ∧ (iva IC A ∧ ivf JC A ∧ 0 ≤ d ∧ d ≤ 6 ∧ (52 ≤ A 54 (fd 0) ∧ A 54 (fd 0) ≤ 52) ∧ (36 ≤ A 54 (fd 1) ∧ A 54 (fd 1) ≤ 36) ∧ (KO A) ∧ (A 36 (fd 8) ≤ A 54 (fd 3)) ∧ (d = 6 - (e : Int))) ∧ (∀ A' : qA, iva IC A' → ivf JC A' → frm [37, 38] [(36, 8), (54, 3), (54, 4)] A A' → ∀ r : Int, 0 ≤ r → r ≤ 1 → (KO A') → (PF 36 A A') → (A 36 (fd 8) ≤ A' 36 (fd 8)) → (A' 36 (fd 8) + A 54 (fd 3) ≤ A 36 (fd 8) + A' 54 (fd 3)) → (r = (fC_readComparison_36 e d A).1) → (A' = (fC_readComparison_36 e d A).2) → K (some (ni r)) A')
def sC_readPiece_36 (e : Nat) : qS := fun as A K => ∃ d : Int, as = [rf 54, ni d] ∧ (iva IC A ∧ ivf JC A ∧ 0 ≤ d ∧ d ≤ 6 ∧ (52 ≤ A 54 (fd 0) ∧ A 54 (fd 0) ≤ 52) ∧ (36 ≤ A 54 (fd 1) ∧ A 54 (fd 1) ≤ 36) ∧ (KO A) ∧ (A 36 (fd 8) ≤ A 54 (fd 3)) ∧ (d = 6 - (e : Int))) ∧ (∀ A' : qA, iva IC A' → ivf JC A' → frm [37, 38] [(36, 8), (54, 3), (54, 4)] A A' → ∀ r : Int, 0 ≤ r → r ≤ 1 → (KO A') → (PF 36 A A') → (A 36 (fd 8) ≤ A' 36 (fd 8)) → (A' 36 (fd 8) + A 54 (fd 3) ≤ A 36 (fd 8) + A' 54 (fd 3)) → (r = (fC_readPiece_36 e d A).1) → (A' = (fC_readPiece_36 e d A).2) → K (some (ni r)) A')
def sC_readPart_36 (e : Nat) : qS := fun as A K => ∃ d : Int, as = [rf 54, ni d] ∧ (iva IC A ∧ ivf JC A ∧ 0 ≤ d ∧ d ≤ 6 ∧ (52 ≤ A 54 (fd 0) ∧ A 54 (fd 0) ≤ 52) ∧ (36 ≤ A 54 (fd 1) ∧ A 54 (fd 1) ≤ 36) ∧ (KO A) ∧ (A 36 (fd 8) ≤ A 54 (fd 3)) ∧ (d = 6 - (e : Int))) ∧ (∀ A' : qA, iva IC A' → ivf JC A' → frm [37, 38] [(36, 8), (54, 3), (54, 4)] A A' → ∀ r : Int, 0 ≤ r → r ≤ 1 → (KO A') → (PF 36 A A') → (A 36 (fd 8) ≤ A' 36 (fd 8)) → (A' 36 (fd 8) + A 54 (fd 3) ≤ A 36 (fd 8) + A' 54 (fd 3)) → (r = (fC_readPart_36 e d A).1) → (A' = (fC_readPart_36 e d A).2) → K (some (ni r)) A')
def sC_readCondition_36 (e : Nat) : qS := fun as A K => ∃ d : Int, as = [rf 54, ni d] ∧ (iva IC A ∧ ivf JC A ∧ 0 ≤ d ∧ d ≤ 6 ∧ (52 ≤ A 54 (fd 0) ∧ A 54 (fd 0) ≤ 52) ∧ (36 ≤ A 54 (fd 1) ∧ A 54 (fd 1) ≤ 36) ∧ (KO A) ∧ (A 36 (fd 8) ≤ A 54 (fd 3)) ∧ (d = 6 - (e : Int))) ∧ (∀ A' : qA, iva IC A' → ivf JC A' → frm [37, 38] [(36, 8), (54, 3), (54, 4)] A A' → ∀ r : Int, 0 ≤ r → r ≤ 1 → (KO A') → (PF 36 A A') → (A 36 (fd 8) ≤ A' 36 (fd 8)) → (A' 36 (fd 8) + A 54 (fd 3) ≤ A 36 (fd 8) + A' 54 (fd 3)) → (r = (fC_readCondition_36 e d A).1) → (A' = (fC_readCondition_36 e d A).2) → K (some (ni r)) A')
theorem okC_readTerm_36 {e D : Nat} (h_readFactor_36 : okM LC D 59 (sC_readFactor_36 e)) (hD : 6 ≤ D) : okM LC (D + 1) 58 (sC_readTerm_36 e) := by
  refine qmeth (D := D) [(54, 0, 52), (54, 1, 36)] false [(59, sC_readFactor_36 e), (46, sC_look_36), (75, sC_putr36)] 44 rfl ⟨h_readFactor_36, ⟨okC_look_36.le (by (first | (clear hm hnf; omega) | omega)), ⟨okC_putr36.le (by (first | (clear hm hnf; omega) | omega)), trivial⟩⟩⟩ ?_
  rintro _ A K hA has ⟨d, rfl, ⟨i0, j0, p1, p2, p3, p4, p5, p6, p7⟩, hK⟩
  have rg_d : rng d := has (ni d) (by simp)
  have f0 := frm_0 [37, 38] [(36, 8), (54, 3), (54, 4)] A
  obtain ⟨v8, e9⟩ : ∃ v, v = A 54 (fd 0) := ⟨_, rfl⟩
  rw [← e9] at p3
  obtain ⟨v10, e11⟩ : ∃ v, v = A 54 (fd 1) := ⟨_, rfl⟩
  rw [← e11] at p4
  have pf0 := PF_rf 36 A
  have hb_36_8 := ivf_at j0 9 rfl
  have hb_54_3 := ivf_at j0 1 rfl
  have hb_54_2 := ivf_at j0 0 rfl
  have hT : _ = fC_readTerm_36 e d A := (fC_readTerm_36_B.eq_1 (fC_readFactor_36 e) d A).symm
  refine ⟨Nat.le_of_ble_eq_true rfl, [(6, [(0, 2, 54), (1, 0, 0), (2, 0, 0), (3, 0, 0)], fun zs B nn => match zs with | [l1, w, i] => iva IC B ∧ ivf JC B ∧ frm [37, 38] [(36, 8), (54, 3), (54, 4)] A B ∧ nn = (200 - i : Int).toNat ∧ (52 ≤ B 54 (fd 0) ∧ B 54 (fd 0) ≤ 52) ∧ (36 ≤ B 54 (fd 1) ∧ B 54 (fd 1) ≤ 36) ∧ (l1 = d) ∧ (0 ≤ i) ∧ (i ≤ 200) ∧ (0 ≤ w) ∧ (w ≤ 1) ∧ (KO B) ∧ (PF 36 A B) ∧ (A 36 (fd 8) ≤ B 36 (fd 8)) ∧ (B 36 (fd 8) + A 54 (fd 3) ≤ A 36 (fd 8) + B 54 (fd 3)) ∧ (B 36 (fd 8) ≤ B 54 (fd 3)) ∧ (∃ nf : Nat, nn < nf ∧ fC_readTerm_36_B_L (fC_readFactor_36 e) nf 6 [l1, w, i] B = fC_readTerm_36 e d A) | _ => False)], ?_, ?_⟩
  · refine ⟨⟨rfl, ?_⟩, trivial⟩
    · refine fun l1 w i B mm hB hz hI => ?_
      obtain ⟨i1, j1, f1, hm, d0, d1, c0, c1, c2, c3, c4, c5, c6, c7, c8, c9, ⟨nf, hnf, hT⟩⟩ := hI
      obtain ⟨hz_l1, hz_w, hz_i, _⟩ := hz
      obtain ⟨ng, rfl⟩ : ∃ k, nf = k + 1 := ⟨nf - 1, by omega⟩
      replace hT := (fC_readTerm_36_B_c6.eq_1 (fC_readFactor_36 e) (fC_readTerm_36_B_L (fC_readFactor_36 e) ng) l1 w i B).symm.trans ((fC_readTerm_36_B_L6 (fC_readFactor_36 e) ng l1 w i B).symm.trans hT)
      obtain ⟨v42, e43⟩ : ∃ v, v = B 54 (fd 0) := ⟨_, rfl⟩
      rw [← e43] at d0
      obtain ⟨v44, e45⟩ : ∃ v, v = B 54 (fd 1) := ⟨_, rfl⟩
      rw [← e45] at d1
      have hc_36_8 := ivf_at j1 9 rfl
      have hc_54_3 := ivf_at j1 1 rfl
      have hc_54_2 := ivf_at j1 0 rfl
      have hc_t : B 54 (fd 2) = A 54 (fd 2) := frm_f f1 rfl
      have hc_w : B 53 = A 53 := frm_a f1 rfl
      refine And.intro (fun h46 => ?_) (fun h46 => ?_)
      · replace hT := (if_neg (Int.not_lt.mpr h46)).symm.trans hT
        exact And.intro (by (first | (clear hm hnf; omega) | omega)) (hK _ i1 j1 f1 _ (by (first | (clear hm hnf; omega) | omega)) (by (first | (clear hm hnf; omega) | omega)) c5 c6 (by first | assumption | omega | simp_all) (by first | assumption | omega | simp_all) (congrArg Prod.fst hT) (congrArg Prod.snd hT))
      · replace hT := (if_pos h46).symm.trans hT
        refine And.intro (fun h47 => ?_) (fun h47 => ?_)
        · replace hT := (if_pos h47).symm.trans hT
          exact And.intro (by (first | (clear hm hnf; omega) | omega)) (hK _ i1 j1 f1 _ (by (first | (clear hm hnf; omega) | omega)) (by (first | (clear hm hnf; omega) | omega)) c5 c6 (by first | assumption | omega | simp_all) (by first | assumption | omega | simp_all) (congrArg Prod.fst hT) (congrArg Prod.snd hT))
        · replace hT := (if_neg h47).symm.trans hT
          obtain ⟨v48, e49⟩ : ∃ v, v = B 54 (fd 0) := ⟨_, rfl⟩
          have q50 : v42 = v48 := (e49.trans e43.symm).symm
          subst q50
          obtain ⟨v51, e52⟩ : ∃ v, v = B 54 (fd 1) := ⟨_, rfl⟩
          have q53 : v44 = v51 := (e52.trans e45.symm).symm
          subst q53
          refine And.intro rfl (And.intro (And.intro i1 (And.intro j1 (And.intro (by rw [← e49]; omega) (by rw [← e52]; omega)))) (fun r54 g57 g58 g55 g56 => ?_))
          replace hT := qlc g56 hT
          clear g56
          refine fun v59 e60 => ?_
          replace hT := qlc e60 hT
          have h61 := qone_bd 4 r54
          rw [← e60] at h61
          have h62 := qone_p (s := 4) (x := r54) (by (first | (clear hm hnf; omega) | omega))
          refine And.intro (fun h63 => ?_) (fun h63 => ?_)
          · replace hT := (if_pos h63).symm.trans hT
            exact And.intro (by (first | (clear hm hnf; omega) | omega)) (hK _ i1 j1 f1 _ (by (first | (clear hm hnf; omega) | omega)) (by (first | (clear hm hnf; omega) | omega)) c5 c6 (by first | assumption | omega | simp_all) (by first | assumption | omega | simp_all) (congrArg Prod.fst hT) (congrArg Prod.snd hT))
          · replace hT := (if_neg h63).symm.trans hT
            obtain ⟨v64, e65⟩ : ∃ v, v = B 54 (fd 0) := ⟨_, rfl⟩
            have q66 : v42 = v64 := (e65.trans e49.symm).symm
            subst q66
            obtain ⟨v67, e68⟩ : ∃ v, v = B 54 (fd 1) := ⟨_, rfl⟩
            have q69 : v44 = v67 := (e68.trans e52.symm).symm
            subst q69
            refine And.intro rfl (And.intro (And.intro i1 (And.intro j1 (And.intro (by rw [← e65]; omega) (by rw [← e68]; omega)))) (fun r70 g73 g74 g71 g72 => ?_))
            replace hT := qlc g72 hT
            clear g72
            refine fun v75 gv75 e76 => ?_
            replace hT := qlc e76 hT
            have b77 := ivf_at j1 1 rfl
            refine fun v78 e79 => ?_
            replace hT := qlc e79 hT
            refine And.intro (by (first | (clear hm hnf; omega) | omega)) (fun A80 e81 => ?_)
            replace hT := qlc e81 hT
            have i82 := iva_sf i1 e81 rfl
            have j83 := ivf_st j1 e81 (And.intro (by (first | (clear hm hnf; omega) | omega)) trivial)
            have f84 := frm_sf f1 e81 rfl
            have t85 : A80 36 (fd 8) = B 36 (fd 8) := (congrFun (st_a e81 rfl) _)
            have t86 := st_v e81
            have t87 : A80 54 (fd 2) = B 54 (fd 2) := (st_f e81 rfl)
            have kk88 := KO_k c5 (st_a e81 rfl) (st_a e81 rfl) (st_a e81 rfl) (st_a e81 rfl)
            have pf89 := PF_k c6 (st_a e81 rfl)
            obtain ⟨v90, e91⟩ : ∃ v, v = A80 54 (fd 0) := ⟨_, rfl⟩
            have q92 : v42 = v90 := (e91.trans ((st_f e81 rfl).trans e65.symm)).symm
            subst q92
            obtain ⟨v93, e94⟩ : ∃ v, v = A80 54 (fd 1) := ⟨_, rfl⟩
            have q95 : v44 = v93 := (e94.trans ((st_f e81 rfl).trans e68.symm)).symm
            subst q95
            refine Exists.intro l1 (And.intro rfl (And.intro (And.intro i82 (And.intro j83 (And.intro (by (first | (clear hm hnf; omega) | omega)) (And.intro (by (first | (clear hm hnf; omega) | omega)) (And.intro (by rw [← e91]; omega) (And.intro (by rw [← e94]; omega) (And.intro kk88 (And.intro (by first | assumption | omega | simp_all) (by (first | (clear hm hnf; omega) | omega)))))))))) (fun A96 i97 j98 f99 r100 g107 g108 g101 g102 g103 g104 g105 g106 => ?_)))
            replace hT := qlpc g105 g106 hT
            clear g105 g106
            have f109 := frm_c f84 f99 rfl
            have t110 := ivf_at j98 9 rfl
            have t111 := ivf_at j98 1 rfl
            have t112 : A96 54 (fd 2) = A80 54 (fd 2) := (frm_f f99 rfl)
            have pf113 := PF_tr pf89 g102 (by (first | (clear hm hnf; omega) | omega))
            obtain ⟨v114, e115⟩ : ∃ v, v = A96 54 (fd 1) := ⟨_, rfl⟩
            have q116 : v44 = v114 := (e115.trans ((frm_f f99 rfl).trans e94.symm)).symm
            subst q116
            refine And.intro (show A96 54 (fd 1) = ((36 : Nat) : Int) by (first | (clear hm hnf; omega) | omega)) ?_
            refine Exists.intro r70 (Exists.intro 0 (And.intro rfl (And.intro (And.intro i97 (And.intro j98 (And.intro (by (first | (clear hm hnf; omega) | omega)) (And.intro (by (first | (clear hm hnf; omega) | omega)) (And.intro g101 (And.intro (by first | assumption | omega | simp_all) (by first | assumption | omega | simp_all))))))) (fun A117 i118 j119 f120 g121 g122 g123 g124 g125 => ?_))))
            replace hT := qlc g125 hT
            have f126 := frm_c f109 f120 rfl
            have t127 := ivf_at j119 9 rfl
            have t128 : A117 54 (fd 3) = A96 54 (fd 3) := (frm_f f120 rfl)
            have t129 : A117 54 (fd 2) = A96 54 (fd 2) := (frm_f f120 rfl)
            have pf130 := PF_tr pf113 g122 (by (first | (clear hm hnf; omega) | omega))
            refine fun v131 e132 => ?_
            replace hT := qlc e132 hT
            obtain ⟨v133, e134⟩ : ∃ v, v = A117 54 (fd 0) := ⟨_, rfl⟩
            have q135 : v42 = v133 := (e134.trans ((Eq.trans (frm_f f120 rfl) (frm_f f99 rfl)).trans e91.symm)).symm
            subst q135
            obtain ⟨v136, e137⟩ : ∃ v, v = A117 54 (fd 1) := ⟨_, rfl⟩
            have q138 : v44 = v136 := (e137.trans ((frm_f f120 rfl).trans e115.symm)).symm
            subst q138
            exact And.intro (by (first | (clear hm hnf; omega) | omega)) (Exists.intro (200 - v131 : Int).toNat (And.intro (by first | exact qtn hm (by (try clear hm hnf); omega) | omega) (And.intro i118 (And.intro j119 (And.intro f126 (And.intro rfl (And.intro (by rw [← e134]; omega) (And.intro (by rw [← e137]; omega) (And.intro (by (first | (clear hm hnf; omega) | omega)) (And.intro (by (first | (clear hm hnf; omega) | omega)) (And.intro (by (first | (clear hm hnf; omega) | omega)) (And.intro (by (first | (clear hm hnf; omega) | omega)) (And.intro (by (first | (clear hm hnf; omega) | omega)) (And.intro g121 (And.intro pf130 (And.intro (by (first | (clear hm hnf; omega) | omega)) (And.intro (by (first | (clear hm hnf; omega) | omega)) (And.intro (by (first | (clear hm hnf; omega) | omega)) (Exists.intro ng (And.intro (by first | exact qtm hm hnf (by (try clear hm hnf); omega) | omega) hT))))))))))))))))))))
  · obtain ⟨v12, e13⟩ : ∃ v, v = A 54 (fd 0) := ⟨_, rfl⟩
    have q14 : v8 = v12 := (e13.trans e9.symm).symm
    subst q14
    obtain ⟨v15, e16⟩ : ∃ v, v = A 54 (fd 1) := ⟨_, rfl⟩
    have q17 : v10 = v15 := (e16.trans e11.symm).symm
    subst q17
    refine Exists.intro d (And.intro rfl (And.intro (And.intro i0 (And.intro j0 (And.intro (by (first | (clear hm hnf; omega) | omega)) (And.intro (by (first | (clear hm hnf; omega) | omega)) (And.intro (by rw [← e13]; omega) (And.intro (by rw [← e16]; omega) (And.intro p5 (And.intro (by first | assumption | omega | simp_all) (by (first | (clear hm hnf; omega) | omega)))))))))) (fun A18 i19 j20 f21 r22 g29 g30 g23 g24 g25 g26 g27 g28 => ?_)))
    replace hT := qlpc g27 g28 hT
    clear g27 g28
    have f31 := frm_c f0 f21 rfl
    have t32 := ivf_at j20 9 rfl
    have t33 := ivf_at j20 1 rfl
    have t34 : A18 54 (fd 2) = A 54 (fd 2) := (frm_f f21 rfl)
    have pf35 := PF_tr pf0 g24 (by (first | (clear hm hnf; omega) | omega))
    obtain ⟨v36, e37⟩ : ∃ v, v = A18 54 (fd 0) := ⟨_, rfl⟩
    have q38 : v8 = v36 := (e37.trans ((frm_f f21 rfl).trans e13.symm)).symm
    subst q38
    obtain ⟨v39, e40⟩ : ∃ v, v = A18 54 (fd 1) := ⟨_, rfl⟩
    have q41 : v10 = v39 := (e40.trans ((frm_f f21 rfl).trans e16.symm)).symm
    subst q41
    exact Exists.intro (200 - 0 : Int).toNat (And.intro i19 (And.intro j20 (And.intro f31 (And.intro rfl (And.intro (by rw [← e37]; omega) (And.intro (by rw [← e40]; omega) (And.intro (by (first | (clear hm hnf; omega) | omega)) (And.intro (by (first | (clear hm hnf; omega) | omega)) (And.intro (by (first | (clear hm hnf; omega) | omega)) (And.intro (by (first | (clear hm hnf; omega) | omega)) (And.intro (by (first | (clear hm hnf; omega) | omega)) (And.intro g23 (And.intro pf35 (And.intro (by (first | (clear hm hnf; omega) | omega)) (And.intro (by (first | (clear hm hnf; omega) | omega)) (And.intro (by (first | (clear hm hnf; omega) | omega)) (Exists.intro 100000 (And.intro (by (first | (clear hm hnf; omega) | omega)) hT))))))))))))))))))
theorem okC_readSum_36 {e D : Nat} (h_readTerm_36 : okM LC D 58 (sC_readTerm_36 e)) (hD : 6 ≤ D) : okM LC (D + 1) 57 (sC_readSum_36 e) := by
  refine qmeth (D := D) [(54, 0, 52), (54, 1, 36)] false [(58, sC_readTerm_36 e), (46, sC_look_36), (75, sC_putr36)] 44 rfl ⟨h_readTerm_36, ⟨okC_look_36.le (by (first | (clear hm hnf; omega) | omega)), ⟨okC_putr36.le (by (first | (clear hm hnf; omega) | omega)), trivial⟩⟩⟩ ?_
  rintro _ A K hA has ⟨d, rfl, ⟨i0, j0, p1, p2, p3, p4, p5, p6, p7⟩, hK⟩
  have rg_d : rng d := has (ni d) (by simp)
  have f0 := frm_0 [37, 38] [(36, 8), (54, 3), (54, 4)] A
  obtain ⟨v8, e9⟩ : ∃ v, v = A 54 (fd 0) := ⟨_, rfl⟩
  rw [← e9] at p3
  obtain ⟨v10, e11⟩ : ∃ v, v = A 54 (fd 1) := ⟨_, rfl⟩
  rw [← e11] at p4
  have pf0 := PF_rf 36 A
  have hb_36_8 := ivf_at j0 9 rfl
  have hb_54_3 := ivf_at j0 1 rfl
  have hb_54_2 := ivf_at j0 0 rfl
  have hT : _ = fC_readSum_36 e d A := (fC_readSum_36_B.eq_1 (fC_readTerm_36 e) d A).symm
  refine ⟨Nat.le_of_ble_eq_true rfl, [(6, [(0, 2, 54), (1, 0, 0), (2, 0, 0), (3, 0, 0)], fun zs B nn => match zs with | [l1, w, i] => iva IC B ∧ ivf JC B ∧ frm [37, 38] [(36, 8), (54, 3), (54, 4)] A B ∧ nn = (200 - i : Int).toNat ∧ (52 ≤ B 54 (fd 0) ∧ B 54 (fd 0) ≤ 52) ∧ (36 ≤ B 54 (fd 1) ∧ B 54 (fd 1) ≤ 36) ∧ (l1 = d) ∧ (0 ≤ i) ∧ (i ≤ 200) ∧ (0 ≤ w) ∧ (w ≤ 1) ∧ (KO B) ∧ (PF 36 A B) ∧ (A 36 (fd 8) ≤ B 36 (fd 8)) ∧ (B 36 (fd 8) + A 54 (fd 3) ≤ A 36 (fd 8) + B 54 (fd 3)) ∧ (B 36 (fd 8) ≤ B 54 (fd 3)) ∧ (∃ nf : Nat, nn < nf ∧ fC_readSum_36_B_L (fC_readTerm_36 e) nf 6 [l1, w, i] B = fC_readSum_36 e d A) | _ => False)], ?_, ?_⟩
  · refine ⟨⟨rfl, ?_⟩, trivial⟩
    · refine fun l1 w i B mm hB hz hI => ?_
      obtain ⟨i1, j1, f1, hm, d0, d1, c0, c1, c2, c3, c4, c5, c6, c7, c8, c9, ⟨nf, hnf, hT⟩⟩ := hI
      obtain ⟨hz_l1, hz_w, hz_i, _⟩ := hz
      obtain ⟨ng, rfl⟩ : ∃ k, nf = k + 1 := ⟨nf - 1, by omega⟩
      replace hT := (fC_readSum_36_B_c6.eq_1 (fC_readTerm_36 e) (fC_readSum_36_B_L (fC_readTerm_36 e) ng) l1 w i B).symm.trans ((fC_readSum_36_B_L6 (fC_readTerm_36 e) ng l1 w i B).symm.trans hT)
      obtain ⟨v42, e43⟩ : ∃ v, v = B 54 (fd 0) := ⟨_, rfl⟩
      rw [← e43] at d0
      obtain ⟨v44, e45⟩ : ∃ v, v = B 54 (fd 1) := ⟨_, rfl⟩
      rw [← e45] at d1
      have hc_36_8 := ivf_at j1 9 rfl
      have hc_54_3 := ivf_at j1 1 rfl
      have hc_54_2 := ivf_at j1 0 rfl
      have hc_t : B 54 (fd 2) = A 54 (fd 2) := frm_f f1 rfl
      have hc_w : B 53 = A 53 := frm_a f1 rfl
      refine And.intro (fun h46 => ?_) (fun h46 => ?_)
      · replace hT := (if_neg (Int.not_lt.mpr h46)).symm.trans hT
        exact And.intro (by (first | (clear hm hnf; omega) | omega)) (hK _ i1 j1 f1 _ (by (first | (clear hm hnf; omega) | omega)) (by (first | (clear hm hnf; omega) | omega)) c5 c6 (by first | assumption | omega | simp_all) (by first | assumption | omega | simp_all) (congrArg Prod.fst hT) (congrArg Prod.snd hT))
      · replace hT := (if_pos h46).symm.trans hT
        refine And.intro (fun h47 => ?_) (fun h47 => ?_)
        · replace hT := (if_pos h47).symm.trans hT
          exact And.intro (by (first | (clear hm hnf; omega) | omega)) (hK _ i1 j1 f1 _ (by (first | (clear hm hnf; omega) | omega)) (by (first | (clear hm hnf; omega) | omega)) c5 c6 (by first | assumption | omega | simp_all) (by first | assumption | omega | simp_all) (congrArg Prod.fst hT) (congrArg Prod.snd hT))
        · replace hT := (if_neg h47).symm.trans hT
          obtain ⟨v48, e49⟩ : ∃ v, v = B 54 (fd 0) := ⟨_, rfl⟩
          have q50 : v42 = v48 := (e49.trans e43.symm).symm
          subst q50
          obtain ⟨v51, e52⟩ : ∃ v, v = B 54 (fd 1) := ⟨_, rfl⟩
          have q53 : v44 = v51 := (e52.trans e45.symm).symm
          subst q53
          refine And.intro rfl (And.intro (And.intro i1 (And.intro j1 (And.intro (by rw [← e49]; omega) (by rw [← e52]; omega)))) (fun r54 g57 g58 g55 g56 => ?_))
          replace hT := qlc g56 hT
          clear g56
          refine fun v59 e60 => ?_
          replace hT := qlc e60 hT
          have h61 := qone_bd 3 r54
          rw [← e60] at h61
          have h62 := qone_p (s := 3) (x := r54) (by (first | (clear hm hnf; omega) | omega))
          refine And.intro (fun h63 => ?_) (fun h63 => ?_)
          · replace hT := (if_pos h63).symm.trans hT
            exact And.intro (by (first | (clear hm hnf; omega) | omega)) (hK _ i1 j1 f1 _ (by (first | (clear hm hnf; omega) | omega)) (by (first | (clear hm hnf; omega) | omega)) c5 c6 (by first | assumption | omega | simp_all) (by first | assumption | omega | simp_all) (congrArg Prod.fst hT) (congrArg Prod.snd hT))
          · replace hT := (if_neg h63).symm.trans hT
            obtain ⟨v64, e65⟩ : ∃ v, v = B 54 (fd 0) := ⟨_, rfl⟩
            have q66 : v42 = v64 := (e65.trans e49.symm).symm
            subst q66
            obtain ⟨v67, e68⟩ : ∃ v, v = B 54 (fd 1) := ⟨_, rfl⟩
            have q69 : v44 = v67 := (e68.trans e52.symm).symm
            subst q69
            refine And.intro rfl (And.intro (And.intro i1 (And.intro j1 (And.intro (by rw [← e65]; omega) (by rw [← e68]; omega)))) (fun r70 g73 g74 g71 g72 => ?_))
            replace hT := qlc g72 hT
            clear g72
            refine fun v75 gv75 e76 => ?_
            replace hT := qlc e76 hT
            have b77 := ivf_at j1 1 rfl
            refine fun v78 e79 => ?_
            replace hT := qlc e79 hT
            refine And.intro (by (first | (clear hm hnf; omega) | omega)) (fun A80 e81 => ?_)
            replace hT := qlc e81 hT
            have i82 := iva_sf i1 e81 rfl
            have j83 := ivf_st j1 e81 (And.intro (by (first | (clear hm hnf; omega) | omega)) trivial)
            have f84 := frm_sf f1 e81 rfl
            have t85 : A80 36 (fd 8) = B 36 (fd 8) := (congrFun (st_a e81 rfl) _)
            have t86 := st_v e81
            have t87 : A80 54 (fd 2) = B 54 (fd 2) := (st_f e81 rfl)
            have kk88 := KO_k c5 (st_a e81 rfl) (st_a e81 rfl) (st_a e81 rfl) (st_a e81 rfl)
            have pf89 := PF_k c6 (st_a e81 rfl)
            obtain ⟨v90, e91⟩ : ∃ v, v = A80 54 (fd 0) := ⟨_, rfl⟩
            have q92 : v42 = v90 := (e91.trans ((st_f e81 rfl).trans e65.symm)).symm
            subst q92
            obtain ⟨v93, e94⟩ : ∃ v, v = A80 54 (fd 1) := ⟨_, rfl⟩
            have q95 : v44 = v93 := (e94.trans ((st_f e81 rfl).trans e68.symm)).symm
            subst q95
            refine Exists.intro l1 (And.intro rfl (And.intro (And.intro i82 (And.intro j83 (And.intro (by (first | (clear hm hnf; omega) | omega)) (And.intro (by (first | (clear hm hnf; omega) | omega)) (And.intro (by rw [← e91]; omega) (And.intro (by rw [← e94]; omega) (And.intro kk88 (And.intro (by first | assumption | omega | simp_all) (by (first | (clear hm hnf; omega) | omega)))))))))) (fun A96 i97 j98 f99 r100 g107 g108 g101 g102 g103 g104 g105 g106 => ?_)))
            replace hT := qlpc g105 g106 hT
            clear g105 g106
            have f109 := frm_c f84 f99 rfl
            have t110 := ivf_at j98 9 rfl
            have t111 := ivf_at j98 1 rfl
            have t112 : A96 54 (fd 2) = A80 54 (fd 2) := (frm_f f99 rfl)
            have pf113 := PF_tr pf89 g102 (by (first | (clear hm hnf; omega) | omega))
            obtain ⟨v114, e115⟩ : ∃ v, v = A96 54 (fd 1) := ⟨_, rfl⟩
            have q116 : v44 = v114 := (e115.trans ((frm_f f99 rfl).trans e94.symm)).symm
            subst q116
            refine And.intro (show A96 54 (fd 1) = ((36 : Nat) : Int) by (first | (clear hm hnf; omega) | omega)) ?_
            refine Exists.intro r70 (Exists.intro 0 (And.intro rfl (And.intro (And.intro i97 (And.intro j98 (And.intro (by (first | (clear hm hnf; omega) | omega)) (And.intro (by (first | (clear hm hnf; omega) | omega)) (And.intro g101 (And.intro (by first | assumption | omega | simp_all) (by first | assumption | omega | simp_all))))))) (fun A117 i118 j119 f120 g121 g122 g123 g124 g125 => ?_))))
            replace hT := qlc g125 hT
            have f126 := frm_c f109 f120 rfl
            have t127 := ivf_at j119 9 rfl
            have t128 : A117 54 (fd 3) = A96 54 (fd 3) := (frm_f f120 rfl)
            have t129 : A117 54 (fd 2) = A96 54 (fd 2) := (frm_f f120 rfl)
            have pf130 := PF_tr pf113 g122 (by (first | (clear hm hnf; omega) | omega))
            refine fun v131 e132 => ?_
            replace hT := qlc e132 hT
            obtain ⟨v133, e134⟩ : ∃ v, v = A117 54 (fd 0) := ⟨_, rfl⟩
            have q135 : v42 = v133 := (e134.trans ((Eq.trans (frm_f f120 rfl) (frm_f f99 rfl)).trans e91.symm)).symm
            subst q135
            obtain ⟨v136, e137⟩ : ∃ v, v = A117 54 (fd 1) := ⟨_, rfl⟩
            have q138 : v44 = v136 := (e137.trans ((frm_f f120 rfl).trans e115.symm)).symm
            subst q138
            exact And.intro (by (first | (clear hm hnf; omega) | omega)) (Exists.intro (200 - v131 : Int).toNat (And.intro (by first | exact qtn hm (by (try clear hm hnf); omega) | omega) (And.intro i118 (And.intro j119 (And.intro f126 (And.intro rfl (And.intro (by rw [← e134]; omega) (And.intro (by rw [← e137]; omega) (And.intro (by (first | (clear hm hnf; omega) | omega)) (And.intro (by (first | (clear hm hnf; omega) | omega)) (And.intro (by (first | (clear hm hnf; omega) | omega)) (And.intro (by (first | (clear hm hnf; omega) | omega)) (And.intro (by (first | (clear hm hnf; omega) | omega)) (And.intro g121 (And.intro pf130 (And.intro (by (first | (clear hm hnf; omega) | omega)) (And.intro (by (first | (clear hm hnf; omega) | omega)) (And.intro (by (first | (clear hm hnf; omega) | omega)) (Exists.intro ng (And.intro (by first | exact qtm hm hnf (by (try clear hm hnf); omega) | omega) hT))))))))))))))))))))
  · obtain ⟨v12, e13⟩ : ∃ v, v = A 54 (fd 0) := ⟨_, rfl⟩
    have q14 : v8 = v12 := (e13.trans e9.symm).symm
    subst q14
    obtain ⟨v15, e16⟩ : ∃ v, v = A 54 (fd 1) := ⟨_, rfl⟩
    have q17 : v10 = v15 := (e16.trans e11.symm).symm
    subst q17
    refine Exists.intro d (And.intro rfl (And.intro (And.intro i0 (And.intro j0 (And.intro (by (first | (clear hm hnf; omega) | omega)) (And.intro (by (first | (clear hm hnf; omega) | omega)) (And.intro (by rw [← e13]; omega) (And.intro (by rw [← e16]; omega) (And.intro p5 (And.intro (by first | assumption | omega | simp_all) (by (first | (clear hm hnf; omega) | omega)))))))))) (fun A18 i19 j20 f21 r22 g29 g30 g23 g24 g25 g26 g27 g28 => ?_)))
    replace hT := qlpc g27 g28 hT
    clear g27 g28
    have f31 := frm_c f0 f21 rfl
    have t32 := ivf_at j20 9 rfl
    have t33 := ivf_at j20 1 rfl
    have t34 : A18 54 (fd 2) = A 54 (fd 2) := (frm_f f21 rfl)
    have pf35 := PF_tr pf0 g24 (by (first | (clear hm hnf; omega) | omega))
    obtain ⟨v36, e37⟩ : ∃ v, v = A18 54 (fd 0) := ⟨_, rfl⟩
    have q38 : v8 = v36 := (e37.trans ((frm_f f21 rfl).trans e13.symm)).symm
    subst q38
    obtain ⟨v39, e40⟩ : ∃ v, v = A18 54 (fd 1) := ⟨_, rfl⟩
    have q41 : v10 = v39 := (e40.trans ((frm_f f21 rfl).trans e16.symm)).symm
    subst q41
    exact Exists.intro (200 - 0 : Int).toNat (And.intro i19 (And.intro j20 (And.intro f31 (And.intro rfl (And.intro (by rw [← e37]; omega) (And.intro (by rw [← e40]; omega) (And.intro (by (first | (clear hm hnf; omega) | omega)) (And.intro (by (first | (clear hm hnf; omega) | omega)) (And.intro (by (first | (clear hm hnf; omega) | omega)) (And.intro (by (first | (clear hm hnf; omega) | omega)) (And.intro (by (first | (clear hm hnf; omega) | omega)) (And.intro g23 (And.intro pf35 (And.intro (by (first | (clear hm hnf; omega) | omega)) (And.intro (by (first | (clear hm hnf; omega) | omega)) (And.intro (by (first | (clear hm hnf; omega) | omega)) (Exists.intro 100000 (And.intro (by (first | (clear hm hnf; omega) | omega)) hT))))))))))))))))))
theorem okC_readFactorZ_36 {D : Nat} (hD : 6 ≤ D) : okM LC (D + 1) 59 (sC_readFactor_36 0) := by
  refine qmeth (D := D) [(54, 0, 52), (54, 1, 36)] false [(46, sC_look_36), (60, sC_isDigit), (61, sC_readNumber_36), (75, sC_putr36), (47, sC_fail_36), (49, sC_enter_36)] 60 rfl ⟨okC_look_36.le (by (first | (clear hm hnf; omega) | omega)), ⟨okC_isDigit.le (by (first | (clear hm hnf; omega) | omega)), ⟨okC_readNumber_36.le (by (first | (clear hm hnf; omega) | omega)), ⟨okC_putr36.le (by (first | (clear hm hnf; omega) | omega)), ⟨okC_fail_36.le (by (first | (clear hm hnf; omega) | omega)), ⟨okC_enter_36.le (by (first | (clear hm hnf; omega) | omega)), trivial⟩⟩⟩⟩⟩⟩ ?_
  rintro _ A K hA has ⟨d, rfl, ⟨i0, j0, p1, p2, p3, p4, p5, p6, p7⟩, hK⟩
  have rg_d : rng d := has (ni d) (by simp)
  have f0 := frm_0 [37, 38] [(36, 8), (54, 3), (54, 4)] A
  obtain ⟨v8, e9⟩ : ∃ v, v = A 54 (fd 0) := ⟨_, rfl⟩
  rw [← e9] at p3
  obtain ⟨v10, e11⟩ : ∃ v, v = A 54 (fd 1) := ⟨_, rfl⟩
  rw [← e11] at p4
  have pf0 := PF_rf 36 A
  have hb_36_8 := ivf_at j0 9 rfl
  have hb_54_3 := ivf_at j0 1 rfl
  have hb_54_2 := ivf_at j0 0 rfl
  have hT : _ = fC_readFactor_36 0 d A := (fC_readFactorZ_36_B.eq_1 d A).symm
  refine ⟨Nat.le_of_ble_eq_true rfl, [], trivial, ?_⟩
  obtain ⟨v12, e13⟩ : ∃ v, v = A 54 (fd 0) := ⟨_, rfl⟩
  have q14 : v8 = v12 := (e13.trans e9.symm).symm
  subst q14
  obtain ⟨v15, e16⟩ : ∃ v, v = A 54 (fd 1) := ⟨_, rfl⟩
  have q17 : v10 = v15 := (e16.trans e11.symm).symm
  subst q17
  refine And.intro rfl (And.intro (And.intro i0 (And.intro j0 (And.intro (by rw [← e13]; omega) (by rw [← e16]; omega)))) (fun r18 g21 g22 g19 g20 => ?_))
  replace hT := qlc g20 hT
  clear g20
  refine And.intro (fun h23 => ?_) (fun h23 => ?_)
  · replace hT := (if_neg h23).symm.trans hT
    refine Exists.intro r18 (And.intro rfl (And.intro (fun h24 => ?_) (fun h24 => ?_)))
    · replace hT := (if_pos h24).symm.trans hT
      refine And.intro (fun h25 => by exfalso; omega) (fun h25 => ?_)
      obtain ⟨v26, e27⟩ : ∃ v, v = A 54 (fd 0) := ⟨_, rfl⟩
      have q28 : v8 = v26 := (e27.trans e13.symm).symm
      subst q28
      obtain ⟨v29, e30⟩ : ∃ v, v = A 54 (fd 1) := ⟨_, rfl⟩
      have q31 : v10 = v29 := (e30.trans e16.symm).symm
      subst q31
      refine And.intro rfl (And.intro (And.intro i0 (And.intro j0 (And.intro (by rw [← e27]; omega) (And.intro (by rw [← e30]; omega) (And.intro p5 (And.intro (by first | assumption | omega | simp_all) (And.intro (by first | assumption | omega | simp_all) (And.intro (by first | assumption | omega | simp_all) (by first | assumption | omega | simp_all))))))))) (fun A32 i33 j34 f35 r36 g43 g44 g37 g38 g39 g40 g41 g42 => ?_))
      replace hT := qlpc g41 g42 hT
      clear g41 g42
      have f45 := frm_c f0 f35 rfl
      have t46 := ivf_at j34 9 rfl
      have t47 := ivf_at j34 1 rfl
      have t48 : A32 54 (fd 2) = A 54 (fd 2) := (frm_f f35 rfl)
      have pf49 := PF_tr pf0 g38 (by (first | (clear hm hnf; omega) | omega))
      exact And.intro (by (first | (clear hm hnf; omega) | omega)) (hK _ i33 j34 f45 _ (by (first | (clear hm hnf; omega) | omega)) (by (first | (clear hm hnf; omega) | omega)) g37 pf49 (by first | assumption | omega | simp_all) (by first | assumption | omega | simp_all) (congrArg Prod.fst hT) (congrArg Prod.snd hT))
    · replace hT := (if_neg h24).symm.trans hT
      refine And.intro (fun h50 => ?_) (fun h50 => by exfalso; omega)
      refine fun v51 e52 => ?_
      replace hT := qlc e52 hT
      have h53 := qone_bd 0 r18
      rw [← e52] at h53
      have h54 := qone_p (s := 0) (x := r18) (by (first | (clear hm hnf; omega) | omega))
      refine And.intro (fun h55 => ?_) (fun h55 => ?_)
      · replace hT := (if_neg h55).symm.trans hT
        obtain ⟨v56, e57⟩ : ∃ v, v = A 54 (fd 1) := ⟨_, rfl⟩
        have q58 : v10 = v56 := (e57.trans e16.symm).symm
        subst q58
        refine And.intro (show A 54 (fd 1) = ((36 : Nat) : Int) by (first | (clear hm hnf; omega) | omega)) ?_
        refine fun v59 e60 => ?_
        replace hT := qlc e60 hT
        have h61 := qix_bd 0 r18
        rw [← e60] at h61
        refine Exists.intro 107 (Exists.intro v59 (And.intro rfl (And.intro (And.intro i0 (And.intro j0 (And.intro (by (first | (clear hm hnf; omega) | omega)) (And.intro (by (first | (clear hm hnf; omega) | omega)) (And.intro p5 (And.intro (by first | assumption | omega | simp_all) (by first | assumption | omega | simp_all))))))) (fun A62 i63 j64 f65 g66 g67 g68 g69 g70 => ?_))))
        replace hT := qlc g70 hT
        have f71 := frm_c f0 f65 rfl
        have t72 := ivf_at j64 9 rfl
        have t73 : A62 54 (fd 3) = A 54 (fd 3) := (frm_f f65 rfl)
        have t74 : A62 54 (fd 2) = A 54 (fd 2) := (frm_f f65 rfl)
        have pf75 := PF_tr pf0 g67 (by (first | (clear hm hnf; omega) | omega))
        refine fun v76 gv76 e77 => ?_
        replace hT := qlc e77 hT
        have b78 := ivf_at j64 1 rfl
        refine fun v79 e80 => ?_
        replace hT := qlc e80 hT
        refine And.intro (by (first | (clear hm hnf; omega) | omega)) (fun A81 e82 => ?_)
        replace hT := qlc e82 hT
        have i83 := iva_sf i63 e82 rfl
        have j84 := ivf_st j64 e82 (And.intro (by (first | (clear hm hnf; omega) | omega)) trivial)
        have f85 := frm_sf f71 e82 rfl
        have t86 : A81 36 (fd 8) = A62 36 (fd 8) := (congrFun (st_a e82 rfl) _)
        have t87 := st_v e82
        have t88 : A81 54 (fd 2) = A62 54 (fd 2) := (st_f e82 rfl)
        have kk89 := KO_k g66 (st_a e82 rfl) (st_a e82 rfl) (st_a e82 rfl) (st_a e82 rfl)
        have pf90 := PF_k pf75 (st_a e82 rfl)
        exact And.intro (by (first | (clear hm hnf; omega) | omega)) (hK _ i83 j84 f85 _ (by (first | (clear hm hnf; omega) | omega)) (by (first | (clear hm hnf; omega) | omega)) kk89 pf90 (by first | assumption | omega | simp_all) (by first | assumption | omega | simp_all) (congrArg Prod.fst hT) (congrArg Prod.snd hT))
      · replace hT := (if_pos h55).symm.trans hT
        obtain ⟨v91, e92⟩ : ∃ v, v = A 54 (fd 0) := ⟨_, rfl⟩
        have q93 : v8 = v91 := (e92.trans e13.symm).symm
        subst q93
        obtain ⟨v94, e95⟩ : ∃ v, v = A 54 (fd 1) := ⟨_, rfl⟩
        have q96 : v10 = v94 := (e95.trans e16.symm).symm
        subst q96
        refine Exists.intro 1 (And.intro rfl (And.intro (And.intro i0 (And.intro j0 (And.intro (by (first | (clear hm hnf; omega) | omega)) (And.intro (by (first | (clear hm hnf; omega) | omega)) (And.intro (by rw [← e92]; omega) (by rw [← e95]; omega)))))) (fun A97 i98 j99 f100 g101 => (fun h102 => ?_))))
        · replace hT := qlc g101 hT
          have f103 := frm_c f0 f100 rfl
          have t104 : A97 36 (fd 8) = A 36 (fd 8) := (frm_f f100 rfl)
          have t105 : A97 54 (fd 3) = A 54 (fd 3) := (frm_f f100 rfl)
          have t106 : A97 54 (fd 2) = A 54 (fd 2) := (frm_f f100 rfl)
          have kk107 := KO_fr p5 f100 rfl
          have pf108 := PF_k pf0 (frm_a f100 rfl)
          exact And.intro (by (first | (clear hm hnf; omega) | omega)) (hK _ i98 j99 f103 _ (by (first | (clear hm hnf; omega) | omega)) (by (first | (clear hm hnf; omega) | omega)) kk107 pf108 (by first | assumption | omega | simp_all) (by first | assumption | omega | simp_all) (congrArg Prod.fst hT) (congrArg Prod.snd hT))
  · replace hT := (if_pos h23).symm.trans hT
    obtain ⟨v109, e110⟩ : ∃ v, v = A 54 (fd 0) := ⟨_, rfl⟩
    have q111 : v8 = v109 := (e110.trans e13.symm).symm
    subst q111
    obtain ⟨v112, e113⟩ : ∃ v, v = A 54 (fd 1) := ⟨_, rfl⟩
    have q114 : v10 = v112 := (e113.trans e16.symm).symm
    subst q114
    refine Exists.intro d (And.intro rfl (And.intro (And.intro i0 (And.intro j0 (And.intro (by (first | (clear hm hnf; omega) | omega)) (And.intro (by (first | (clear hm hnf; omega) | omega)) (And.intro (by rw [← e110]; omega) (And.intro (by rw [← e113]; omega) (And.intro p5 (by first | assumption | omega | simp_all)))))))) (fun A115 i116 j117 f118 g119 g120 g121 => (And.intro (fun h122 => by exfalso; omega) (fun h122 => ?_)))))
    · replace hT := qlc g121 hT
      have f123 := frm_c f0 f118 rfl
      have t124 : A115 36 (fd 8) = A 36 (fd 8) := (frm_f f118 rfl)
      have t125 := ivf_at j117 1 rfl
      have t126 : A115 54 (fd 2) = A 54 (fd 2) := (frm_f f118 rfl)
      have kk127 := KO_fr p5 f118 rfl
      have pf128 := PF_k pf0 (frm_a f118 rfl)
      refine And.intro (fun h129 => ?_) (fun h129 => by exfalso; omega)
      exact And.intro (by (first | (clear hm hnf; omega) | omega)) (hK _ i116 j117 f123 _ (by (first | (clear hm hnf; omega) | omega)) (by (first | (clear hm hnf; omega) | omega)) kk127 pf128 (by first | assumption | omega | simp_all) (by first | assumption | omega | simp_all) (congrArg Prod.fst hT) (congrArg Prod.snd hT))
theorem okC_readFactorS_36 {e D : Nat} (h_readSum_36 : okM LC D 57 (sC_readSum_36 e)) (hD : 6 ≤ D) : okM LC (D + 1) 59 (sC_readFactor_36 (e + 1)) := by
  refine qmeth (D := D) [(54, 0, 52), (54, 1, 36)] false [(46, sC_look_36), (60, sC_isDigit), (61, sC_readNumber_36), (75, sC_putr36), (47, sC_fail_36), (49, sC_enter_36), (57, sC_readSum_36 e), (48, sC_expect_36)] 60 rfl ⟨okC_look_36.le (by (first | (clear hm hnf; omega) | omega)), ⟨okC_isDigit.le (by (first | (clear hm hnf; omega) | omega)), ⟨okC_readNumber_36.le (by (first | (clear hm hnf; omega) | omega)), ⟨okC_putr36.le (by (first | (clear hm hnf; omega) | omega)), ⟨okC_fail_36.le (by (first | (clear hm hnf; omega) | omega)), ⟨okC_enter_36.le (by (first | (clear hm hnf; omega) | omega)), ⟨h_readSum_36, ⟨okC_expect_36.le (by (first | (clear hm hnf; omega) | omega)), trivial⟩⟩⟩⟩⟩⟩⟩⟩ ?_
  rintro _ A K hA has ⟨d, rfl, ⟨i0, j0, p1, p2, p3, p4, p5, p6, p7⟩, hK⟩
  have rg_d : rng d := has (ni d) (by simp)
  have f0 := frm_0 [37, 38] [(36, 8), (54, 3), (54, 4)] A
  obtain ⟨v8, e9⟩ : ∃ v, v = A 54 (fd 0) := ⟨_, rfl⟩
  rw [← e9] at p3
  obtain ⟨v10, e11⟩ : ∃ v, v = A 54 (fd 1) := ⟨_, rfl⟩
  rw [← e11] at p4
  have pf0 := PF_rf 36 A
  have hb_36_8 := ivf_at j0 9 rfl
  have hb_54_3 := ivf_at j0 1 rfl
  have hb_54_2 := ivf_at j0 0 rfl
  have hT : _ = fC_readFactor_36 (e + 1) d A := (fC_readFactorS_36_B.eq_1 (fC_readSum_36 e) d A).symm
  refine ⟨Nat.le_of_ble_eq_true rfl, [], trivial, ?_⟩
  obtain ⟨v12, e13⟩ : ∃ v, v = A 54 (fd 0) := ⟨_, rfl⟩
  have q14 : v8 = v12 := (e13.trans e9.symm).symm
  subst q14
  obtain ⟨v15, e16⟩ : ∃ v, v = A 54 (fd 1) := ⟨_, rfl⟩
  have q17 : v10 = v15 := (e16.trans e11.symm).symm
  subst q17
  refine And.intro rfl (And.intro (And.intro i0 (And.intro j0 (And.intro (by rw [← e13]; omega) (by rw [← e16]; omega)))) (fun r18 g21 g22 g19 g20 => ?_))
  replace hT := qlc g20 hT
  clear g20
  refine And.intro (fun h23 => ?_) (fun h23 => ?_)
  · replace hT := (if_neg h23).symm.trans hT
    refine Exists.intro r18 (And.intro rfl (And.intro (fun h24 => ?_) (fun h24 => ?_)))
    · replace hT := (if_pos h24).symm.trans hT
      refine And.intro (fun h25 => by exfalso; omega) (fun h25 => ?_)
      obtain ⟨v26, e27⟩ : ∃ v, v = A 54 (fd 0) := ⟨_, rfl⟩
      have q28 : v8 = v26 := (e27.trans e13.symm).symm
      subst q28
      obtain ⟨v29, e30⟩ : ∃ v, v = A 54 (fd 1) := ⟨_, rfl⟩
      have q31 : v10 = v29 := (e30.trans e16.symm).symm
      subst q31
      refine And.intro rfl (And.intro (And.intro i0 (And.intro j0 (And.intro (by rw [← e27]; omega) (And.intro (by rw [← e30]; omega) (And.intro p5 (And.intro (by first | assumption | omega | simp_all) (And.intro (by first | assumption | omega | simp_all) (And.intro (by first | assumption | omega | simp_all) (by first | assumption | omega | simp_all))))))))) (fun A32 i33 j34 f35 r36 g43 g44 g37 g38 g39 g40 g41 g42 => ?_))
      replace hT := qlpc g41 g42 hT
      clear g41 g42
      have f45 := frm_c f0 f35 rfl
      have t46 := ivf_at j34 9 rfl
      have t47 := ivf_at j34 1 rfl
      have t48 : A32 54 (fd 2) = A 54 (fd 2) := (frm_f f35 rfl)
      have pf49 := PF_tr pf0 g38 (by (first | (clear hm hnf; omega) | omega))
      exact And.intro (by (first | (clear hm hnf; omega) | omega)) (hK _ i33 j34 f45 _ (by (first | (clear hm hnf; omega) | omega)) (by (first | (clear hm hnf; omega) | omega)) g37 pf49 (by first | assumption | omega | simp_all) (by first | assumption | omega | simp_all) (congrArg Prod.fst hT) (congrArg Prod.snd hT))
    · replace hT := (if_neg h24).symm.trans hT
      refine And.intro (fun h50 => ?_) (fun h50 => by exfalso; omega)
      refine fun v51 e52 => ?_
      replace hT := qlc e52 hT
      have h53 := qone_bd 0 r18
      rw [← e52] at h53
      have h54 := qone_p (s := 0) (x := r18) (by (first | (clear hm hnf; omega) | omega))
      refine And.intro (fun h55 => ?_) (fun h55 => ?_)
      · replace hT := (if_neg h55).symm.trans hT
        obtain ⟨v56, e57⟩ : ∃ v, v = A 54 (fd 1) := ⟨_, rfl⟩
        have q58 : v10 = v56 := (e57.trans e16.symm).symm
        subst q58
        refine And.intro (show A 54 (fd 1) = ((36 : Nat) : Int) by (first | (clear hm hnf; omega) | omega)) ?_
        refine fun v59 e60 => ?_
        replace hT := qlc e60 hT
        have h61 := qix_bd 0 r18
        rw [← e60] at h61
        refine Exists.intro 107 (Exists.intro v59 (And.intro rfl (And.intro (And.intro i0 (And.intro j0 (And.intro (by (first | (clear hm hnf; omega) | omega)) (And.intro (by (first | (clear hm hnf; omega) | omega)) (And.intro p5 (And.intro (by first | assumption | omega | simp_all) (by first | assumption | omega | simp_all))))))) (fun A62 i63 j64 f65 g66 g67 g68 g69 g70 => ?_))))
        replace hT := qlc g70 hT
        have f71 := frm_c f0 f65 rfl
        have t72 := ivf_at j64 9 rfl
        have t73 : A62 54 (fd 3) = A 54 (fd 3) := (frm_f f65 rfl)
        have t74 : A62 54 (fd 2) = A 54 (fd 2) := (frm_f f65 rfl)
        have pf75 := PF_tr pf0 g67 (by (first | (clear hm hnf; omega) | omega))
        refine fun v76 gv76 e77 => ?_
        replace hT := qlc e77 hT
        have b78 := ivf_at j64 1 rfl
        refine fun v79 e80 => ?_
        replace hT := qlc e80 hT
        refine And.intro (by (first | (clear hm hnf; omega) | omega)) (fun A81 e82 => ?_)
        replace hT := qlc e82 hT
        have i83 := iva_sf i63 e82 rfl
        have j84 := ivf_st j64 e82 (And.intro (by (first | (clear hm hnf; omega) | omega)) trivial)
        have f85 := frm_sf f71 e82 rfl
        have t86 : A81 36 (fd 8) = A62 36 (fd 8) := (congrFun (st_a e82 rfl) _)
        have t87 := st_v e82
        have t88 : A81 54 (fd 2) = A62 54 (fd 2) := (st_f e82 rfl)
        have kk89 := KO_k g66 (st_a e82 rfl) (st_a e82 rfl) (st_a e82 rfl) (st_a e82 rfl)
        have pf90 := PF_k pf75 (st_a e82 rfl)
        exact And.intro (by (first | (clear hm hnf; omega) | omega)) (hK _ i83 j84 f85 _ (by (first | (clear hm hnf; omega) | omega)) (by (first | (clear hm hnf; omega) | omega)) kk89 pf90 (by first | assumption | omega | simp_all) (by first | assumption | omega | simp_all) (congrArg Prod.fst hT) (congrArg Prod.snd hT))
      · replace hT := (if_pos h55).symm.trans hT
        obtain ⟨v91, e92⟩ : ∃ v, v = A 54 (fd 0) := ⟨_, rfl⟩
        have q93 : v8 = v91 := (e92.trans e13.symm).symm
        subst q93
        obtain ⟨v94, e95⟩ : ∃ v, v = A 54 (fd 1) := ⟨_, rfl⟩
        have q96 : v10 = v94 := (e95.trans e16.symm).symm
        subst q96
        refine Exists.intro 1 (And.intro rfl (And.intro (And.intro i0 (And.intro j0 (And.intro (by (first | (clear hm hnf; omega) | omega)) (And.intro (by (first | (clear hm hnf; omega) | omega)) (And.intro (by rw [← e92]; omega) (by rw [← e95]; omega)))))) (fun A97 i98 j99 f100 g101 => (fun h102 => ?_))))
        · replace hT := qlc g101 hT
          have f103 := frm_c f0 f100 rfl
          have t104 : A97 36 (fd 8) = A 36 (fd 8) := (frm_f f100 rfl)
          have t105 : A97 54 (fd 3) = A 54 (fd 3) := (frm_f f100 rfl)
          have t106 : A97 54 (fd 2) = A 54 (fd 2) := (frm_f f100 rfl)
          have kk107 := KO_fr p5 f100 rfl
          have pf108 := PF_k pf0 (frm_a f100 rfl)
          exact And.intro (by (first | (clear hm hnf; omega) | omega)) (hK _ i98 j99 f103 _ (by (first | (clear hm hnf; omega) | omega)) (by (first | (clear hm hnf; omega) | omega)) kk107 pf108 (by first | assumption | omega | simp_all) (by first | assumption | omega | simp_all) (congrArg Prod.fst hT) (congrArg Prod.snd hT))
  · replace hT := (if_pos h23).symm.trans hT
    obtain ⟨v109, e110⟩ : ∃ v, v = A 54 (fd 0) := ⟨_, rfl⟩
    have q111 : v8 = v109 := (e110.trans e13.symm).symm
    subst q111
    obtain ⟨v112, e113⟩ : ∃ v, v = A 54 (fd 1) := ⟨_, rfl⟩
    have q114 : v10 = v112 := (e113.trans e16.symm).symm
    subst q114
    refine Exists.intro d (And.intro rfl (And.intro (And.intro i0 (And.intro j0 (And.intro (by (first | (clear hm hnf; omega) | omega)) (And.intro (by (first | (clear hm hnf; omega) | omega)) (And.intro (by rw [← e110]; omega) (And.intro (by rw [← e113]; omega) (And.intro p5 (by first | assumption | omega | simp_all)))))))) (fun A115 i116 j117 f118 g119 g120 g121 => (And.intro (fun h122 => ?_) (fun h122 => by exfalso; omega)))))
    · replace hT := qlc g121 hT
      have f123 := frm_c f0 f118 rfl
      have t124 : A115 36 (fd 8) = A 36 (fd 8) := (frm_f f118 rfl)
      have t125 := ivf_at j117 1 rfl
      have t126 : A115 54 (fd 2) = A 54 (fd 2) := (frm_f f118 rfl)
      have kk127 := KO_fr p5 f118 rfl
      have pf128 := PF_k pf0 (frm_a f118 rfl)
      refine And.intro (fun h129 => by exfalso; omega) (fun h129 => ?_)
      refine fun v130 e131 => ?_
      replace hT := qlc e131 hT
      obtain ⟨v132, e133⟩ : ∃ v, v = A115 54 (fd 0) := ⟨_, rfl⟩
      have q134 : v8 = v132 := (e133.trans ((frm_f f118 rfl).trans e110.symm)).symm
      subst q134
      obtain ⟨v135, e136⟩ : ∃ v, v = A115 54 (fd 1) := ⟨_, rfl⟩
      have q137 : v10 = v135 := (e136.trans ((frm_f f118 rfl).trans e113.symm)).symm
      subst q137
      refine And.intro (by (first | (clear hm hnf; omega) | omega)) (Exists.intro v130 (And.intro rfl (And.intro (And.intro i116 (And.intro j117 (And.intro (by (first | (clear hm hnf; omega) | omega)) (And.intro (by (first | (clear hm hnf; omega) | omega)) (And.intro (by rw [← e133]; omega) (And.intro (by rw [← e136]; omega) (And.intro kk127 (And.intro (by first | assumption | omega | simp_all) (by (first | (clear hm hnf; omega) | omega)))))))))) (fun A138 i139 j140 f141 r142 g149 g150 g143 g144 g145 g146 g147 g148 => ?_))))
      replace hT := qlpc g147 g148 hT
      clear g147 g148
      have f151 := frm_c f123 f141 rfl
      have t152 := ivf_at j140 9 rfl
      have t153 := ivf_at j140 1 rfl
      have t154 : A138 54 (fd 2) = A115 54 (fd 2) := (frm_f f141 rfl)
      have pf155 := PF_tr pf128 g144 (by (first | (clear hm hnf; omega) | omega))
      refine And.intro (fun h156 => ?_) (fun h156 => ?_)
      · replace hT := (if_pos h156).symm.trans hT
        exact And.intro (by (first | (clear hm hnf; omega) | omega)) (hK _ i139 j140 f151 _ (by (first | (clear hm hnf; omega) | omega)) (by (first | (clear hm hnf; omega) | omega)) g143 pf155 (by first | assumption | omega | simp_all) (by first | assumption | omega | simp_all) (congrArg Prod.fst hT) (congrArg Prod.snd hT))
      · replace hT := (if_neg h156).symm.trans hT
        obtain ⟨v157, e158⟩ : ∃ v, v = A138 54 (fd 0) := ⟨_, rfl⟩
        have q159 : v8 = v157 := (e158.trans ((frm_f f141 rfl).trans e133.symm)).symm
        subst q159
        obtain ⟨v160, e161⟩ : ∃ v, v = A138 54 (fd 1) := ⟨_, rfl⟩
        have q162 : v10 = v160 := (e161.trans ((frm_f f141 rfl).trans e136.symm)).symm
        subst q162
        refine Exists.intro 93 (And.intro rfl (And.intro (And.intro i139 (And.intro j140 (And.intro (by (first | (clear hm hnf; omega) | omega)) (And.intro (by (first | (clear hm hnf; omega) | omega)) (And.intro (by rw [← e158]; omega) (And.intro (by rw [← e161]; omega) (And.intro g143 (by first | assumption | omega | simp_all)))))))) (fun A163 i164 j165 f166 r167 g171 g172 g168 g169 g170 => ?_)))
        replace hT := qlpc g169 g170 hT
        clear g169 g170
        have f173 := frm_c f151 f166 rfl
        have t174 : A163 36 (fd 8) = A138 36 (fd 8) := (frm_f f166 rfl)
        have t175 := ivf_at j165 1 rfl
        have t176 : A163 54 (fd 2) = A138 54 (fd 2) := (frm_f f166 rfl)
        have kk177 := KO_fr g143 f166 rfl
        have pf178 := PF_k pf155 (frm_a f166 rfl)
        refine And.intro (fun h179 => ?_) (fun h179 => ?_)
        · replace hT := (if_pos h179).symm.trans hT
          exact And.intro (by (first | (clear hm hnf; omega) | omega)) (hK _ i164 j165 f173 _ (by (first | (clear hm hnf; omega) | omega)) (by (first | (clear hm hnf; omega) | omega)) kk177 pf178 (by first | assumption | omega | simp_all) (by first | assumption | omega | simp_all) (congrArg Prod.fst hT) (congrArg Prod.snd hT))
        · replace hT := (if_neg h179).symm.trans hT
          exact And.intro (by (first | (clear hm hnf; omega) | omega)) (hK _ i164 j165 f173 _ (by (first | (clear hm hnf; omega) | omega)) (by (first | (clear hm hnf; omega) | omega)) kk177 pf178 (by first | assumption | omega | simp_all) (by first | assumption | omega | simp_all) (congrArg Prod.fst hT) (congrArg Prod.snd hT))
theorem okC_readComparison_36 {e D : Nat} (h_readSum_36 : okM LC D 57 (sC_readSum_36 e)) (hD : 6 ≤ D) : okM LC (D + 1) 56 (sC_readComparison_36 e) := by
  refine qmeth (D := D) [(54, 0, 52), (54, 1, 36)] false [(57, sC_readSum_36 e), (46, sC_look_36), (75, sC_putr36), (47, sC_fail_36)] 42 rfl ⟨h_readSum_36, ⟨okC_look_36.le (by (first | (clear hm hnf; omega) | omega)), ⟨okC_putr36.le (by (first | (clear hm hnf; omega) | omega)), ⟨okC_fail_36.le (by (first | (clear hm hnf; omega) | omega)), trivial⟩⟩⟩⟩ ?_
  rintro _ A K hA has ⟨d, rfl, ⟨i0, j0, p1, p2, p3, p4, p5, p6, p7⟩, hK⟩
  have rg_d : rng d := has (ni d) (by simp)
  have f0 := frm_0 [37, 38] [(36, 8), (54, 3), (54, 4)] A
  obtain ⟨v8, e9⟩ : ∃ v, v = A 54 (fd 0) := ⟨_, rfl⟩
  rw [← e9] at p3
  obtain ⟨v10, e11⟩ : ∃ v, v = A 54 (fd 1) := ⟨_, rfl⟩
  rw [← e11] at p4
  have pf0 := PF_rf 36 A
  have hb_36_8 := ivf_at j0 9 rfl
  have hb_54_3 := ivf_at j0 1 rfl
  have hb_54_2 := ivf_at j0 0 rfl
  have hT : _ = fC_readComparison_36 e d A := (fC_readComparison_36_B.eq_1 (fC_readSum_36 e) d A).symm
  refine ⟨Nat.le_of_ble_eq_true rfl, [], trivial, ?_⟩
  obtain ⟨v12, e13⟩ : ∃ v, v = A 54 (fd 0) := ⟨_, rfl⟩
  have q14 : v8 = v12 := (e13.trans e9.symm).symm
  subst q14
  obtain ⟨v15, e16⟩ : ∃ v, v = A 54 (fd 1) := ⟨_, rfl⟩
  have q17 : v10 = v15 := (e16.trans e11.symm).symm
  subst q17
  refine Exists.intro d (And.intro rfl (And.intro (And.intro i0 (And.intro j0 (And.intro (by (first | (clear hm hnf; omega) | omega)) (And.intro (by (first | (clear hm hnf; omega) | omega)) (And.intro (by rw [← e13]; omega) (And.intro (by rw [← e16]; omega) (And.intro p5 (And.intro (by first | assumption | omega | simp_all) (by (first | (clear hm hnf; omega) | omega)))))))))) (fun A18 i19 j20 f21 r22 g29 g30 g23 g24 g25 g26 g27 g28 => ?_)))
  replace hT := qlpc g27 g28 hT
  clear g27 g28
  have f31 := frm_c f0 f21 rfl
  have t32 := ivf_at j20 9 rfl
  have t33 := ivf_at j20 1 rfl
  have t34 : A18 54 (fd 2) = A 54 (fd 2) := (frm_f f21 rfl)
  have pf35 := PF_tr pf0 g24 (by (first | (clear hm hnf; omega) | omega))
  refine And.intro (fun h36 => ?_) (fun h36 => ?_)
  · replace hT := (if_neg h36).symm.trans hT
    obtain ⟨v37, e38⟩ : ∃ v, v = A18 54 (fd 0) := ⟨_, rfl⟩
    have q39 : v8 = v37 := (e38.trans ((frm_f f21 rfl).trans e13.symm)).symm
    subst q39
    obtain ⟨v40, e41⟩ : ∃ v, v = A18 54 (fd 1) := ⟨_, rfl⟩
    have q42 : v10 = v40 := (e41.trans ((frm_f f21 rfl).trans e16.symm)).symm
    subst q42
    refine And.intro rfl (And.intro (And.intro i19 (And.intro j20 (And.intro (by rw [← e38]; omega) (by rw [← e41]; omega)))) (fun r43 g46 g47 g44 g45 => ?_))
    replace hT := qlc g45 hT
    clear g45
    refine fun v48 e49 => ?_
    replace hT := qlc e49 hT
    have h50 := qone_bd 2 r43
    rw [← e49] at h50
    have h51 := qone_p (s := 2) (x := r43) (by (first | (clear hm hnf; omega) | omega))
    refine And.intro (fun h52 => ?_) (fun h52 => ?_)
    · replace hT := (if_neg h52).symm.trans hT
      refine fun v53 gv53 e54 => ?_
      replace hT := qlc e54 hT
      have b55 := ivf_at j20 1 rfl
      refine fun v56 e57 => ?_
      replace hT := qlc e57 hT
      refine And.intro (by (first | (clear hm hnf; omega) | omega)) (fun A58 e59 => ?_)
      replace hT := qlc e59 hT
      have i60 := iva_sf i19 e59 rfl
      have j61 := ivf_st j20 e59 (And.intro (by (first | (clear hm hnf; omega) | omega)) trivial)
      have f62 := frm_sf f31 e59 rfl
      have t63 : A58 36 (fd 8) = A18 36 (fd 8) := (congrFun (st_a e59 rfl) _)
      have t64 := st_v e59
      have t65 : A58 54 (fd 2) = A18 54 (fd 2) := (st_f e59 rfl)
      have kk66 := KO_k g23 (st_a e59 rfl) (st_a e59 rfl) (st_a e59 rfl) (st_a e59 rfl)
      have pf67 := PF_k pf35 (st_a e59 rfl)
      obtain ⟨v68, e69⟩ : ∃ v, v = A58 54 (fd 0) := ⟨_, rfl⟩
      have q70 : v8 = v68 := (e69.trans ((st_f e59 rfl).trans e38.symm)).symm
      subst q70
      obtain ⟨v71, e72⟩ : ∃ v, v = A58 54 (fd 1) := ⟨_, rfl⟩
      have q73 : v10 = v71 := (e72.trans ((st_f e59 rfl).trans e41.symm)).symm
      subst q73
      refine Exists.intro d (And.intro rfl (And.intro (And.intro i60 (And.intro j61 (And.intro (by (first | (clear hm hnf; omega) | omega)) (And.intro (by (first | (clear hm hnf; omega) | omega)) (And.intro (by rw [← e69]; omega) (And.intro (by rw [← e72]; omega) (And.intro kk66 (And.intro (by first | assumption | omega | simp_all) (by (first | (clear hm hnf; omega) | omega)))))))))) (fun A74 i75 j76 f77 r78 g85 g86 g79 g80 g81 g82 g83 g84 => ?_)))
      replace hT := qlpc g83 g84 hT
      clear g83 g84
      have f87 := frm_c f62 f77 rfl
      have t88 := ivf_at j76 9 rfl
      have t89 := ivf_at j76 1 rfl
      have t90 : A74 54 (fd 2) = A58 54 (fd 2) := (frm_f f77 rfl)
      have pf91 := PF_tr pf67 g80 (by (first | (clear hm hnf; omega) | omega))
      refine And.intro (fun h92 => ?_) (fun h92 => ?_)
      · replace hT := (if_neg h92).symm.trans hT
        obtain ⟨v93, e94⟩ : ∃ v, v = A74 54 (fd 1) := ⟨_, rfl⟩
        have q95 : v10 = v93 := (e94.trans ((frm_f f77 rfl).trans e72.symm)).symm
        subst q95
        refine And.intro (show A74 54 (fd 1) = ((36 : Nat) : Int) by (first | (clear hm hnf; omega) | omega)) ?_
        refine Exists.intro r43 (Exists.intro 0 (And.intro rfl (And.intro (And.intro i75 (And.intro j76 (And.intro (by (first | (clear hm hnf; omega) | omega)) (And.intro (by (first | (clear hm hnf; omega) | omega)) (And.intro g79 (And.intro (by first | assumption | omega | simp_all) (by first | assumption | omega | simp_all))))))) (fun A96 i97 j98 f99 g100 g101 g102 g103 g104 => ?_))))
        replace hT := qlc g104 hT
        have f105 := frm_c f87 f99 rfl
        have t106 := ivf_at j98 9 rfl
        have t107 : A96 54 (fd 3) = A74 54 (fd 3) := (frm_f f99 rfl)
        have t108 : A96 54 (fd 2) = A74 54 (fd 2) := (frm_f f99 rfl)
        have pf109 := PF_tr pf91 g101 (by (first | (clear hm hnf; omega) | omega))
        exact And.intro (by (first | (clear hm hnf; omega) | omega)) (hK _ i97 j98 f105 _ (by (first | (clear hm hnf; omega) | omega)) (by (first | (clear hm hnf; omega) | omega)) g100 pf109 (by first | assumption | omega | simp_all) (by first | assumption | omega | simp_all) (congrArg Prod.fst hT) (congrArg Prod.snd hT))
      · replace hT := (if_pos h92).symm.trans hT
        exact And.intro (by (first | (clear hm hnf; omega) | omega)) (hK _ i75 j76 f87 _ (by (first | (clear hm hnf; omega) | omega)) (by (first | (clear hm hnf; omega) | omega)) g79 pf91 (by first | assumption | omega | simp_all) (by first | assumption | omega | simp_all) (congrArg Prod.fst hT) (congrArg Prod.snd hT))
    · replace hT := (if_pos h52).symm.trans hT
      obtain ⟨v110, e111⟩ : ∃ v, v = A18 54 (fd 0) := ⟨_, rfl⟩
      have q112 : v8 = v110 := (e111.trans e38.symm).symm
      subst q112
      obtain ⟨v113, e114⟩ : ∃ v, v = A18 54 (fd 1) := ⟨_, rfl⟩
      have q115 : v10 = v113 := (e114.trans e41.symm).symm
      subst q115
      refine Exists.intro 1 (And.intro rfl (And.intro (And.intro i19 (And.intro j20 (And.intro (by (first | (clear hm hnf; omega) | omega)) (And.intro (by (first | (clear hm hnf; omega) | omega)) (And.intro (by rw [← e111]; omega) (by rw [← e114]; omega)))))) (fun A116 i117 j118 f119 g120 => (fun h121 => ?_))))
      · replace hT := qlc g120 hT
        have f122 := frm_c f31 f119 rfl
        have t123 : A116 36 (fd 8) = A18 36 (fd 8) := (frm_f f119 rfl)
        have t124 : A116 54 (fd 3) = A18 54 (fd 3) := (frm_f f119 rfl)
        have t125 : A116 54 (fd 2) = A18 54 (fd 2) := (frm_f f119 rfl)
        have kk126 := KO_fr g23 f119 rfl
        have pf127 := PF_k pf35 (frm_a f119 rfl)
        exact And.intro (by (first | (clear hm hnf; omega) | omega)) (hK _ i117 j118 f122 _ (by (first | (clear hm hnf; omega) | omega)) (by (first | (clear hm hnf; omega) | omega)) kk126 pf127 (by first | assumption | omega | simp_all) (by first | assumption | omega | simp_all) (congrArg Prod.fst hT) (congrArg Prod.snd hT))
  · replace hT := (if_pos h36).symm.trans hT
    exact And.intro (by (first | (clear hm hnf; omega) | omega)) (hK _ i19 j20 f31 _ (by (first | (clear hm hnf; omega) | omega)) (by (first | (clear hm hnf; omega) | omega)) g23 pf35 (by first | assumption | omega | simp_all) (by first | assumption | omega | simp_all) (congrArg Prod.fst hT) (congrArg Prod.snd hT))
theorem okC_readPart_36 {e D : Nat} (h_readPiece_36 : okM LC D 55 (sC_readPiece_36 e)) (hD : 6 ≤ D) : okM LC (D + 1) 53 (sC_readPart_36 e) := by
  refine qmeth (D := D) [(54, 0, 52), (54, 1, 36)] false [(55, sC_readPiece_36 e), (46, sC_look_36), (54, sC_readJump_36)] 40 rfl ⟨h_readPiece_36, ⟨okC_look_36.le (by (first | (clear hm hnf; omega) | omega)), ⟨okC_readJump_36.le (by (first | (clear hm hnf; omega) | omega)), trivial⟩⟩⟩ ?_
  rintro _ A K hA has ⟨d, rfl, ⟨i0, j0, p1, p2, p3, p4, p5, p6, p7⟩, hK⟩
  have rg_d : rng d := has (ni d) (by simp)
  have f0 := frm_0 [37, 38] [(36, 8), (54, 3), (54, 4)] A
  obtain ⟨v8, e9⟩ : ∃ v, v = A 54 (fd 0) := ⟨_, rfl⟩
  rw [← e9] at p3
  obtain ⟨v10, e11⟩ : ∃ v, v = A 54 (fd 1) := ⟨_, rfl⟩
  rw [← e11] at p4
  have pf0 := PF_rf 36 A
  have hb_36_8 := ivf_at j0 9 rfl
  have hb_54_3 := ivf_at j0 1 rfl
  have hb_54_2 := ivf_at j0 0 rfl
  have hT : _ = fC_readPart_36 e d A := (fC_readPart_36_B.eq_1 (fC_readPiece_36 e) d A).symm
  refine ⟨Nat.le_of_ble_eq_true rfl, [(6, [(0, 2, 54), (1, 0, 0), (2, 0, 0), (3, 0, 0)], fun zs B nn => match zs with | [l1, w, i] => iva IC B ∧ ivf JC B ∧ frm [37, 38] [(36, 8), (54, 3), (54, 4)] A B ∧ nn = (200 - i : Int).toNat ∧ (52 ≤ B 54 (fd 0) ∧ B 54 (fd 0) ≤ 52) ∧ (36 ≤ B 54 (fd 1) ∧ B 54 (fd 1) ≤ 36) ∧ (l1 = d) ∧ (0 ≤ i) ∧ (i ≤ 200) ∧ (0 ≤ w) ∧ (w ≤ 1) ∧ (KO B) ∧ (PF 36 A B) ∧ (A 36 (fd 8) ≤ B 36 (fd 8)) ∧ (B 36 (fd 8) + A 54 (fd 3) ≤ A 36 (fd 8) + B 54 (fd 3)) ∧ (B 36 (fd 8) ≤ B 54 (fd 3)) ∧ (∃ nf : Nat, nn < nf ∧ fC_readPart_36_B_L (fC_readPiece_36 e) nf 6 [l1, w, i] B = fC_readPart_36 e d A) | _ => False)], ?_, ?_⟩
  · refine ⟨⟨rfl, ?_⟩, trivial⟩
    · refine fun l1 w i B mm hB hz hI => ?_
      obtain ⟨i1, j1, f1, hm, d0, d1, c0, c1, c2, c3, c4, c5, c6, c7, c8, c9, ⟨nf, hnf, hT⟩⟩ := hI
      obtain ⟨hz_l1, hz_w, hz_i, _⟩ := hz
      obtain ⟨ng, rfl⟩ : ∃ k, nf = k + 1 := ⟨nf - 1, by omega⟩
      replace hT := (fC_readPart_36_B_c6.eq_1 (fC_readPiece_36 e) (fC_readPart_36_B_L (fC_readPiece_36 e) ng) l1 w i B).symm.trans ((fC_readPart_36_B_L6 (fC_readPiece_36 e) ng l1 w i B).symm.trans hT)
      obtain ⟨v42, e43⟩ : ∃ v, v = B 54 (fd 0) := ⟨_, rfl⟩
      rw [← e43] at d0
      obtain ⟨v44, e45⟩ : ∃ v, v = B 54 (fd 1) := ⟨_, rfl⟩
      rw [← e45] at d1
      have hc_36_8 := ivf_at j1 9 rfl
      have hc_54_3 := ivf_at j1 1 rfl
      have hc_54_2 := ivf_at j1 0 rfl
      have hc_t : B 54 (fd 2) = A 54 (fd 2) := frm_f f1 rfl
      have hc_w : B 53 = A 53 := frm_a f1 rfl
      refine And.intro (fun h46 => ?_) (fun h46 => ?_)
      · replace hT := (if_neg (Int.not_lt.mpr h46)).symm.trans hT
        exact And.intro (by (first | (clear hm hnf; omega) | omega)) (hK _ i1 j1 f1 _ (by (first | (clear hm hnf; omega) | omega)) (by (first | (clear hm hnf; omega) | omega)) c5 c6 (by first | assumption | omega | simp_all) (by first | assumption | omega | simp_all) (congrArg Prod.fst hT) (congrArg Prod.snd hT))
      · replace hT := (if_pos h46).symm.trans hT
        refine And.intro (fun h47 => ?_) (fun h47 => ?_)
        · replace hT := (if_pos h47).symm.trans hT
          exact And.intro (by (first | (clear hm hnf; omega) | omega)) (hK _ i1 j1 f1 _ (by (first | (clear hm hnf; omega) | omega)) (by (first | (clear hm hnf; omega) | omega)) c5 c6 (by first | assumption | omega | simp_all) (by first | assumption | omega | simp_all) (congrArg Prod.fst hT) (congrArg Prod.snd hT))
        · replace hT := (if_neg h47).symm.trans hT
          obtain ⟨v48, e49⟩ : ∃ v, v = B 54 (fd 0) := ⟨_, rfl⟩
          have q50 : v42 = v48 := (e49.trans e43.symm).symm
          subst q50
          obtain ⟨v51, e52⟩ : ∃ v, v = B 54 (fd 1) := ⟨_, rfl⟩
          have q53 : v44 = v51 := (e52.trans e45.symm).symm
          subst q53
          refine And.intro rfl (And.intro (And.intro i1 (And.intro j1 (And.intro (by rw [← e49]; omega) (by rw [← e52]; omega)))) (fun r54 g57 g58 g55 g56 => ?_))
          replace hT := qlc g56 hT
          clear g56
          refine And.intro (fun h59 => ?_) (fun h59 => ?_)
          · replace hT := (if_neg h59).symm.trans hT
            exact And.intro (by (first | (clear hm hnf; omega) | omega)) (hK _ i1 j1 f1 _ (by (first | (clear hm hnf; omega) | omega)) (by (first | (clear hm hnf; omega) | omega)) c5 c6 (by first | assumption | omega | simp_all) (by first | assumption | omega | simp_all) (congrArg Prod.fst hT) (congrArg Prod.snd hT))
          · replace hT := (if_pos h59).symm.trans hT
            obtain ⟨v60, e61⟩ : ∃ v, v = B 54 (fd 0) := ⟨_, rfl⟩
            have q62 : v42 = v60 := (e61.trans e49.symm).symm
            subst q62
            obtain ⟨v63, e64⟩ : ∃ v, v = B 54 (fd 1) := ⟨_, rfl⟩
            have q65 : v44 = v63 := (e64.trans e52.symm).symm
            subst q65
            refine And.intro rfl (And.intro (And.intro i1 (And.intro j1 (And.intro (by rw [← e61]; omega) (And.intro (by rw [← e64]; omega) (And.intro c5 (And.intro (by first | assumption | omega | simp_all) (And.intro (by first | assumption | omega | simp_all) (by first | assumption | omega | simp_all)))))))) (fun A66 i67 j68 f69 r70 g79 g80 g71 g72 g73 g74 g75 g76 g77 g78 => ?_))
            replace hT := qlpc g77 g78 hT
            clear g77 g78
            have f81 := frm_c f1 f69 rfl
            have t82 := ivf_at j68 9 rfl
            have t83 := ivf_at j68 1 rfl
            have t84 : A66 54 (fd 2) = B 54 (fd 2) := (frm_f f69 rfl)
            have pf85 := PF_tr c6 g72 (by (first | (clear hm hnf; omega) | omega))
            obtain ⟨v86, e87⟩ : ∃ v, v = A66 54 (fd 0) := ⟨_, rfl⟩
            have q88 : v42 = v86 := (e87.trans ((frm_f f69 rfl).trans e61.symm)).symm
            subst q88
            obtain ⟨v89, e90⟩ : ∃ v, v = A66 54 (fd 1) := ⟨_, rfl⟩
            have q91 : v44 = v89 := (e90.trans ((frm_f f69 rfl).trans e64.symm)).symm
            subst q91
            refine Exists.intro l1 (And.intro rfl (And.intro (And.intro i67 (And.intro j68 (And.intro (by (first | (clear hm hnf; omega) | omega)) (And.intro (by (first | (clear hm hnf; omega) | omega)) (And.intro (by rw [← e87]; omega) (And.intro (by rw [← e90]; omega) (And.intro g71 (And.intro (by first | assumption | omega | simp_all) (by (first | (clear hm hnf; omega) | omega)))))))))) (fun A92 i93 j94 f95 r96 g103 g104 g97 g98 g99 g100 g101 g102 => ?_)))
            replace hT := qlpc g101 g102 hT
            clear g101 g102
            have f105 := frm_c f81 f95 rfl
            have t106 := ivf_at j94 9 rfl
            have t107 := ivf_at j94 1 rfl
            have t108 : A92 54 (fd 2) = A66 54 (fd 2) := (frm_f f95 rfl)
            have pf109 := PF_tr pf85 g98 (by (first | (clear hm hnf; omega) | omega))
            obtain ⟨v110, e111⟩ : ∃ v, v = A92 54 (fd 1) := ⟨_, rfl⟩
            have q112 : v44 = v110 := (e111.trans ((frm_f f95 rfl).trans e90.symm)).symm
            subst q112
            refine And.intro (show A92 54 (fd 1) = ((36 : Nat) : Int) by (first | (clear hm hnf; omega) | omega)) ?_
            obtain ⟨v113, e114⟩ : ∃ v, v = A92 54 (fd 1) := ⟨_, rfl⟩
            have q115 : v44 = v113 := (e114.trans e111.symm).symm
            subst q115
            refine And.intro (show A92 54 (fd 1) = ((36 : Nat) : Int) by (first | (clear hm hnf; omega) | omega)) ?_
            refine fun v116 gv116 e117 => ?_
            replace hT := qlc e117 hT
            have b118 := ivf_at j94 9 rfl
            have hjump : A92 37 r70 ≠ 107 := by have q1 := g98 r70 (by (first | (clear hm hnf; omega) | omega)) (by (first | (clear hm hnf; omega) | omega)); simp only [Nat.reduceAdd] at q1; have q2 := g76; omega
            refine And.intro (by (first | (clear hm hnf; omega) | omega)) (fun A119 e120 => ?_)
            replace hT := qlc e120 hT
            have i121 := iva_st i93 e120 (And.intro (by (first | (clear hm hnf; omega) | omega)) trivial)
            have j122 := ivf_sa j94 e120 rfl
            have f123 := frm_s f105 e120 rfl
            have t124 : A119 36 (fd 8) = A92 36 (fd 8) := (congrFun (st_a e120 rfl) _)
            have t125 : A119 54 (fd 3) = A92 54 (fd 3) := (congrFun (st_a e120 rfl) _)
            have t126 : A119 54 (fd 2) = A92 54 (fd 2) := (congrFun (st_a e120 rfl) _)
            have kk127 := KO_o38 g97 e120 hjump
            have pf128 := PF_k pf109 (st_a e120 rfl)
            refine fun v129 e130 => ?_
            replace hT := qlc e130 hT
            obtain ⟨v131, e132⟩ : ∃ v, v = A119 54 (fd 0) := ⟨_, rfl⟩
            have q133 : v42 = v131 := (e132.trans ((Eq.trans (congrFun (st_a e120 rfl) _) (frm_f f95 rfl)).trans e87.symm)).symm
            subst q133
            obtain ⟨v134, e135⟩ : ∃ v, v = A119 54 (fd 1) := ⟨_, rfl⟩
            have q136 : v44 = v134 := (e135.trans ((congrFun (st_a e120 rfl) _).trans e114.symm)).symm
            subst q136
            exact And.intro (by (first | (clear hm hnf; omega) | omega)) (Exists.intro (200 - v129 : Int).toNat (And.intro (by first | exact qtn hm (by (try clear hm hnf); omega) | omega) (And.intro i121 (And.intro j122 (And.intro f123 (And.intro rfl (And.intro (by rw [← e132]; omega) (And.intro (by rw [← e135]; omega) (And.intro (by (first | (clear hm hnf; omega) | omega)) (And.intro (by (first | (clear hm hnf; omega) | omega)) (And.intro (by (first | (clear hm hnf; omega) | omega)) (And.intro (by (first | (clear hm hnf; omega) | omega)) (And.intro (by (first | (clear hm hnf; omega) | omega)) (And.intro kk127 (And.intro pf128 (And.intro (by (first | (clear hm hnf; omega) | omega)) (And.intro (by (first | (clear hm hnf; omega) | omega)) (And.intro (by (first | (clear hm hnf; omega) | omega)) (Exists.intro ng (And.intro (by first | exact qtm hm hnf (by (try clear hm hnf); omega) | omega) hT))))))))))))))))))))
  · obtain ⟨v12, e13⟩ : ∃ v, v = A 54 (fd 0) := ⟨_, rfl⟩
    have q14 : v8 = v12 := (e13.trans e9.symm).symm
    subst q14
    obtain ⟨v15, e16⟩ : ∃ v, v = A 54 (fd 1) := ⟨_, rfl⟩
    have q17 : v10 = v15 := (e16.trans e11.symm).symm
    subst q17
    refine Exists.intro d (And.intro rfl (And.intro (And.intro i0 (And.intro j0 (And.intro (by (first | (clear hm hnf; omega) | omega)) (And.intro (by (first | (clear hm hnf; omega) | omega)) (And.intro (by rw [← e13]; omega) (And.intro (by rw [← e16]; omega) (And.intro p5 (And.intro (by first | assumption | omega | simp_all) (by (first | (clear hm hnf; omega) | omega)))))))))) (fun A18 i19 j20 f21 r22 g29 g30 g23 g24 g25 g26 g27 g28 => ?_)))
    replace hT := qlpc g27 g28 hT
    clear g27 g28
    have f31 := frm_c f0 f21 rfl
    have t32 := ivf_at j20 9 rfl
    have t33 := ivf_at j20 1 rfl
    have t34 : A18 54 (fd 2) = A 54 (fd 2) := (frm_f f21 rfl)
    have pf35 := PF_tr pf0 g24 (by (first | (clear hm hnf; omega) | omega))
    obtain ⟨v36, e37⟩ : ∃ v, v = A18 54 (fd 0) := ⟨_, rfl⟩
    have q38 : v8 = v36 := (e37.trans ((frm_f f21 rfl).trans e13.symm)).symm
    subst q38
    obtain ⟨v39, e40⟩ : ∃ v, v = A18 54 (fd 1) := ⟨_, rfl⟩
    have q41 : v10 = v39 := (e40.trans ((frm_f f21 rfl).trans e16.symm)).symm
    subst q41
    exact Exists.intro (200 - 0 : Int).toNat (And.intro i19 (And.intro j20 (And.intro f31 (And.intro rfl (And.intro (by rw [← e37]; omega) (And.intro (by rw [← e40]; omega) (And.intro (by (first | (clear hm hnf; omega) | omega)) (And.intro (by (first | (clear hm hnf; omega) | omega)) (And.intro (by (first | (clear hm hnf; omega) | omega)) (And.intro (by (first | (clear hm hnf; omega) | omega)) (And.intro (by (first | (clear hm hnf; omega) | omega)) (And.intro g23 (And.intro pf35 (And.intro (by (first | (clear hm hnf; omega) | omega)) (And.intro (by (first | (clear hm hnf; omega) | omega)) (And.intro (by (first | (clear hm hnf; omega) | omega)) (Exists.intro 100000 (And.intro (by (first | (clear hm hnf; omega) | omega)) hT))))))))))))))))))
theorem okC_readCondition_36 {e D : Nat} (h_readPart_36 : okM LC D 53 (sC_readPart_36 e)) (hD : 6 ≤ D) : okM LC (D + 1) 52 (sC_readCondition_36 e) := by
  refine qmeth (D := D) [(54, 0, 52), (54, 1, 36)] false [(53, sC_readPart_36 e), (46, sC_look_36), (54, sC_readJump_36)] 40 rfl ⟨h_readPart_36, ⟨okC_look_36.le (by (first | (clear hm hnf; omega) | omega)), ⟨okC_readJump_36.le (by (first | (clear hm hnf; omega) | omega)), trivial⟩⟩⟩ ?_
  rintro _ A K hA has ⟨d, rfl, ⟨i0, j0, p1, p2, p3, p4, p5, p6, p7⟩, hK⟩
  have rg_d : rng d := has (ni d) (by simp)
  have f0 := frm_0 [37, 38] [(36, 8), (54, 3), (54, 4)] A
  obtain ⟨v8, e9⟩ : ∃ v, v = A 54 (fd 0) := ⟨_, rfl⟩
  rw [← e9] at p3
  obtain ⟨v10, e11⟩ : ∃ v, v = A 54 (fd 1) := ⟨_, rfl⟩
  rw [← e11] at p4
  have pf0 := PF_rf 36 A
  have hb_36_8 := ivf_at j0 9 rfl
  have hb_54_3 := ivf_at j0 1 rfl
  have hb_54_2 := ivf_at j0 0 rfl
  have hT : _ = fC_readCondition_36 e d A := (fC_readCondition_36_B.eq_1 (fC_readPart_36 e) d A).symm
  refine ⟨Nat.le_of_ble_eq_true rfl, [(6, [(0, 2, 54), (1, 0, 0), (2, 0, 0), (3, 0, 0)], fun zs B nn => match zs with | [l1, w, i] => iva IC B ∧ ivf JC B ∧ frm [37, 38] [(36, 8), (54, 3), (54, 4)] A B ∧ nn = (200 - i : Int).toNat ∧ (52 ≤ B 54 (fd 0) ∧ B 54 (fd 0) ≤ 52) ∧ (36 ≤ B 54 (fd 1) ∧ B 54 (fd 1) ≤ 36) ∧ (l1 = d) ∧ (0 ≤ i) ∧ (i ≤ 200) ∧ (0 ≤ w) ∧ (w ≤ 1) ∧ (KO B) ∧ (PF 36 A B) ∧ (A 36 (fd 8) ≤ B 36 (fd 8)) ∧ (B 36 (fd 8) + A 54 (fd 3) ≤ A 36 (fd 8) + B 54 (fd 3)) ∧ (B 36 (fd 8) ≤ B 54 (fd 3)) ∧ (∃ nf : Nat, nn < nf ∧ fC_readCondition_36_B_L (fC_readPart_36 e) nf 6 [l1, w, i] B = fC_readCondition_36 e d A) | _ => False)], ?_, ?_⟩
  · refine ⟨⟨rfl, ?_⟩, trivial⟩
    · refine fun l1 w i B mm hB hz hI => ?_
      obtain ⟨i1, j1, f1, hm, d0, d1, c0, c1, c2, c3, c4, c5, c6, c7, c8, c9, ⟨nf, hnf, hT⟩⟩ := hI
      obtain ⟨hz_l1, hz_w, hz_i, _⟩ := hz
      obtain ⟨ng, rfl⟩ : ∃ k, nf = k + 1 := ⟨nf - 1, by omega⟩
      replace hT := (fC_readCondition_36_B_c6.eq_1 (fC_readPart_36 e) (fC_readCondition_36_B_L (fC_readPart_36 e) ng) l1 w i B).symm.trans ((fC_readCondition_36_B_L6 (fC_readPart_36 e) ng l1 w i B).symm.trans hT)
      obtain ⟨v42, e43⟩ : ∃ v, v = B 54 (fd 0) := ⟨_, rfl⟩
      rw [← e43] at d0
      obtain ⟨v44, e45⟩ : ∃ v, v = B 54 (fd 1) := ⟨_, rfl⟩
      rw [← e45] at d1
      have hc_36_8 := ivf_at j1 9 rfl
      have hc_54_3 := ivf_at j1 1 rfl
      have hc_54_2 := ivf_at j1 0 rfl
      have hc_t : B 54 (fd 2) = A 54 (fd 2) := frm_f f1 rfl
      have hc_w : B 53 = A 53 := frm_a f1 rfl
      refine And.intro (fun h46 => ?_) (fun h46 => ?_)
      · replace hT := (if_neg (Int.not_lt.mpr h46)).symm.trans hT
        exact And.intro (by (first | (clear hm hnf; omega) | omega)) (hK _ i1 j1 f1 _ (by (first | (clear hm hnf; omega) | omega)) (by (first | (clear hm hnf; omega) | omega)) c5 c6 (by first | assumption | omega | simp_all) (by first | assumption | omega | simp_all) (congrArg Prod.fst hT) (congrArg Prod.snd hT))
      · replace hT := (if_pos h46).symm.trans hT
        refine And.intro (fun h47 => ?_) (fun h47 => ?_)
        · replace hT := (if_pos h47).symm.trans hT
          exact And.intro (by (first | (clear hm hnf; omega) | omega)) (hK _ i1 j1 f1 _ (by (first | (clear hm hnf; omega) | omega)) (by (first | (clear hm hnf; omega) | omega)) c5 c6 (by first | assumption | omega | simp_all) (by first | assumption | omega | simp_all) (congrArg Prod.fst hT) (congrArg Prod.snd hT))
        · replace hT := (if_neg h47).symm.trans hT
          obtain ⟨v48, e49⟩ : ∃ v, v = B 54 (fd 0) := ⟨_, rfl⟩
          have q50 : v42 = v48 := (e49.trans e43.symm).symm
          subst q50
          obtain ⟨v51, e52⟩ : ∃ v, v = B 54 (fd 1) := ⟨_, rfl⟩
          have q53 : v44 = v51 := (e52.trans e45.symm).symm
          subst q53
          refine And.intro rfl (And.intro (And.intro i1 (And.intro j1 (And.intro (by rw [← e49]; omega) (by rw [← e52]; omega)))) (fun r54 g57 g58 g55 g56 => ?_))
          replace hT := qlc g56 hT
          clear g56
          refine And.intro (fun h59 => ?_) (fun h59 => ?_)
          · replace hT := (if_neg h59).symm.trans hT
            exact And.intro (by (first | (clear hm hnf; omega) | omega)) (hK _ i1 j1 f1 _ (by (first | (clear hm hnf; omega) | omega)) (by (first | (clear hm hnf; omega) | omega)) c5 c6 (by first | assumption | omega | simp_all) (by first | assumption | omega | simp_all) (congrArg Prod.fst hT) (congrArg Prod.snd hT))
          · replace hT := (if_pos h59).symm.trans hT
            obtain ⟨v60, e61⟩ : ∃ v, v = B 54 (fd 0) := ⟨_, rfl⟩
            have q62 : v42 = v60 := (e61.trans e49.symm).symm
            subst q62
            obtain ⟨v63, e64⟩ : ∃ v, v = B 54 (fd 1) := ⟨_, rfl⟩
            have q65 : v44 = v63 := (e64.trans e52.symm).symm
            subst q65
            refine And.intro rfl (And.intro (And.intro i1 (And.intro j1 (And.intro (by rw [← e61]; omega) (And.intro (by rw [← e64]; omega) (And.intro c5 (And.intro (by first | assumption | omega | simp_all) (And.intro (by first | assumption | omega | simp_all) (by first | assumption | omega | simp_all)))))))) (fun A66 i67 j68 f69 r70 g79 g80 g71 g72 g73 g74 g75 g76 g77 g78 => ?_))
            replace hT := qlpc g77 g78 hT
            clear g77 g78
            have f81 := frm_c f1 f69 rfl
            have t82 := ivf_at j68 9 rfl
            have t83 := ivf_at j68 1 rfl
            have t84 : A66 54 (fd 2) = B 54 (fd 2) := (frm_f f69 rfl)
            have pf85 := PF_tr c6 g72 (by (first | (clear hm hnf; omega) | omega))
            obtain ⟨v86, e87⟩ : ∃ v, v = A66 54 (fd 0) := ⟨_, rfl⟩
            have q88 : v42 = v86 := (e87.trans ((frm_f f69 rfl).trans e61.symm)).symm
            subst q88
            obtain ⟨v89, e90⟩ : ∃ v, v = A66 54 (fd 1) := ⟨_, rfl⟩
            have q91 : v44 = v89 := (e90.trans ((frm_f f69 rfl).trans e64.symm)).symm
            subst q91
            refine Exists.intro l1 (And.intro rfl (And.intro (And.intro i67 (And.intro j68 (And.intro (by (first | (clear hm hnf; omega) | omega)) (And.intro (by (first | (clear hm hnf; omega) | omega)) (And.intro (by rw [← e87]; omega) (And.intro (by rw [← e90]; omega) (And.intro g71 (And.intro (by first | assumption | omega | simp_all) (by (first | (clear hm hnf; omega) | omega)))))))))) (fun A92 i93 j94 f95 r96 g103 g104 g97 g98 g99 g100 g101 g102 => ?_)))
            replace hT := qlpc g101 g102 hT
            clear g101 g102
            have f105 := frm_c f81 f95 rfl
            have t106 := ivf_at j94 9 rfl
            have t107 := ivf_at j94 1 rfl
            have t108 : A92 54 (fd 2) = A66 54 (fd 2) := (frm_f f95 rfl)
            have pf109 := PF_tr pf85 g98 (by (first | (clear hm hnf; omega) | omega))
            obtain ⟨v110, e111⟩ : ∃ v, v = A92 54 (fd 1) := ⟨_, rfl⟩
            have q112 : v44 = v110 := (e111.trans ((frm_f f95 rfl).trans e90.symm)).symm
            subst q112
            refine And.intro (show A92 54 (fd 1) = ((36 : Nat) : Int) by (first | (clear hm hnf; omega) | omega)) ?_
            obtain ⟨v113, e114⟩ : ∃ v, v = A92 54 (fd 1) := ⟨_, rfl⟩
            have q115 : v44 = v113 := (e114.trans e111.symm).symm
            subst q115
            refine And.intro (show A92 54 (fd 1) = ((36 : Nat) : Int) by (first | (clear hm hnf; omega) | omega)) ?_
            refine fun v116 gv116 e117 => ?_
            replace hT := qlc e117 hT
            have b118 := ivf_at j94 9 rfl
            have hjump : A92 37 r70 ≠ 107 := by have q1 := g98 r70 (by (first | (clear hm hnf; omega) | omega)) (by (first | (clear hm hnf; omega) | omega)); simp only [Nat.reduceAdd] at q1; have q2 := g76; omega
            refine And.intro (by (first | (clear hm hnf; omega) | omega)) (fun A119 e120 => ?_)
            replace hT := qlc e120 hT
            have i121 := iva_st i93 e120 (And.intro (by (first | (clear hm hnf; omega) | omega)) trivial)
            have j122 := ivf_sa j94 e120 rfl
            have f123 := frm_s f105 e120 rfl
            have t124 : A119 36 (fd 8) = A92 36 (fd 8) := (congrFun (st_a e120 rfl) _)
            have t125 : A119 54 (fd 3) = A92 54 (fd 3) := (congrFun (st_a e120 rfl) _)
            have t126 : A119 54 (fd 2) = A92 54 (fd 2) := (congrFun (st_a e120 rfl) _)
            have kk127 := KO_o38 g97 e120 hjump
            have pf128 := PF_k pf109 (st_a e120 rfl)
            refine fun v129 e130 => ?_
            replace hT := qlc e130 hT
            obtain ⟨v131, e132⟩ : ∃ v, v = A119 54 (fd 0) := ⟨_, rfl⟩
            have q133 : v42 = v131 := (e132.trans ((Eq.trans (congrFun (st_a e120 rfl) _) (frm_f f95 rfl)).trans e87.symm)).symm
            subst q133
            obtain ⟨v134, e135⟩ : ∃ v, v = A119 54 (fd 1) := ⟨_, rfl⟩
            have q136 : v44 = v134 := (e135.trans ((congrFun (st_a e120 rfl) _).trans e114.symm)).symm
            subst q136
            exact And.intro (by (first | (clear hm hnf; omega) | omega)) (Exists.intro (200 - v129 : Int).toNat (And.intro (by first | exact qtn hm (by (try clear hm hnf); omega) | omega) (And.intro i121 (And.intro j122 (And.intro f123 (And.intro rfl (And.intro (by rw [← e132]; omega) (And.intro (by rw [← e135]; omega) (And.intro (by (first | (clear hm hnf; omega) | omega)) (And.intro (by (first | (clear hm hnf; omega) | omega)) (And.intro (by (first | (clear hm hnf; omega) | omega)) (And.intro (by (first | (clear hm hnf; omega) | omega)) (And.intro (by (first | (clear hm hnf; omega) | omega)) (And.intro kk127 (And.intro pf128 (And.intro (by (first | (clear hm hnf; omega) | omega)) (And.intro (by (first | (clear hm hnf; omega) | omega)) (And.intro (by (first | (clear hm hnf; omega) | omega)) (Exists.intro ng (And.intro (by first | exact qtm hm hnf (by (try clear hm hnf); omega) | omega) hT))))))))))))))))))))
  · obtain ⟨v12, e13⟩ : ∃ v, v = A 54 (fd 0) := ⟨_, rfl⟩
    have q14 : v8 = v12 := (e13.trans e9.symm).symm
    subst q14
    obtain ⟨v15, e16⟩ : ∃ v, v = A 54 (fd 1) := ⟨_, rfl⟩
    have q17 : v10 = v15 := (e16.trans e11.symm).symm
    subst q17
    refine Exists.intro d (And.intro rfl (And.intro (And.intro i0 (And.intro j0 (And.intro (by (first | (clear hm hnf; omega) | omega)) (And.intro (by (first | (clear hm hnf; omega) | omega)) (And.intro (by rw [← e13]; omega) (And.intro (by rw [← e16]; omega) (And.intro p5 (And.intro (by first | assumption | omega | simp_all) (by (first | (clear hm hnf; omega) | omega)))))))))) (fun A18 i19 j20 f21 r22 g29 g30 g23 g24 g25 g26 g27 g28 => ?_)))
    replace hT := qlpc g27 g28 hT
    clear g27 g28
    have f31 := frm_c f0 f21 rfl
    have t32 := ivf_at j20 9 rfl
    have t33 := ivf_at j20 1 rfl
    have t34 : A18 54 (fd 2) = A 54 (fd 2) := (frm_f f21 rfl)
    have pf35 := PF_tr pf0 g24 (by (first | (clear hm hnf; omega) | omega))
    obtain ⟨v36, e37⟩ : ∃ v, v = A18 54 (fd 0) := ⟨_, rfl⟩
    have q38 : v8 = v36 := (e37.trans ((frm_f f21 rfl).trans e13.symm)).symm
    subst q38
    obtain ⟨v39, e40⟩ : ∃ v, v = A18 54 (fd 1) := ⟨_, rfl⟩
    have q41 : v10 = v39 := (e40.trans ((frm_f f21 rfl).trans e16.symm)).symm
    subst q41
    exact Exists.intro (200 - 0 : Int).toNat (And.intro i19 (And.intro j20 (And.intro f31 (And.intro rfl (And.intro (by rw [← e37]; omega) (And.intro (by rw [← e40]; omega) (And.intro (by (first | (clear hm hnf; omega) | omega)) (And.intro (by (first | (clear hm hnf; omega) | omega)) (And.intro (by (first | (clear hm hnf; omega) | omega)) (And.intro (by (first | (clear hm hnf; omega) | omega)) (And.intro (by (first | (clear hm hnf; omega) | omega)) (And.intro g23 (And.intro pf35 (And.intro (by (first | (clear hm hnf; omega) | omega)) (And.intro (by (first | (clear hm hnf; omega) | omega)) (And.intro (by (first | (clear hm hnf; omega) | omega)) (Exists.intro 100000 (And.intro (by (first | (clear hm hnf; omega) | omega)) hT))))))))))))))))))
theorem okC_readPieceZ_36 {D : Nat} (h_readComparison_36 : okM LC D 56 (sC_readComparison_36 0)) (hD : 6 ≤ D) : okM LC (D + 1) 55 (sC_readPiece_36 0) := by
  refine qmeth (D := D) [(54, 0, 52), (54, 1, 36)] false [(46, sC_look_36), (56, sC_readComparison_36 0), (49, sC_enter_36)] 56 rfl ⟨okC_look_36.le (by (first | (clear hm hnf; omega) | omega)), ⟨h_readComparison_36, ⟨okC_enter_36.le (by (first | (clear hm hnf; omega) | omega)), trivial⟩⟩⟩ ?_
  rintro _ A K hA has ⟨d, rfl, ⟨i0, j0, p1, p2, p3, p4, p5, p6, p7⟩, hK⟩
  have rg_d : rng d := has (ni d) (by simp)
  have f0 := frm_0 [37, 38] [(36, 8), (54, 3), (54, 4)] A
  obtain ⟨v8, e9⟩ : ∃ v, v = A 54 (fd 0) := ⟨_, rfl⟩
  rw [← e9] at p3
  obtain ⟨v10, e11⟩ : ∃ v, v = A 54 (fd 1) := ⟨_, rfl⟩
  rw [← e11] at p4
  have pf0 := PF_rf 36 A
  have hb_36_8 := ivf_at j0 9 rfl
  have hb_54_3 := ivf_at j0 1 rfl
  have hb_54_2 := ivf_at j0 0 rfl
  have hT : _ = fC_readPiece_36 0 d A := (fC_readPieceZ_36_B.eq_1 (fC_readComparison_36 0) d A).symm
  refine ⟨Nat.le_of_ble_eq_true rfl, [], trivial, ?_⟩
  obtain ⟨v12, e13⟩ : ∃ v, v = A 54 (fd 0) := ⟨_, rfl⟩
  have q14 : v8 = v12 := (e13.trans e9.symm).symm
  subst q14
  obtain ⟨v15, e16⟩ : ∃ v, v = A 54 (fd 1) := ⟨_, rfl⟩
  have q17 : v10 = v15 := (e16.trans e11.symm).symm
  subst q17
  refine And.intro rfl (And.intro (And.intro i0 (And.intro j0 (And.intro (by rw [← e13]; omega) (by rw [← e16]; omega)))) (fun r18 g21 g22 g19 g20 => ?_))
  replace hT := qlc g20 hT
  clear g20
  refine And.intro (fun h23 => ?_) (fun h23 => ?_)
  · replace hT := (if_neg h23).symm.trans hT
    refine And.intro (fun h24 => ?_) (fun h24 => ?_)
    · replace hT := (if_neg h24).symm.trans hT
      obtain ⟨v25, e26⟩ : ∃ v, v = A 54 (fd 0) := ⟨_, rfl⟩
      have q27 : v8 = v25 := (e26.trans e13.symm).symm
      subst q27
      obtain ⟨v28, e29⟩ : ∃ v, v = A 54 (fd 1) := ⟨_, rfl⟩
      have q30 : v10 = v28 := (e29.trans e16.symm).symm
      subst q30
      refine Exists.intro d (And.intro rfl (And.intro (And.intro i0 (And.intro j0 (And.intro (by (first | (clear hm hnf; omega) | omega)) (And.intro (by (first | (clear hm hnf; omega) | omega)) (And.intro (by rw [← e26]; omega) (And.intro (by rw [← e29]; omega) (And.intro p5 (And.intro (by first | assumption | omega | simp_all) (by (first | (clear hm hnf; omega) | omega)))))))))) (fun A31 i32 j33 f34 r35 g42 g43 g36 g37 g38 g39 g40 g41 => ?_)))
      replace hT := qlpc g40 g41 hT
      clear g40 g41
      have f44 := frm_c f0 f34 rfl
      have t45 := ivf_at j33 9 rfl
      have t46 := ivf_at j33 1 rfl
      have t47 : A31 54 (fd 2) = A 54 (fd 2) := (frm_f f34 rfl)
      have pf48 := PF_tr pf0 g37 (by (first | (clear hm hnf; omega) | omega))
      exact And.intro (by (first | (clear hm hnf; omega) | omega)) (hK _ i32 j33 f44 _ (by (first | (clear hm hnf; omega) | omega)) (by (first | (clear hm hnf; omega) | omega)) g36 pf48 (by first | assumption | omega | simp_all) (by first | assumption | omega | simp_all) (congrArg Prod.fst hT) (congrArg Prod.snd hT))
    · replace hT := (if_pos h24).symm.trans hT
      obtain ⟨v49, e50⟩ : ∃ v, v = A 54 (fd 0) := ⟨_, rfl⟩
      have q51 : v8 = v49 := (e50.trans e13.symm).symm
      subst q51
      obtain ⟨v52, e53⟩ : ∃ v, v = A 54 (fd 1) := ⟨_, rfl⟩
      have q54 : v10 = v52 := (e53.trans e16.symm).symm
      subst q54
      refine Exists.intro d (And.intro rfl (And.intro (And.intro i0 (And.intro j0 (And.intro (by (first | (clear hm hnf; omega) | omega)) (And.intro (by (first | (clear hm hnf; omega) | omega)) (And.intro (by rw [← e50]; omega) (And.intro (by rw [← e53]; omega) (And.intro p5 (by first | assumption | omega | simp_all)))))))) (fun A55 i56 j57 f58 g59 g60 g61 => (And.intro (fun h62 => by exfalso; omega) (fun h62 => ?_)))))
      · replace hT := qlc g61 hT
        have f63 := frm_c f0 f58 rfl
        have t64 : A55 36 (fd 8) = A 36 (fd 8) := (frm_f f58 rfl)
        have t65 := ivf_at j57 1 rfl
        have t66 : A55 54 (fd 2) = A 54 (fd 2) := (frm_f f58 rfl)
        have kk67 := KO_fr p5 f58 rfl
        have pf68 := PF_k pf0 (frm_a f58 rfl)
        refine And.intro (fun h69 => ?_) (fun h69 => by exfalso; omega)
        exact And.intro (by (first | (clear hm hnf; omega) | omega)) (hK _ i56 j57 f63 _ (by (first | (clear hm hnf; omega) | omega)) (by (first | (clear hm hnf; omega) | omega)) kk67 pf68 (by first | assumption | omega | simp_all) (by first | assumption | omega | simp_all) (congrArg Prod.fst hT) (congrArg Prod.snd hT))
  · replace hT := (if_pos h23).symm.trans hT
    obtain ⟨v70, e71⟩ : ∃ v, v = A 54 (fd 0) := ⟨_, rfl⟩
    have q72 : v8 = v70 := (e71.trans e13.symm).symm
    subst q72
    obtain ⟨v73, e74⟩ : ∃ v, v = A 54 (fd 1) := ⟨_, rfl⟩
    have q75 : v10 = v73 := (e74.trans e16.symm).symm
    subst q75
    refine Exists.intro d (And.intro rfl (And.intro (And.intro i0 (And.intro j0 (And.intro (by (first | (clear hm hnf; omega) | omega)) (And.intro (by (first | (clear hm hnf; omega) | omega)) (And.intro (by rw [← e71]; omega) (And.intro (by rw [← e74]; omega) (And.intro p5 (by first | assumption | omega | simp_all)))))))) (fun A76 i77 j78 f79 g80 g81 g82 => (And.intro (fun h83 => by exfalso; omega) (fun h83 => ?_)))))
    · replace hT := qlc g82 hT
      have f84 := frm_c f0 f79 rfl
      have t85 : A76 36 (fd 8) = A 36 (fd 8) := (frm_f f79 rfl)
      have t86 := ivf_at j78 1 rfl
      have t87 : A76 54 (fd 2) = A 54 (fd 2) := (frm_f f79 rfl)
      have kk88 := KO_fr p5 f79 rfl
      have pf89 := PF_k pf0 (frm_a f79 rfl)
      refine And.intro (fun h90 => ?_) (fun h90 => by exfalso; omega)
      exact And.intro (by (first | (clear hm hnf; omega) | omega)) (hK _ i77 j78 f84 _ (by (first | (clear hm hnf; omega) | omega)) (by (first | (clear hm hnf; omega) | omega)) kk88 pf89 (by first | assumption | omega | simp_all) (by first | assumption | omega | simp_all) (congrArg Prod.fst hT) (congrArg Prod.snd hT))
theorem okC_readPieceS_36 {e D : Nat} (h_readComparison_36 : okM LC D 56 (sC_readComparison_36 (e + 1))) (h_readPiece_36 : okM LC D 55 (sC_readPiece_36 e)) (h_readCondition_36 : okM LC D 52 (sC_readCondition_36 e)) (hD : 6 ≤ D) : okM LC (D + 1) 55 (sC_readPiece_36 (e + 1)) := by
  refine qmeth (D := D) [(54, 0, 52), (54, 1, 36)] false [(46, sC_look_36), (56, sC_readComparison_36 (e + 1)), (49, sC_enter_36), (55, sC_readPiece_36 e), (75, sC_putr36), (52, sC_readCondition_36 e), (48, sC_expect_36)] 56 rfl ⟨okC_look_36.le (by (first | (clear hm hnf; omega) | omega)), ⟨h_readComparison_36, ⟨okC_enter_36.le (by (first | (clear hm hnf; omega) | omega)), ⟨h_readPiece_36, ⟨okC_putr36.le (by (first | (clear hm hnf; omega) | omega)), ⟨h_readCondition_36, ⟨okC_expect_36.le (by (first | (clear hm hnf; omega) | omega)), trivial⟩⟩⟩⟩⟩⟩⟩ ?_
  rintro _ A K hA has ⟨d, rfl, ⟨i0, j0, p1, p2, p3, p4, p5, p6, p7⟩, hK⟩
  have rg_d : rng d := has (ni d) (by simp)
  have f0 := frm_0 [37, 38] [(36, 8), (54, 3), (54, 4)] A
  obtain ⟨v8, e9⟩ : ∃ v, v = A 54 (fd 0) := ⟨_, rfl⟩
  rw [← e9] at p3
  obtain ⟨v10, e11⟩ : ∃ v, v = A 54 (fd 1) := ⟨_, rfl⟩
  rw [← e11] at p4
  have pf0 := PF_rf 36 A
  have hb_36_8 := ivf_at j0 9 rfl
  have hb_54_3 := ivf_at j0 1 rfl
  have hb_54_2 := ivf_at j0 0 rfl
  have hT : _ = fC_readPiece_36 (e + 1) d A := (fC_readPieceS_36_B.eq_1 (fC_readCondition_36 e) (fC_readPiece_36 e) (fC_readComparison_36 (e + 1)) d A).symm
  refine ⟨Nat.le_of_ble_eq_true rfl, [], trivial, ?_⟩
  obtain ⟨v12, e13⟩ : ∃ v, v = A 54 (fd 0) := ⟨_, rfl⟩
  have q14 : v8 = v12 := (e13.trans e9.symm).symm
  subst q14
  obtain ⟨v15, e16⟩ : ∃ v, v = A 54 (fd 1) := ⟨_, rfl⟩
  have q17 : v10 = v15 := (e16.trans e11.symm).symm
  subst q17
  refine And.intro rfl (And.intro (And.intro i0 (And.intro j0 (And.intro (by rw [← e13]; omega) (by rw [← e16]; omega)))) (fun r18 g21 g22 g19 g20 => ?_))
  replace hT := qlc g20 hT
  clear g20
  refine And.intro (fun h23 => ?_) (fun h23 => ?_)
  · replace hT := (if_neg h23).symm.trans hT
    refine And.intro (fun h24 => ?_) (fun h24 => ?_)
    · replace hT := (if_neg h24).symm.trans hT
      obtain ⟨v25, e26⟩ : ∃ v, v = A 54 (fd 0) := ⟨_, rfl⟩
      have q27 : v8 = v25 := (e26.trans e13.symm).symm
      subst q27
      obtain ⟨v28, e29⟩ : ∃ v, v = A 54 (fd 1) := ⟨_, rfl⟩
      have q30 : v10 = v28 := (e29.trans e16.symm).symm
      subst q30
      refine Exists.intro d (And.intro rfl (And.intro (And.intro i0 (And.intro j0 (And.intro (by (first | (clear hm hnf; omega) | omega)) (And.intro (by (first | (clear hm hnf; omega) | omega)) (And.intro (by rw [← e26]; omega) (And.intro (by rw [← e29]; omega) (And.intro p5 (And.intro (by first | assumption | omega | simp_all) (by (first | (clear hm hnf; omega) | omega)))))))))) (fun A31 i32 j33 f34 r35 g42 g43 g36 g37 g38 g39 g40 g41 => ?_)))
      replace hT := qlpc g40 g41 hT
      clear g40 g41
      have f44 := frm_c f0 f34 rfl
      have t45 := ivf_at j33 9 rfl
      have t46 := ivf_at j33 1 rfl
      have t47 : A31 54 (fd 2) = A 54 (fd 2) := (frm_f f34 rfl)
      have pf48 := PF_tr pf0 g37 (by (first | (clear hm hnf; omega) | omega))
      exact And.intro (by (first | (clear hm hnf; omega) | omega)) (hK _ i32 j33 f44 _ (by (first | (clear hm hnf; omega) | omega)) (by (first | (clear hm hnf; omega) | omega)) g36 pf48 (by first | assumption | omega | simp_all) (by first | assumption | omega | simp_all) (congrArg Prod.fst hT) (congrArg Prod.snd hT))
    · replace hT := (if_pos h24).symm.trans hT
      obtain ⟨v49, e50⟩ : ∃ v, v = A 54 (fd 0) := ⟨_, rfl⟩
      have q51 : v8 = v49 := (e50.trans e13.symm).symm
      subst q51
      obtain ⟨v52, e53⟩ : ∃ v, v = A 54 (fd 1) := ⟨_, rfl⟩
      have q54 : v10 = v52 := (e53.trans e16.symm).symm
      subst q54
      refine Exists.intro d (And.intro rfl (And.intro (And.intro i0 (And.intro j0 (And.intro (by (first | (clear hm hnf; omega) | omega)) (And.intro (by (first | (clear hm hnf; omega) | omega)) (And.intro (by rw [← e50]; omega) (And.intro (by rw [← e53]; omega) (And.intro p5 (by first | assumption | omega | simp_all)))))))) (fun A55 i56 j57 f58 g59 g60 g61 => (And.intro (fun h62 => ?_) (fun h62 => by exfalso; omega)))))
      · replace hT := qlc g61 hT
        have f63 := frm_c f0 f58 rfl
        have t64 : A55 36 (fd 8) = A 36 (fd 8) := (frm_f f58 rfl)
        have t65 := ivf_at j57 1 rfl
        have t66 : A55 54 (fd 2) = A 54 (fd 2) := (frm_f f58 rfl)
        have kk67 := KO_fr p5 f58 rfl
        have pf68 := PF_k pf0 (frm_a f58 rfl)
        refine And.intro (fun h69 => by exfalso; omega) (fun h69 => ?_)
        refine fun v70 e71 => ?_
        replace hT := qlc e71 hT
        obtain ⟨v72, e73⟩ : ∃ v, v = A55 54 (fd 0) := ⟨_, rfl⟩
        have q74 : v8 = v72 := (e73.trans ((frm_f f58 rfl).trans e50.symm)).symm
        subst q74
        obtain ⟨v75, e76⟩ : ∃ v, v = A55 54 (fd 1) := ⟨_, rfl⟩
        have q77 : v10 = v75 := (e76.trans ((frm_f f58 rfl).trans e53.symm)).symm
        subst q77
        refine And.intro (by (first | (clear hm hnf; omega) | omega)) (Exists.intro v70 (And.intro rfl (And.intro (And.intro i56 (And.intro j57 (And.intro (by (first | (clear hm hnf; omega) | omega)) (And.intro (by (first | (clear hm hnf; omega) | omega)) (And.intro (by rw [← e73]; omega) (And.intro (by rw [← e76]; omega) (And.intro kk67 (And.intro (by first | assumption | omega | simp_all) (by (first | (clear hm hnf; omega) | omega)))))))))) (fun A78 i79 j80 f81 r82 g89 g90 g83 g84 g85 g86 g87 g88 => ?_))))
        replace hT := qlpc g87 g88 hT
        clear g87 g88
        have f91 := frm_c f63 f81 rfl
        have t92 := ivf_at j80 9 rfl
        have t93 := ivf_at j80 1 rfl
        have t94 : A78 54 (fd 2) = A55 54 (fd 2) := (frm_f f81 rfl)
        have pf95 := PF_tr pf68 g84 (by (first | (clear hm hnf; omega) | omega))
        refine And.intro (fun h96 => ?_) (fun h96 => ?_)
        · replace hT := (if_neg h96).symm.trans hT
          obtain ⟨v97, e98⟩ : ∃ v, v = A78 54 (fd 1) := ⟨_, rfl⟩
          have q99 : v10 = v97 := (e98.trans ((frm_f f81 rfl).trans e76.symm)).symm
          subst q99
          refine And.intro (show A78 54 (fd 1) = ((36 : Nat) : Int) by (first | (clear hm hnf; omega) | omega)) ?_
          refine Exists.intro 33 (Exists.intro 0 (And.intro rfl (And.intro (And.intro i79 (And.intro j80 (And.intro (by (first | (clear hm hnf; omega) | omega)) (And.intro (by (first | (clear hm hnf; omega) | omega)) (And.intro g83 (And.intro (by first | assumption | omega | simp_all) (by first | assumption | omega | simp_all))))))) (fun A100 i101 j102 f103 g104 g105 g106 g107 g108 => ?_))))
          replace hT := qlc g108 hT
          have f109 := frm_c f91 f103 rfl
          have t110 := ivf_at j102 9 rfl
          have t111 : A100 54 (fd 3) = A78 54 (fd 3) := (frm_f f103 rfl)
          have t112 : A100 54 (fd 2) = A78 54 (fd 2) := (frm_f f103 rfl)
          have pf113 := PF_tr pf95 g105 (by (first | (clear hm hnf; omega) | omega))
          exact And.intro (by (first | (clear hm hnf; omega) | omega)) (hK _ i101 j102 f109 _ (by (first | (clear hm hnf; omega) | omega)) (by (first | (clear hm hnf; omega) | omega)) g104 pf113 (by first | assumption | omega | simp_all) (by first | assumption | omega | simp_all) (congrArg Prod.fst hT) (congrArg Prod.snd hT))
        · replace hT := (if_pos h96).symm.trans hT
          exact And.intro (by (first | (clear hm hnf; omega) | omega)) (hK _ i79 j80 f91 _ (by (first | (clear hm hnf; omega) | omega)) (by (first | (clear hm hnf; omega) | omega)) g83 pf95 (by first | assumption | omega | simp_all) (by first | assumption | omega | simp_all) (congrArg Prod.fst hT) (congrArg Prod.snd hT))
  · replace hT := (if_pos h23).symm.trans hT
    obtain ⟨v114, e115⟩ : ∃ v, v = A 54 (fd 0) := ⟨_, rfl⟩
    have q116 : v8 = v114 := (e115.trans e13.symm).symm
    subst q116
    obtain ⟨v117, e118⟩ : ∃ v, v = A 54 (fd 1) := ⟨_, rfl⟩
    have q119 : v10 = v117 := (e118.trans e16.symm).symm
    subst q119
    refine Exists.intro d (And.intro rfl (And.intro (And.intro i0 (And.intro j0 (And.intro (by (first | (clear hm hnf; omega) | omega)) (And.intro (by (first | (clear hm hnf; omega) | omega)) (And.intro (by rw [← e115]; omega) (And.intro (by rw [← e118]; omega) (And.intro p5 (by first | assumption | omega | simp_all)))))))) (fun A120 i121 j122 f123 g124 g125 g126 => (And.intro (fun h127 => ?_) (fun h127 => by exfalso; omega)))))
    · replace hT := qlc g126 hT
      have f128 := frm_c f0 f123 rfl
      have t129 : A120 36 (fd 8) = A 36 (fd 8) := (frm_f f123 rfl)
      have t130 := ivf_at j122 1 rfl
      have t131 : A120 54 (fd 2) = A 54 (fd 2) := (frm_f f123 rfl)
      have kk132 := KO_fr p5 f123 rfl
      have pf133 := PF_k pf0 (frm_a f123 rfl)
      refine And.intro (fun h134 => by exfalso; omega) (fun h134 => ?_)
      refine fun v135 e136 => ?_
      replace hT := qlc e136 hT
      obtain ⟨v137, e138⟩ : ∃ v, v = A120 54 (fd 0) := ⟨_, rfl⟩
      have q139 : v8 = v137 := (e138.trans ((frm_f f123 rfl).trans e115.symm)).symm
      subst q139
      obtain ⟨v140, e141⟩ : ∃ v, v = A120 54 (fd 1) := ⟨_, rfl⟩
      have q142 : v10 = v140 := (e141.trans ((frm_f f123 rfl).trans e118.symm)).symm
      subst q142
      refine And.intro (by (first | (clear hm hnf; omega) | omega)) (Exists.intro v135 (And.intro rfl (And.intro (And.intro i121 (And.intro j122 (And.intro (by (first | (clear hm hnf; omega) | omega)) (And.intro (by (first | (clear hm hnf; omega) | omega)) (And.intro (by rw [← e138]; omega) (And.intro (by rw [← e141]; omega) (And.intro kk132 (And.intro (by first | assumption | omega | simp_all) (by (first | (clear hm hnf; omega) | omega)))))))))) (fun A143 i144 j145 f146 r147 g154 g155 g148 g149 g150 g151 g152 g153 => ?_))))
      replace hT := qlpc g152 g153 hT
      clear g152 g153
      have f156 := frm_c f128 f146 rfl
      have t157 := ivf_at j145 9 rfl
      have t158 := ivf_at j145 1 rfl
      have t159 : A143 54 (fd 2) = A120 54 (fd 2) := (frm_f f146 rfl)
      have pf160 := PF_tr pf133 g149 (by (first | (clear hm hnf; omega) | omega))
      refine And.intro (fun h161 => ?_) (fun h161 => ?_)
      · replace hT := (if_pos h161).symm.trans hT
        exact And.intro (by (first | (clear hm hnf; omega) | omega)) (hK _ i144 j145 f156 _ (by (first | (clear hm hnf; omega) | omega)) (by (first | (clear hm hnf; omega) | omega)) g148 pf160 (by first | assumption | omega | simp_all) (by first | assumption | omega | simp_all) (congrArg Prod.fst hT) (congrArg Prod.snd hT))
      · replace hT := (if_neg h161).symm.trans hT
        obtain ⟨v162, e163⟩ : ∃ v, v = A143 54 (fd 0) := ⟨_, rfl⟩
        have q164 : v8 = v162 := (e163.trans ((frm_f f146 rfl).trans e138.symm)).symm
        subst q164
        obtain ⟨v165, e166⟩ : ∃ v, v = A143 54 (fd 1) := ⟨_, rfl⟩
        have q167 : v10 = v165 := (e166.trans ((frm_f f146 rfl).trans e141.symm)).symm
        subst q167
        refine Exists.intro 41 (And.intro rfl (And.intro (And.intro i144 (And.intro j145 (And.intro (by (first | (clear hm hnf; omega) | omega)) (And.intro (by (first | (clear hm hnf; omega) | omega)) (And.intro (by rw [← e163]; omega) (And.intro (by rw [← e166]; omega) (And.intro g148 (by first | assumption | omega | simp_all)))))))) (fun A168 i169 j170 f171 r172 g176 g177 g173 g174 g175 => ?_)))
        replace hT := qlpc g174 g175 hT
        clear g174 g175
        have f178 := frm_c f156 f171 rfl
        have t179 : A168 36 (fd 8) = A143 36 (fd 8) := (frm_f f171 rfl)
        have t180 := ivf_at j170 1 rfl
        have t181 : A168 54 (fd 2) = A143 54 (fd 2) := (frm_f f171 rfl)
        have kk182 := KO_fr g148 f171 rfl
        have pf183 := PF_k pf160 (frm_a f171 rfl)
        refine And.intro (fun h184 => ?_) (fun h184 => ?_)
        · replace hT := (if_pos h184).symm.trans hT
          exact And.intro (by (first | (clear hm hnf; omega) | omega)) (hK _ i169 j170 f178 _ (by (first | (clear hm hnf; omega) | omega)) (by (first | (clear hm hnf; omega) | omega)) kk182 pf183 (by first | assumption | omega | simp_all) (by first | assumption | omega | simp_all) (congrArg Prod.fst hT) (congrArg Prod.snd hT))
        · replace hT := (if_neg h184).symm.trans hT
          exact And.intro (by (first | (clear hm hnf; omega) | omega)) (hK _ i169 j170 f178 _ (by (first | (clear hm hnf; omega) | omega)) (by (first | (clear hm hnf; omega) | omega)) kk182 pf183 (by first | assumption | omega | simp_all) (by first | assumption | omega | simp_all) (congrArg Prod.fst hT) (congrArg Prod.snd hT))
theorem okC_rdS_36 : ∀ e : Nat, okM LC (7 + 3 * e) 59 (sC_readFactor_36 e) ∧ okM LC (8 + 3 * e) 58 (sC_readTerm_36 e) ∧ okM LC (9 + 3 * e) 57 (sC_readSum_36 e)
  | 0 => by
    have h1 : okM LC 7 59 (sC_readFactor_36 0) := okC_readFactorZ_36 (D := 6) (by (first | (clear hm hnf; omega) | omega))
    have h2 := okC_readTerm_36 h1 (by (first | (clear hm hnf; omega) | omega))
    exact ⟨h1, h2, okC_readSum_36 h2 (by (first | (clear hm hnf; omega) | omega))⟩
  | e + 1 => by
    have h0 := (okC_rdS_36 e).2.2
    have h1 : okM LC (7 + 3 * (e + 1)) 59 (sC_readFactor_36 (e + 1)) := (okC_readFactorS_36 h0 (by (first | (clear hm hnf; omega) | omega))).le (by (first | (clear hm hnf; omega) | omega))
    have h2 := okC_readTerm_36 h1 (by (first | (clear hm hnf; omega) | omega))
    have h3 := okC_readSum_36 h2 (by (first | (clear hm hnf; omega) | omega))
    exact ⟨h1, h2.le (by (first | (clear hm hnf; omega) | omega)), h3.le (by (first | (clear hm hnf; omega) | omega))⟩
theorem okC_rdC_36 : ∀ e : Nat, okM LC (11 + 6 * e) 55 (sC_readPiece_36 e) ∧ okM LC (13 + 6 * e) 52 (sC_readCondition_36 e)
  | 0 => by
    have h0 : okM LC 10 56 (sC_readComparison_36 0) := okC_readComparison_36 ((okC_rdS_36 0).2.2) (by (first | (clear hm hnf; omega) | omega))
    have h1 : okM LC 11 55 (sC_readPiece_36 0) := okC_readPieceZ_36 h0 (by (first | (clear hm hnf; omega) | omega))
    have h2 := okC_readPart_36 h1 (by (first | (clear hm hnf; omega) | omega))
    exact ⟨h1, okC_readCondition_36 h2 (by (first | (clear hm hnf; omega) | omega))⟩
  | e + 1 => by
    obtain ⟨i1, i2⟩ := okC_rdC_36 e
    have h0 : okM LC (13 + 6 * e) 56 (sC_readComparison_36 (e + 1)) := (okC_readComparison_36 ((okC_rdS_36 (e + 1)).2.2) (by (first | (clear hm hnf; omega) | omega))).le (by (first | (clear hm hnf; omega) | omega))
    have h1 : okM LC (11 + 6 * (e + 1)) 55 (sC_readPiece_36 (e + 1)) := (okC_readPieceS_36 h0 (i1.le (by (first | (clear hm hnf; omega) | omega))) i2 (by (first | (clear hm hnf; omega) | omega))).le (by (first | (clear hm hnf; omega) | omega))
    have h2 := okC_readPart_36 h1 (by (first | (clear hm hnf; omega) | omega))
    exact ⟨h1, (okC_readCondition_36 h2 (by (first | (clear hm hnf; omega) | omega))).le (by (first | (clear hm hnf; omega) | omega))⟩
theorem okC_readSum_36_6 : okM LC 27 57 (sC_readSum_36 6) := (okC_rdS_36 6).2.2
theorem okC_readCondition_36_5 : okM LC 43 52 (sC_readCondition_36 5) := (okC_rdC_36 5).2
