def sM_hasKind : qS := fun as A K => ∃ c k : Int, as = [rf 0, ni c, ni k] ∧ (iva IM A ∧ ivf JM A ∧ 0 ≤ c ∧ c ≤ 7) ∧ (∀ r : Int, 0 ≤ r → r ≤ 1 → K (some (ni r)) A)
theorem okM_hasKind : okM LM 1 224 sM_hasKind := by
  refine qmeth [] false [] 34 rfl trivial ?_
  rintro _ A K hA has ⟨c, k, rfl, ⟨i0, j0, p1, p2⟩, hK⟩
  have rg_c : rng c := has (ni c) (by simp)
  have rg_k : rng k := has (ni k) (by simp)
  have f0 := frm_0 [] [] A
  refine ⟨Nat.le_of_ble_eq_true rfl, [(4, [(0, 2, 0), (1, 0, 0), (2, 0, 0), (3, 0, 0)], fun zs B nn => match zs with | [l1, l2, j] => A = B ∧ nn = (48 - j : Int).toNat ∧ (l1 = c) ∧ (l2 = k) ∧ (0 ≤ l1) ∧ (l1 ≤ 7) ∧ (0 ≤ j) ∧ (j ≤ 48) | _ => False)], ?_, ?_⟩
  · refine ⟨⟨rfl, ?_⟩, trivial⟩
    · refine fun l1 l2 j B mm hB hz hI => ?_
      obtain ⟨rfl, hm, c0, c1, c2, c3, c4, c5⟩ := hI
      obtain ⟨hz_l1, hz_l2, hz_j, _⟩ := hz
      refine fun v5 e6 => ?_
      refine fun v7 e8 => ?_
      refine And.intro (by omega) (And.intro (fun h9 => ?_) (fun h9 => ?_))
      · exact And.intro (by omega) (hK _ (by omega) (by omega))
      · refine And.intro (by omega) (fun v10 gv10 e11 => ?_)
        have b12 := iva_at i0 0 rfl (i := j) (by omega) (by omega)
        refine And.intro (fun h13 => ?_) (fun h13 => ?_)
        · refine fun v14 e15 => ?_
          exact And.intro (by omega) (Exists.intro (48 - v14 : Int).toNat (And.intro (by omega) (And.intro rfl (And.intro rfl (And.intro (by omega) (And.intro (by omega) (And.intro (by omega) (And.intro (by omega) (And.intro (by omega) (by omega))))))))))
        · refine And.intro (by omega) (fun v16 gv16 e17 => ?_)
          have b18 := iva_at i0 2 rfl (i := j) (by omega) (by omega)
          refine And.intro (fun h19 => ?_) (fun h19 => ?_)
          · refine fun v20 e21 => ?_
            exact And.intro (by omega) (Exists.intro (48 - v20 : Int).toNat (And.intro (by omega) (And.intro rfl (And.intro rfl (And.intro (by omega) (And.intro (by omega) (And.intro (by omega) (And.intro (by omega) (And.intro (by omega) (by omega))))))))))
          · exact And.intro (by omega) (hK _ (by omega) (by omega))
  · refine fun v3 e4 => ?_
    exact And.intro (by omega) (Exists.intro (48 - v3 : Int).toNat (And.intro rfl (And.intro rfl (And.intro (by omega) (And.intro (by omega) (And.intro (by omega) (And.intro (by omega) (And.intro (by omega) (by omega)))))))))
def sM_takesUp : qS := fun as A K => ∃ t k : Int, as = [rf 0, ni t, ni k] ∧ (iva IM A ∧ ivf JM A ∧ 0 ≤ t ∧ t ≤ 7) ∧ (∀ A' : qA, iva IM A' → ivf JM A' → frm [54, 55] [] A A' → ∀ r : Int, rngL r → K (some (nl r)) A')
theorem okM_takesUp : okM LM 2 225 sM_takesUp := by
  refine qmeth [] false [(224, sM_hasKind)] 49 rfl ⟨okM_hasKind.le (by decide), trivial⟩ ?_
  rintro _ A K hA has ⟨t, k, rfl, ⟨i0, j0, p1, p2⟩, hK⟩
  have rg_t : rng t := has (ni t) (by simp)
  have rg_k : rng k := has (ni k) (by simp)
  have f0 := frm_0 [54, 55] [] A
  refine ⟨Nat.le_of_ble_eq_true rfl, [(2, [(0, 2, 0), (1, 0, 0), (2, 0, 0), (3, 0, 0)], fun zs B nn => match zs with | [l1, l2, x] => iva IM B ∧ ivf JM B ∧ frm [54, 55] [] A B ∧ nn = (8 - x : Int).toNat ∧ (l1 = t) ∧ (l2 = k) ∧ (0 ≤ x) ∧ (x ≤ 8) | _ => False)], ?_, ?_⟩
  · refine ⟨⟨rfl, ?_⟩, trivial⟩
    · refine fun l1 l2 x B mm hB hz hI => ?_
      obtain ⟨i1, j1, f1, hm, c0, c1, c2, c3⟩ := hI
      obtain ⟨hz_l1, hz_l2, hz_x, _⟩ := hz
      refine And.intro (fun h3 => ?_) (fun h3 => ?_)
      · refine And.intro (by omega) (fun v4 e5 => ?_)
        refine fun (v6 : Int) (e7 : v6 = 0) => ?_
        refine And.intro (by omega) (fun A8 e9 => ?_)
        have i10 := iva_st i1 e9 trivial
        have j11 := ivf_sa j1 e9 rfl
        have f12 := frm_s f1 e9 rfl
        exact hK _ i10 j11 f12 _ (by first | assumption | omega | (subst_vars; exact l_rng _) | (subst_vars; exact (hB _ _).1) | exact qnL_rng (by decide))
      · refine Exists.intro x (Exists.intro l2 (And.intro rfl (And.intro (And.intro i1 (And.intro j1 (And.intro (by omega) (by omega)))) (fun r13 g14 g15 => ?_))))
        refine And.intro (fun h16 => ?_) (fun h16 => ?_)
        · refine And.intro (by omega) (fun v17 e18 => ?_)
          refine And.intro (by omega) (fun v19 e20 => ?_)
          refine fun v21 e22 => ?_
          refine And.intro (by omega) (fun A23 e24 => ?_)
          have i25 := iva_st i1 e24 trivial
          have j26 := ivf_sa j1 e24 rfl
          have f27 := frm_s f1 e24 rfl
          refine fun (v28 : Int) (e29 : v28 = 0) => ?_
          refine And.intro (by omega) (fun A30 e31 => ?_)
          have i32 := iva_st i25 e31 trivial
          have j33 := ivf_sa j26 e31 rfl
          have f34 := frm_s f27 e31 rfl
          refine fun v35 e36 => ?_
          exact And.intro (by omega) (Exists.intro (8 - v35 : Int).toNat (And.intro (by omega) (And.intro i32 (And.intro j33 (And.intro f34 (And.intro rfl (And.intro (by omega) (And.intro (by omega) (And.intro (by omega) (by omega))))))))))
        · refine fun v37 e38 => ?_
          exact And.intro (by omega) (Exists.intro (8 - v37 : Int).toNat (And.intro (by omega) (And.intro i1 (And.intro j1 (And.intro f1 (And.intro rfl (And.intro (by omega) (And.intro (by omega) (And.intro (by omega) (by omega))))))))))
  · exact Exists.intro (8 - 0 : Int).toNat (And.intro i0 (And.intro j0 (And.intro f0 (And.intro rfl (And.intro (by omega) (And.intro (by omega) (And.intro (by omega) (by omega))))))))
def sM_moved : qS := fun as A K => ∃ x b : Int, as = [ni x, ni b] ∧ (0 ≤ x ∧ x ≤ 7 ∧ (-1) ≤ b ∧ b ≤ 1) ∧ (∀ r : Int, 0 ≤ r → r ≤ 7 → K (some (ni r)) A)
theorem okM_moved : okM LM 1 226 sM_moved := by
  refine qmeth [] false [] 21 rfl trivial ?_
  rintro _ A K hA has ⟨x, b, rfl, ⟨p1, p2, p3, p4⟩, hK⟩
  have rg_x : rng x := has (ni x) (by simp)
  have rg_b : rng b := has (ni b) (by simp)
  refine ⟨Nat.le_of_ble_eq_true rfl, [], trivial, ?_⟩
  refine fun v5 e6 => ?_
  refine And.intro (by omega) (And.intro (fun h7 => ?_) (fun h7 => ?_))
  · exact hK _ (by omega) (by omega)
  · refine fun v8 e9 => ?_
    refine And.intro (by omega) (And.intro (fun h10 => ?_) (fun h10 => ?_))
    · refine fun v11 e12 => ?_
      exact And.intro (by omega) (hK _ (by omega) (by omega))
    · exact hK _ (by omega) (by omega)
def sM_flies : qS := fun as A K => as = [rf 0] ∧ (iva IM A ∧ ivf JM A) ∧ (∀ A' : qA, iva IM A' → ivf JM A' → frm [54, 55, 56, 57] [] A A' → K none A')
theorem okM_flies : okM LM 2 227 sM_flies := by
  refine qmeth [] false [(226, sM_moved)] 91 rfl ⟨okM_moved.le (by decide), trivial⟩ ?_
  rintro _ A K hA has ⟨rfl, ⟨i0, j0⟩, hK⟩
  have f0 := frm_0 [54, 55, 56, 57] [] A
  refine ⟨Nat.le_of_ble_eq_true rfl, [(2, [(0, 2, 0), (1, 0, 0)], fun zs B nn => match zs with | [x] => iva IM B ∧ ivf JM B ∧ frm [54, 55, 56, 57] [] A B ∧ nn = (3000 - x : Int).toNat ∧ (0 ≤ x) ∧ (x ≤ 8) | _ => False), (19, [(0, 2, 0), (1, 0, 0)], fun zs B nn => match zs with | [x] => iva IM B ∧ ivf JM B ∧ frm [54, 55, 56, 57] [] A B ∧ nn = (2000 - x * 10 : Int).toNat ∧ (0 ≤ x) ∧ (x ≤ 8) | _ => False), (63, [(0, 2, 0), (1, 0, 0)], fun zs B nn => match zs with | [x] => iva IM B ∧ ivf JM B ∧ frm [54, 55, 56, 57] [] A B ∧ nn = (8 - x : Int).toNat ∧ (0 ≤ x) ∧ (x ≤ 8) | _ => False), (24, [(0, 2, 0), (1, 0, 0), (2, 0, 0)], fun zs B nn => match zs with | [x, b] => iva IM B ∧ ivf JM B ∧ frm [54, 55, 56, 57] [] A B ∧ nn = (2000 - x * 10 - 3 - b : Int).toNat ∧ (0 ≤ x) ∧ (x ≤ 7) ∧ ((-1) ≤ b) ∧ (b ≤ 2) | _ => False)], ?_, ?_⟩
  · refine ⟨⟨rfl, ?_⟩, ⟨rfl, ?_⟩, ⟨rfl, ?_⟩, ⟨rfl, ?_⟩, trivial⟩
    · refine fun x B mm hB hz hI => ?_
      obtain ⟨i1, j1, f1, hm, c0, c1⟩ := hI
      obtain ⟨hz_x, _⟩ := hz
      refine And.intro (fun h1 => ?_) (fun h1 => ?_)
      · exact Exists.intro (2000 - 0 * 10 : Int).toNat (And.intro (by omega) (And.intro i1 (And.intro j1 (And.intro f1 (And.intro rfl (And.intro (by omega) (by omega)))))))
      · refine fun (v2 : Int) (e3 : v2 = 0) => ?_
        refine And.intro (by omega) (fun A4 e5 => ?_)
        have i6 := iva_st i1 e5 trivial
        have j7 := ivf_sa j1 e5 rfl
        have f8 := frm_s f1 e5 rfl
        refine fun (v9 : Int) (e10 : v9 = 0) => ?_
        refine And.intro (by omega) (fun A11 e12 => ?_)
        have i13 := iva_st i6 e12 trivial
        have j14 := ivf_sa j7 e12 rfl
        have f15 := frm_s f8 e12 rfl
        refine fun v16 e17 => ?_
        exact And.intro (by omega) (Exists.intro (3000 - v16 : Int).toNat (And.intro (by omega) (And.intro i13 (And.intro j14 (And.intro f15 (And.intro rfl (And.intro (by omega) (by omega))))))))
    · refine fun x B mm hB hz hI => ?_
      obtain ⟨i1, j1, f1, hm, c0, c1⟩ := hI
      obtain ⟨hz_x, _⟩ := hz
      refine And.intro (fun h18 => ?_) (fun h18 => ?_)
      · exact Exists.intro (8 - 0 : Int).toNat (And.intro (by omega) (And.intro i1 (And.intro j1 (And.intro f1 (And.intro rfl (And.intro (by omega) (by omega)))))))
      · exact Exists.intro (2000 - x * 10 - 3 - (-1) : Int).toNat (And.intro (by omega) (And.intro i1 (And.intro j1 (And.intro f1 (And.intro rfl (And.intro (by omega) (And.intro (by omega) (And.intro (by omega) (by omega)))))))))
    · refine fun x B mm hB hz hI => ?_
      obtain ⟨i1, j1, f1, hm, c0, c1⟩ := hI
      obtain ⟨hz_x, _⟩ := hz
      refine And.intro (fun h19 => ?_) (fun h19 => ?_)
      · exact hK _ i1 j1 f1
      · refine And.intro (by omega) (fun v20 e21 => ?_)
        refine And.intro (by omega) (fun A22 e23 => ?_)
        have i24 := iva_st i1 e23 trivial
        have j25 := ivf_sa j1 e23 rfl
        have f26 := frm_s f1 e23 rfl
        refine And.intro (by omega) (fun v27 e28 => ?_)
        refine And.intro (by omega) (fun A29 e30 => ?_)
        have i31 := iva_st i24 e30 trivial
        have j32 := ivf_sa j25 e30 rfl
        have f33 := frm_s f26 e30 rfl
        refine fun v34 e35 => ?_
        exact And.intro (by omega) (Exists.intro (8 - v34 : Int).toNat (And.intro (by omega) (And.intro i31 (And.intro j32 (And.intro f33 (And.intro rfl (And.intro (by omega) (by omega))))))))
    · refine fun x b B mm hB hz hI => ?_
      obtain ⟨i1, j1, f1, hm, c0, c1, c2, c3⟩ := hI
      obtain ⟨hz_x, hz_b, _⟩ := hz
      refine And.intro (fun h36 => ?_) (fun h36 => ?_)
      · refine fun v37 e38 => ?_
        exact And.intro (by omega) (Exists.intro (2000 - v37 * 10 : Int).toNat (And.intro (by omega) (And.intro i1 (And.intro j1 (And.intro f1 (And.intro rfl (And.intro (by omega) (by omega))))))))
      · refine Exists.intro x (Exists.intro b (And.intro rfl (And.intro (And.intro (by omega) (And.intro (by omega) (And.intro (by omega) (by omega)))) (fun r39 g40 g41 => ?_))))
        refine And.intro (by omega) (fun v42 e43 => ?_)
        refine And.intro (by omega) (fun v44 e45 => ?_)
        refine fun v46 e47 => ?_
        refine And.intro (by omega) (fun A48 e49 => ?_)
        have i50 := iva_st i1 e49 trivial
        have j51 := ivf_sa j1 e49 rfl
        have f52 := frm_s f1 e49 rfl
        refine And.intro (by omega) (fun v53 e54 => ?_)
        refine And.intro (by omega) (fun v55 e56 => ?_)
        refine fun v57 e58 => ?_
        refine And.intro (by omega) (fun A59 e60 => ?_)
        have i61 := iva_st i50 e60 trivial
        have j62 := ivf_sa j51 e60 rfl
        have f63 := frm_s f52 e60 rfl
        refine fun v64 e65 => ?_
        exact And.intro (by omega) (Exists.intro (2000 - x * 10 - 3 - v64 : Int).toNat (And.intro (by omega) (And.intro i61 (And.intro j62 (And.intro f63 (And.intro rfl (And.intro (by omega) (And.intro (by omega) (And.intro (by omega) (by omega))))))))))
  · exact Exists.intro (3000 - 0 : Int).toNat (And.intro i0 (And.intro j0 (And.intro f0 (And.intro rfl (And.intro (by omega) (by omega))))))
def sM_pollinate : qS := fun as A K => ∃ c k : Int, as = [rf 0, ni c, ni k] ∧ (iva IM A ∧ ivf JM A) ∧ (∀ A' : qA, iva IM A' → ivf JM A' → frm [2] [] A A' → ∀ r : Int, rng r → K (some (ni r)) A')
theorem okM_pollinate : okM LM 2 230 sM_pollinate := by
  refine qmeth [] true [(145, sM_in)] 61 rfl ⟨okM_in.le (by decide), trivial⟩ ?_
  rintro _ A K hA has ⟨c, k, rfl, ⟨i0, j0⟩, hK⟩
  have rg_c : rng c := has (ni c) (by simp)
  have rg_k : rng k := has (ni k) (by simp)
  have f0 := frm_0 [2] [] A
  refine ⟨Nat.le_of_ble_eq_true rfl, [(18, [(0, 2, 0), (1, 0, 0), (2, 0, 0), (3, 0, 0), (4, 0, 0)], fun zs B nn => match zs with | [l1, l2, s, j] => iva IM B ∧ ivf JM B ∧ frm [2] [] A B ∧ nn = (48 - j : Int).toNat ∧ (l1 = c) ∧ (l2 = k) ∧ (0 ≤ l1) ∧ (l1 ≤ 7) ∧ (0 ≤ j) ∧ (j ≤ 48) | _ => False)], ?_, ?_⟩
  · refine ⟨⟨rfl, ?_⟩, trivial⟩
    · refine fun l1 l2 s j B mm hB hz hI => ?_
      obtain ⟨i1, j1, f1, hm, c0, c1, c2, c3, c4, c5⟩ := hI
      obtain ⟨hz_l1, hz_l2, hz_s, hz_j, _⟩ := hz
      refine fun v11 e12 => ?_
      refine fun v13 e14 => ?_
      have w16 := wI_rng v13
      have w17 : wI v13 = v13 := wI_id (by omega)
      refine And.intro (fun h15 => ?_) (fun h15 => ?_)
      · exact hK _ i1 j1 f1 _ (by first | exact wI_rng _ | omega | (exact (hA _ _).2 rfl))
      · refine And.intro (by omega) (fun v18 gv18 e19 => ?_)
        have b20 := iva_at i1 0 rfl (i := j) (by omega) (by omega)
        refine And.intro (fun h21 => ?_) (fun h21 => ?_)
        · refine fun v22 e23 => ?_
          have w24 := wI_rng v22
          have w25 : wI v22 = v22 := wI_id (by omega)
          exact Exists.intro (48 - ((wI v22)) : Int).toNat (And.intro (by omega) (And.intro i1 (And.intro j1 (And.intro f1 (And.intro rfl (And.intro (by omega) (And.intro (by omega) (And.intro (by omega) (And.intro (by omega) (And.intro (by omega) (by omega)))))))))))
        · refine And.intro (by omega) (fun v26 gv26 e27 => ?_)
          have b28 := iva_at i1 2 rfl (i := j) (by omega) (by omega)
          refine And.intro (fun h29 => ?_) (fun h29 => ?_)
          · refine fun v30 e31 => ?_
            have w32 := wI_rng v30
            have w33 : wI v30 = v30 := wI_id (by omega)
            exact Exists.intro (48 - ((wI v30)) : Int).toNat (And.intro (by omega) (And.intro i1 (And.intro j1 (And.intro f1 (And.intro rfl (And.intro (by omega) (And.intro (by omega) (And.intro (by omega) (And.intro (by omega) (And.intro (by omega) (by omega)))))))))))
          · refine And.intro (by omega) (fun v34 gv34 e35 => ?_)
            have b36 := iva_at i1 1 rfl (i := j) (by omega) (by omega)
            refine And.intro (fun h37 => ?_) (fun h37 => ?_)
            · refine And.intro (by omega) (And.intro (by omega) (fun A38 e39 => ?_))
              have i40 := iva_st i1 e39 (And.intro (by omega) trivial)
              have j41 := ivf_sa j1 e39 rfl
              have f42 := frm_s f1 e39 rfl
              refine fun v43 e44 => ?_
              refine fun v45 e46 => ?_
              have w47 := wI_rng v43
              have w48 := wI_rng v45
              have w49 : wI v45 = v45 := wI_id (by omega)
              exact Exists.intro (48 - ((wI v45)) : Int).toNat (And.intro (by omega) (And.intro i40 (And.intro j41 (And.intro f42 (And.intro rfl (And.intro (by omega) (And.intro (by omega) (And.intro (by omega) (And.intro (by omega) (And.intro (by omega) (by omega)))))))))))
            · refine fun v50 e51 => ?_
              have w52 := wI_rng v50
              have w53 : wI v50 = v50 := wI_id (by omega)
              exact Exists.intro (48 - ((wI v50)) : Int).toNat (And.intro (by omega) (And.intro i1 (And.intro j1 (And.intro f1 (And.intro rfl (And.intro (by omega) (And.intro (by omega) (And.intro (by omega) (And.intro (by omega) (And.intro (by omega) (by omega)))))))))))
  · refine Exists.intro c (Exists.intro 0 (Exists.intro 7 (And.intro rfl (And.intro (fun h1 => ?_) (fun h1 => ?_)))))
    · refine And.intro (fun h2 => by exfalso; omega) (fun h2 => ?_)
      refine Exists.intro k (Exists.intro 0 (Exists.intro 5 (And.intro rfl (And.intro (fun h3 => ?_) (fun h3 => ?_)))))
      · refine And.intro (fun h4 => ?_) (fun h4 => by exfalso; omega)
        refine fun v5 e6 => ?_
        have w7 := wI_rng v5
        have w8 : wI v5 = v5 := wI_id (by omega)
        exact Exists.intro (48 - ((wI v5)) : Int).toNat (And.intro i0 (And.intro j0 (And.intro f0 (And.intro rfl (And.intro (by omega) (And.intro (by omega) (And.intro (by omega) (And.intro (by omega) (And.intro (by omega) (by omega))))))))))
      · refine And.intro (fun h9 => by exfalso; omega) (fun h9 => ?_)
        exact hK _ i0 j0 f0 _ (by first | exact wI_rng _ | omega | (exact (hA _ _).2 rfl))
    · refine And.intro (fun h10 => ?_) (fun h10 => by exfalso; omega)
      exact hK _ i0 j0 f0 _ (by first | exact wI_rng _ | omega | (exact (hA _ _).2 rfl))
def sM_bearsAll : qS := fun as A K => as = [rf 0] ∧ (iva IM A ∧ ivf JM A) ∧ (∀ A' : qA, iva IM A' → ivf JM A' → frm [58] [] A A' → ∀ r : Int, 0 ≤ r → r ≤ 1 → K (some (ni r)) A')
theorem okM_bearsAll : okM LM 2 231 sM_bearsAll := by
  refine qmeth [] true [(147, sM_more)] 145 rfl ⟨okM_more.le (by decide), trivial⟩ ?_
  rintro _ A K hA has ⟨rfl, ⟨i0, j0⟩, hK⟩
  have f0 := frm_0 [58] [] A
  refine ⟨Nat.le_of_ble_eq_true rfl, [(2, [(0, 2, 0), (1, 0, 0)], fun zs B nn => match zs with | [c] => iva IM B ∧ ivf JM B ∧ frm [58] [] A B ∧ nn = (1000 - c : Int).toNat ∧ (0 ≤ c) ∧ (c ≤ 48) | _ => False), (57, [(0, 2, 0), (1, 0, 0)], fun zs B nn => match zs with | [q] => iva IM B ∧ ivf JM B ∧ frm [58] [] A B ∧ nn = (900 - q : Int).toNat ∧ (0 ≤ q) ∧ (q ≤ 8) | _ => False), (95, [(0, 2, 0), (1, 0, 0)], fun zs B nn => match zs with | [x] => iva IM B ∧ ivf JM B ∧ frm [58] [] A B ∧ nn = ((8 - x) * 20 + 10 : Int).toNat ∧ (0 ≤ x) ∧ (x ≤ 8) | _ => False), (108, [(0, 2, 0), (1, 0, 0), (2, 0, 0), (3, 0, 0)], fun zs B nn => match zs with | [x, s, c] => iva IM B ∧ ivf JM B ∧ frm [58] [] A B ∧ nn = ((8 - x) * 20 + c - 6 * x + 1 : Int).toNat ∧ (0 ≤ x) ∧ (x ≤ 7) ∧ (6 * x - 1 ≤ c) ∧ (c ≤ 6 * x + 5) | _ => False)], ?_, ?_⟩
  · refine ⟨⟨rfl, ?_⟩, ⟨rfl, ?_⟩, ⟨rfl, ?_⟩, ⟨rfl, ?_⟩, trivial⟩
    · refine fun c B mm hB hz hI => ?_
      obtain ⟨i1, j1, f1, hm, c0, c1⟩ := hI
      obtain ⟨hz_c, _⟩ := hz
      refine And.intro (fun h1 => ?_) (fun h1 => ?_)
      · exact Exists.intro (900 - 0 : Int).toNat (And.intro (by omega) (And.intro i1 (And.intro j1 (And.intro f1 (And.intro rfl (And.intro (by omega) (by omega)))))))
      · refine And.intro (by omega) (fun v2 gv2 e3 => ?_)
        have b4 := iva_at i1 0 rfl (i := c) (by omega) (by omega)
        refine And.intro (fun h5 => ?_) (fun h5 => ?_)
        · refine And.intro (by omega) (fun A6 e7 => ?_)
          have i8 := iva_st i1 e7 trivial
          have j9 := ivf_sa j1 e7 rfl
          have f10 := frm_s f1 e7 rfl
          refine fun v11 e12 => ?_
          have w13 := wI_rng v11
          have w14 : wI v11 = v11 := wI_id (by omega)
          exact Exists.intro (1000 - ((wI v11)) : Int).toNat (And.intro (by omega) (And.intro i8 (And.intro j9 (And.intro f10 (And.intro rfl (And.intro (by omega) (by omega)))))))
        · refine And.intro (by omega) (fun v15 gv15 e16 => ?_)
          refine fun v17 e18 => ?_
          refine And.intro (by omega) (fun v19 gv19 e20 => ?_)
          refine fun v21 e22 => ?_
          refine And.intro (by omega) (fun v23 gv23 e24 => ?_)
          refine fun v25 e26 => ?_
          refine And.intro (by omega) (fun v27 gv27 e28 => ?_)
          have b29 := iva_at i1 2 rfl (i := c) (by omega) (by omega)
          refine And.intro (fun h30 => ?_) (fun h30 => ?_)
          · refine And.intro (by omega) (fun v31 gv31 e32 => ?_)
            refine And.intro (by omega) (fun v33 gv33 e34 => ?_)
            have b35 := iva_at i1 2 rfl (i := c) (by omega) (by omega)
            have q36 : v27 = v33 := (e34.trans e28.symm).symm
            subst q36
            refine And.intro (by omega) (fun v37 gv37 e38 => ?_)
            have b39 := iva_at i1 4 rfl (i := v27) (by omega) (by omega)
            refine Exists.intro v31 (Exists.intro v37 (And.intro rfl (fun r40 g42 g41 => ?_)))
            refine fun v43 e44 => ?_
            have w47 := wI_rng v43
            refine And.intro (by omega) (fun A45 e46 => ?_)
            have i48 := iva_st i1 e46 trivial
            have j49 := ivf_sa j1 e46 rfl
            have f50 := frm_s f1 e46 rfl
            refine fun v51 e52 => ?_
            have w53 := wI_rng v51
            have w54 : wI v51 = v51 := wI_id (by omega)
            exact Exists.intro (1000 - ((wI v51)) : Int).toNat (And.intro (by omega) (And.intro i48 (And.intro j49 (And.intro f50 (And.intro rfl (And.intro (by omega) (by omega)))))))
          · refine fun v55 e56 => ?_
            have w59 := wI_rng v55
            refine And.intro (by omega) (fun A57 e58 => ?_)
            have i60 := iva_st i1 e58 trivial
            have j61 := ivf_sa j1 e58 rfl
            have f62 := frm_s f1 e58 rfl
            refine fun v63 e64 => ?_
            have w65 := wI_rng v63
            have w66 : wI v63 = v63 := wI_id (by omega)
            exact Exists.intro (1000 - ((wI v63)) : Int).toNat (And.intro (by omega) (And.intro i60 (And.intro j61 (And.intro f62 (And.intro rfl (And.intro (by omega) (by omega)))))))
    · refine fun q B mm hB hz hI => ?_
      obtain ⟨i1, j1, f1, hm, c0, c1⟩ := hI
      obtain ⟨hz_q, _⟩ := hz
      refine fun v67 gv67 e68 => ?_
      have b69 := ivf_at j1 2 rfl
      refine And.intro (fun h70 => ?_) (fun h70 => ?_)
      · exact Exists.intro ((8 - 0) * 20 + 10 : Int).toNat (And.intro (by omega) (And.intro i1 (And.intro j1 (And.intro f1 (And.intro rfl (And.intro (by omega) (by omega)))))))
      · refine And.intro (by omega) (fun v71 gv71 e72 => ?_)
        have b73 := iva_at i1 21 rfl (i := q) (by omega) (by omega)
        refine And.intro (by omega) (fun v74 gv74 e75 => ?_)
        have b76 := iva_at i1 21 rfl (i := q) (by omega) (by omega)
        have q77 : v71 = v74 := (e75.trans e72.symm).symm
        subst q77
        refine And.intro (by omega) (fun v78 gv78 e79 => ?_)
        refine And.intro (by omega) (fun v80 gv80 e81 => ?_)
        have b82 := iva_at i1 22 rfl (i := q) (by omega) (by omega)
        refine And.intro (fun h83 => ?_) (fun h83 => ?_)
        · refine And.intro (by omega) (fun v84 gv84 e85 => ?_)
          have b86 := iva_at i1 22 rfl (i := q) (by omega) (by omega)
          have q87 : v80 = v84 := (e85.trans e81.symm).symm
          subst q87
          refine And.intro (by omega) (fun v88 gv88 e89 => ?_)
          have b90 := iva_at i1 4 rfl (i := v80) (by omega) (by omega)
          refine fun v91 e92 => ?_
          have w95 := wI_rng v91
          refine And.intro (by omega) (fun A93 e94 => ?_)
          have i96 := iva_st i1 e94 trivial
          have j97 := ivf_sa j1 e94 rfl
          have f98 := frm_s f1 e94 rfl
          refine fun v99 e100 => ?_
          have w101 := wI_rng v99
          have w102 : wI v99 = v99 := wI_id (by omega)
          exact Exists.intro (900 - ((wI v99)) : Int).toNat (And.intro (by omega) (And.intro i96 (And.intro j97 (And.intro f98 (And.intro rfl (And.intro (by omega) (by omega)))))))
        · refine fun v103 e104 => ?_
          have w107 := wI_rng v103
          have w108 : wI v103 = v103 := wI_id (by omega)
          refine And.intro (by omega) (fun A105 e106 => ?_)
          have i109 := iva_st i1 e106 trivial
          have j110 := ivf_sa j1 e106 rfl
          have f111 := frm_s f1 e106 rfl
          refine fun v112 e113 => ?_
          have w114 := wI_rng v112
          have w115 : wI v112 = v112 := wI_id (by omega)
          exact Exists.intro (900 - ((wI v112)) : Int).toNat (And.intro (by omega) (And.intro i109 (And.intro j110 (And.intro f111 (And.intro rfl (And.intro (by omega) (by omega)))))))
    · refine fun x B mm hB hz hI => ?_
      obtain ⟨i1, j1, f1, hm, c0, c1⟩ := hI
      obtain ⟨hz_x, _⟩ := hz
      refine And.intro (fun h116 => ?_) (fun h116 => ?_)
      · exact And.intro (by omega) (hK _ i1 j1 f1 _ (by omega) (by omega))
      · refine fun v117 e118 => ?_
        refine fun v119 e120 => ?_
        refine fun v121 e122 => ?_
        have w123 := wI_rng v121
        have w124 : wI v121 = v121 := wI_id (by omega)
        exact Exists.intro ((8 - x) * 20 + ((wI v121)) - 6 * x + 1 : Int).toNat (And.intro (by omega) (And.intro i1 (And.intro j1 (And.intro f1 (And.intro rfl (And.intro (by omega) (And.intro (by omega) (And.intro (by omega) (by omega)))))))))
    · refine fun x s c B mm hB hz hI => ?_
      obtain ⟨i1, j1, f1, hm, c0, c1, c2, c3⟩ := hI
      obtain ⟨hz_x, hz_s, hz_c, _⟩ := hz
      refine fun v125 e126 => ?_
      have w128 := wI_rng v125
      have w129 : wI v125 = v125 := wI_id (by omega)
      refine And.intro (fun h127 => ?_) (fun h127 => ?_)
      · refine fun v130 e131 => ?_
        have w132 := wI_rng v130
        have w133 : wI v130 = v130 := wI_id (by omega)
        exact Exists.intro ((8 - ((wI v130))) * 20 + 10 : Int).toNat (And.intro (by omega) (And.intro i1 (And.intro j1 (And.intro f1 (And.intro rfl (And.intro (by omega) (by omega)))))))
      · refine And.intro (by omega) (fun v134 gv134 e135 => ?_)
        refine fun v136 e137 => ?_
        refine And.intro (by omega) (fun v138 gv138 e139 => ?_)
        have b140 := iva_at i1 0 rfl (i := c) (by omega) (by omega)
        refine And.intro (fun h141 => ?_) (fun h141 => ?_)
        · refine fun v142 e143 => ?_
          have w144 := wI_rng v136
          have w145 := wI_rng v142
          have w146 : wI v142 = v142 := wI_id (by omega)
          exact Exists.intro ((8 - x) * 20 + ((wI v142)) - 6 * x + 1 : Int).toNat (And.intro (by omega) (And.intro i1 (And.intro j1 (And.intro f1 (And.intro rfl (And.intro (by omega) (And.intro (by omega) (And.intro (by omega) (by omega)))))))))
        · refine And.intro (by omega) (fun v147 gv147 e148 => ?_)
          have w150 := wI_rng v136
          refine And.intro (fun h149 => ?_) (fun h149 => ?_)
          · refine fun v151 e152 => ?_
            have w153 := wI_rng v136
            have w154 := wI_rng v151
            have w155 : wI v151 = v151 := wI_id (by omega)
            exact Exists.intro ((8 - x) * 20 + ((wI v151)) - 6 * x + 1 : Int).toNat (And.intro (by omega) (And.intro i1 (And.intro j1 (And.intro f1 (And.intro rfl (And.intro (by omega) (And.intro (by omega) (And.intro (by omega) (by omega)))))))))
          · exact And.intro (by omega) (hK _ i1 j1 f1 _ (by omega) (by omega))
  · exact Exists.intro (1000 - 0 : Int).toNat (And.intro i0 (And.intro j0 (And.intro f0 (And.intro rfl (And.intro (by omega) (by omega))))))
def sM_areWhole : qS := fun as A K => as = [rf 0] ∧ (iva IM A ∧ ivf JM A) ∧ (∀ r : Int, 0 ≤ r → r ≤ 1 → K (some (ni r)) A)
theorem okM_areWhole : okM LM 1 232 sM_areWhole := by
  refine qmeth [] false [] 50 rfl trivial ?_
  rintro _ A K hA has ⟨rfl, ⟨i0, j0⟩, hK⟩
  have f0 := frm_0 [] [] A
  refine ⟨Nat.le_of_ble_eq_true rfl, [(2, [(0, 2, 0), (1, 0, 0)], fun zs B nn => match zs with | [q] => A = B ∧ nn = (8 - q : Int).toNat ∧ (0 ≤ q) ∧ (q ≤ 8) | _ => False)], ?_, ?_⟩
  · refine ⟨⟨rfl, ?_⟩, trivial⟩
    · refine fun q B mm hB hz hI => ?_
      obtain ⟨rfl, hm, c0, c1⟩ := hI
      obtain ⟨hz_q, _⟩ := hz
      refine fun v1 gv1 e2 => ?_
      have b3 := ivf_at j0 2 rfl
      refine And.intro (fun h4 => ?_) (fun h4 => ?_)
      · exact And.intro (by omega) (hK _ (by omega) (by omega))
      · refine And.intro (by omega) (fun v5 gv5 e6 => ?_)
        have b7 := iva_at i0 22 rfl (i := q) (by omega) (by omega)
        refine And.intro (fun h8 => ?_) (fun h8 => ?_)
        · refine fun v9 e10 => ?_
          exact And.intro (by omega) (Exists.intro (8 - v9 : Int).toNat (And.intro (by omega) (And.intro rfl (And.intro rfl (And.intro (by omega) (by omega))))))
        · refine And.intro (by omega) (fun v11 gv11 e12 => ?_)
          have b13 := iva_at i0 22 rfl (i := q) (by omega) (by omega)
          have q14 : v5 = v11 := (e12.trans e6.symm).symm
          subst q14
          refine And.intro (by omega) (fun v15 gv15 e16 => ?_)
          have b17 := iva_at i0 4 rfl (i := v5) (by omega) (by omega)
          refine And.intro (by omega) (fun v18 gv18 e19 => ?_)
          have b20 := iva_at i0 21 rfl (i := q) (by omega) (by omega)
          refine And.intro (by omega) (fun v21 e22 => ?_)
          have h23 := qm_nn (a := v18) (b := 6) (by omega)
          refine fun v24 e25 => ?_
          refine fun v26 e27 => ?_
          have h28 := mul_bd (a := v15) (b := v24) (p := 200) (q := 6) (by omega) (by omega) (by omega) (by omega)
          rw [← e27] at h28
          refine And.intro (by omega) (fun v29 gv29 e30 => ?_)
          have b31 := iva_at i0 21 rfl (i := q) (by omega) (by omega)
          have q32 : v18 = v29 := (e30.trans e19.symm).symm
          subst q32
          refine And.intro (by omega) (fun v33 e34 => ?_)
          have h35 := qd_nn (a := v18) (b := 6) (by omega)
          refine And.intro (by omega) (fun v36 gv36 e37 => ?_)
          have b38 := iva_at i0 7 rfl (i := v33) (by omega) (by omega)
          refine And.intro (by omega) (And.intro (fun h39 => ?_) (fun h39 => ?_))
          · refine fun v40 e41 => ?_
            exact And.intro (by omega) (Exists.intro (8 - v40 : Int).toNat (And.intro (by omega) (And.intro rfl (And.intro rfl (And.intro (by omega) (by omega))))))
          · exact And.intro (by omega) (hK _ (by omega) (by omega))
  · exact Exists.intro (8 - 0 : Int).toNat (And.intro rfl (And.intro rfl (And.intro (by omega) (by omega))))
def sM_growth : qS := fun as A K => as = [rf 0] ∧ (iva IM A ∧ ivf JM A ∧ (WF A)) ∧ (∀ A' : qA, iva IM A' → ivf JM A' → frm [34, 35] [] A A' → ∀ r : Int, rng r → K (some (ni r)) A')
theorem okM_growth : okM LM 5 234 sM_growth := by
  refine qmeth [] true [(191, sM_asked)] 36 rfl ⟨okM_asked.le (by decide), trivial⟩ ?_
  rintro _ A K hA has ⟨rfl, ⟨i0, j0, p1⟩, hK⟩
  have f0 := frm_0 [34, 35] [] A
  refine ⟨Nat.le_of_ble_eq_true rfl, [(4, [(0, 2, 0), (1, 0, 0), (2, 0, 0)], fun zs B nn => match zs with | [s, c] => iva IM B ∧ ivf JM B ∧ frm [34, 35] [] A B ∧ nn = (48 - c : Int).toNat ∧ (0 ≤ c) ∧ (c ≤ 48) | _ => False)], ?_, ?_⟩
  · refine ⟨⟨rfl, ?_⟩, trivial⟩
    · refine fun s c B mm hB hz hI => ?_
      obtain ⟨i1, j1, f1, hm, c0, c1⟩ := hI
      obtain ⟨hz_s, hz_c, _⟩ := hz
      refine And.intro (fun h2 => ?_) (fun h2 => ?_)
      · exact hK _ i1 j1 f1 _ (by first | exact wI_rng _ | omega | (exact (hA _ _).2 rfl))
      · refine And.intro (by omega) (fun v3 gv3 e4 => ?_)
        have b5 := iva_at i1 0 rfl (i := c) (by omega) (by omega)
        refine And.intro (fun h6 => ?_) (fun h6 => ?_)
        · refine fun v7 e8 => ?_
          have w9 := wI_rng v7
          have w10 : wI v7 = v7 := wI_id (by omega)
          exact Exists.intro (48 - ((wI v7)) : Int).toNat (And.intro (by omega) (And.intro i1 (And.intro j1 (And.intro f1 (And.intro rfl (And.intro (by omega) (by omega)))))))
        · refine And.intro (by omega) (fun v11 gv11 e12 => ?_)
          have b13 := iva_at i1 2 rfl (i := c) (by omega) (by omega)
          refine And.intro (fun h14 => ?_) (fun h14 => ?_)
          · refine fun v15 e16 => ?_
            have w17 := wI_rng v15
            have w18 : wI v15 = v15 := wI_id (by omega)
            exact Exists.intro (48 - ((wI v15)) : Int).toNat (And.intro (by omega) (And.intro i1 (And.intro j1 (And.intro f1 (And.intro rfl (And.intro (by omega) (by omega)))))))
          · refine Exists.intro c (Exists.intro 103 (Exists.intro 50 (And.intro rfl (And.intro (And.intro i1 (And.intro j1 (And.intro (by omega) (And.intro (by omega) (And.intro (by omega) (And.intro (by omega) (WF_fr p1 f1 rfl))))))) (fun A19 i20 j21 f22 r23 g25 g26 g24 => ?_)))))
            have f27 := frm_c f1 f22 rfl
            refine fun v28 e29 => ?_
            refine fun v30 e31 => ?_
            have w32 := wI_rng v28
            have w33 := wI_rng v30
            have w34 : wI v30 = v30 := wI_id (by omega)
            exact Exists.intro (48 - ((wI v30)) : Int).toNat (And.intro (by omega) (And.intro i20 (And.intro j21 (And.intro f27 (And.intro rfl (And.intro (by omega) (by omega)))))))
  · exact Exists.intro (48 - 0 : Int).toNat (And.intro i0 (And.intro j0 (And.intro f0 (And.intro rfl (And.intro (by omega) (by omega))))))
def sM_bits : qS := fun as A K => ∃ x : Int, as = [ni x] ∧ (1 ≤ x ∧ x ≤ 255) ∧ (∀ r : Int, rng r → K (some (ni r)) A)
theorem okM_bits : okM LM 1 236 sM_bits := by
  refine qmeth [] true [] 25 rfl trivial ?_
  rintro _ A K hA has ⟨x, rfl, ⟨p1, p2⟩, hK⟩
  have rg_x : rng x := has (ni x) (by simp)
  refine ⟨Nat.le_of_ble_eq_true rfl, [(4, [(0, 0, 0), (1, 0, 0), (2, 0, 0)], fun zs B nn => match zs with | [l0, s, k] => A = B ∧ nn = (8 - k : Int).toNat ∧ (l0 = x) ∧ (0 ≤ k) ∧ (k ≤ 8) | _ => False)], ?_, ?_⟩
  · refine ⟨⟨rfl, ?_⟩, trivial⟩
    · refine fun l0 s k B mm hB hz hI => ?_
      obtain ⟨rfl, hm, c0, c1, c2⟩ := hI
      obtain ⟨hz_l0, hz_s, hz_k, _⟩ := hz
      refine And.intro (fun h3 => ?_) (fun h3 => ?_)
      · exact hK _ (by first | exact wI_rng _ | omega | (exact (hA _ _).2 rfl))
      · refine fun v4 e5 => ?_
        have h6 := sr_bd (a := l0) (b := k) (by omega) (by omega)
        refine fun v7 e8 => ?_
        have h9 := ia_bd (a := v4) (b := 1) (by omega) (by omega)
        refine fun v10 e11 => ?_
        refine fun v12 e13 => ?_
        have w14 := wI_rng v10
        have w15 := wI_rng v12
        have w16 : wI v12 = v12 := wI_id (by omega)
        exact Exists.intro (8 - ((wI v12)) : Int).toNat (And.intro (by omega) (And.intro rfl (And.intro rfl (And.intro (by omega) (And.intro (by omega) (by omega))))))
  · exact Exists.intro (8 - 0 : Int).toNat (And.intro rfl (And.intro rfl (And.intro (by omega) (And.intro (by omega) (by omega)))))
def sM_takesOf : qS := fun as A K => ∃ c : Int, as = [ni c] ∧ (0 ≤ c ∧ c ≤ 47) ∧ (∀ r : Int, 1 ≤ r → r ≤ 6 → K (some (ni r)) A)
theorem okM_takesOf : okM LM 1 237 sM_takesOf := by
  refine qmeth [] false [] 12 rfl trivial ?_
  rintro _ A K hA has ⟨c, rfl, ⟨p1, p2⟩, hK⟩
  have rg_c : rng c := has (ni c) (by simp)
  refine ⟨Nat.le_of_ble_eq_true rfl, [], trivial, ?_⟩
  refine And.intro (by omega) (fun v3 e4 => ?_)
  have h5 := qm_nn (a := c) (b := 6) (by omega)
  refine fun v6 e7 => ?_
  exact And.intro (by omega) (hK _ (by omega) (by omega))
def sM_hoursOf : qS := fun as A K => ∃ d : Int, as = [rf 0, ni d] ∧ (iva IM A ∧ ivf JM A ∧ 0 ≤ d ∧ d ≤ 255) ∧ (∀ r : Int, rng r → K (some (ni r)) A)
theorem okM_hoursOf : okM LM 2 238 sM_hoursOf := by
  refine qmeth [] true [(237, sM_takesOf)] 35 rfl ⟨okM_takesOf.le (by decide), trivial⟩ ?_
  rintro _ A K hA has ⟨d, rfl, ⟨i0, j0, p1, p2⟩, hK⟩
  have rg_d : rng d := has (ni d) (by simp)
  have f0 := frm_0 [] [] A
  refine ⟨Nat.le_of_ble_eq_true rfl, [(4, [(0, 2, 0), (1, 0, 0), (2, 0, 0), (3, 0, 0)], fun zs B nn => match zs with | [l1, s, q] => A = B ∧ nn = (8 - q : Int).toNat ∧ (l1 = d) ∧ (0 ≤ q) ∧ (q ≤ 8) | _ => False)], ?_, ?_⟩
  · refine ⟨⟨rfl, ?_⟩, trivial⟩
    · refine fun l1 s q B mm hB hz hI => ?_
      obtain ⟨rfl, hm, c0, c1, c2⟩ := hI
      obtain ⟨hz_l1, hz_s, hz_q, _⟩ := hz
      refine fun v3 gv3 e4 => ?_
      have b5 := ivf_at j0 2 rfl
      refine And.intro (fun h6 => ?_) (fun h6 => ?_)
      · exact hK _ (by first | exact wI_rng _ | omega | (exact (hA _ _).2 rfl))
      · refine fun v7 e8 => ?_
        have h9 := sr_bd (a := l1) (b := q) (by omega) (by omega)
        refine fun v10 e11 => ?_
        have h12 := ia_bd (a := v7) (b := 1) (by omega) (by omega)
        refine And.intro (fun h13 => ?_) (fun h13 => ?_)
        · refine fun v14 e15 => ?_
          refine fun v16 e17 => ?_
          have w18 := wI_rng v14
          have w19 : wI v14 = v14 := wI_id (by omega)
          have w20 := wI_rng v16
          have w21 : wI v16 = v16 := wI_id (by omega)
          exact Exists.intro (8 - ((wI v16)) : Int).toNat (And.intro (by omega) (And.intro rfl (And.intro rfl (And.intro (by omega) (And.intro (by omega) (by omega))))))
        · refine And.intro (by omega) (fun v22 gv22 e23 => ?_)
          have b24 := iva_at i0 21 rfl (i := q) (by omega) (by omega)
          refine Exists.intro v22 (And.intro rfl (And.intro (And.intro (by omega) (by omega)) (fun r25 g26 g27 => ?_)))
          refine fun v28 e29 => ?_
          refine fun v30 e31 => ?_
          have w32 := wI_rng v28
          have w33 := wI_rng v30
          have w34 : wI v30 = v30 := wI_id (by omega)
          exact Exists.intro (8 - ((wI v30)) : Int).toNat (And.intro (by omega) (And.intro rfl (And.intro rfl (And.intro (by omega) (And.intro (by omega) (by omega))))))
  · exact Exists.intro (8 - 0 : Int).toNat (And.intro rfl (And.intro rfl (And.intro (by omega) (And.intro (by omega) (by omega)))))
def sM_isHit : qS := fun as A K => ∃ c k : Int, as = [rf 0, ni c, ni k] ∧ (iva IM A ∧ ivf JM A ∧ 0 ≤ c ∧ c ≤ 7) ∧ (∀ r : Int, 0 ≤ r → r ≤ 1 → K (some (ni r)) A)
theorem okM_isHit : okM LM 2 242 sM_isHit := by
  refine qmeth [] false [(149, sM_at)] 50 rfl ⟨okM_at.le (by decide), trivial⟩ ?_
  rintro _ A K hA has ⟨c, k, rfl, ⟨i0, j0, p1, p2⟩, hK⟩
  have rg_c : rng c := has (ni c) (by simp)
  have rg_k : rng k := has (ni k) (by simp)
  have f0 := frm_0 [] [] A
  refine ⟨Nat.le_of_ble_eq_true rfl, [(2, [(0, 2, 0), (1, 0, 0), (2, 0, 0), (3, 0, 0)], fun zs B nn => match zs with | [l1, l2, l] => A = B ∧ nn = (6 - l : Int).toNat ∧ (l1 = c) ∧ (l2 = k) ∧ (0 ≤ l) ∧ (l ≤ 6) | _ => False)], ?_, ?_⟩
  · refine ⟨⟨rfl, ?_⟩, trivial⟩
    · refine fun l1 l2 l B mm hB hz hI => ?_
      obtain ⟨rfl, hm, c0, c1, c2, c3⟩ := hI
      obtain ⟨hz_l1, hz_l2, hz_l, _⟩ := hz
      refine And.intro (fun h3 => ?_) (fun h3 => ?_)
      · exact And.intro (by omega) (hK _ (by omega) (by omega))
      · refine Exists.intro l1 (Exists.intro l (And.intro rfl (And.intro (And.intro (by omega) (And.intro (by omega) (And.intro (by omega) (by omega)))) ?_)))
        refine And.intro (by omega) (fun v4 gv4 e5 => ?_)
        have b6 := iva_at i0 0 rfl (i := (6 * l1 + l)) (by omega) (by omega)
        refine And.intro (fun h7 => ?_) (fun h7 => ?_)
        · refine fun v8 e9 => ?_
          exact And.intro (by omega) (Exists.intro (6 - v8 : Int).toNat (And.intro (by omega) (And.intro rfl (And.intro rfl (And.intro (by omega) (And.intro (by omega) (And.intro (by omega) (by omega))))))))
        · refine And.intro (by omega) (fun v10 gv10 e11 => ?_)
          have b12 := iva_at i0 2 rfl (i := (6 * l1 + l)) (by omega) (by omega)
          refine And.intro (fun h13 => ?_) (fun h13 => ?_)
          · refine fun v14 e15 => ?_
            exact And.intro (by omega) (Exists.intro (6 - v14 : Int).toNat (And.intro (by omega) (And.intro rfl (And.intro rfl (And.intro (by omega) (And.intro (by omega) (And.intro (by omega) (by omega))))))))
          · refine And.intro (by omega) (fun v16 gv16 e17 => ?_)
            have b18 := iva_at i0 2 rfl (i := (6 * l1 + l)) (by omega) (by omega)
            have q19 : v10 = v16 := (e17.trans e11.symm).symm
            subst q19
            refine fun v20 e21 => ?_
            refine fun v22 e23 => ?_
            have h24 := ia_bd (a := v20) (b := 1) (by omega) (by omega)
            refine And.intro (fun h25 => ?_) (fun h25 => ?_)
            · refine fun v26 e27 => ?_
              exact And.intro (by omega) (Exists.intro (6 - v26 : Int).toNat (And.intro (by omega) (And.intro rfl (And.intro rfl (And.intro (by omega) (And.intro (by omega) (And.intro (by omega) (by omega))))))))
            · refine fun v28 e29 => ?_
              refine And.intro (by omega) (fun v30 gv30 e31 => ?_)
              have b32 := iva_at i0 7 rfl (i := l1) (by omega) (by omega)
              refine And.intro (by omega) (And.intro (fun h33 => ?_) (fun h33 => ?_))
              · refine fun v34 e35 => ?_
                exact And.intro (by omega) (Exists.intro (6 - v34 : Int).toNat (And.intro (by omega) (And.intro rfl (And.intro rfl (And.intro (by omega) (And.intro (by omega) (And.intro (by omega) (by omega))))))))
              · exact And.intro (by omega) (hK _ (by omega) (by omega))
  · exact Exists.intro (6 - 0 : Int).toNat (And.intro rfl (And.intro rfl (And.intro (by omega) (And.intro (by omega) (And.intro (by omega) (by omega))))))
def sM_hail : qS := fun as A K => ∃ k : Int, as = [rf 0, ni k] ∧ (iva IM A ∧ ivf JM A) ∧ (∀ r : Int, (-1) ≤ r → r ≤ 8 → K (some (ni r)) A)
theorem okM_hail : okM LM 3 243 sM_hail := by
  refine qmeth [] false [(145, sM_in), (242, sM_isHit)] 35 rfl ⟨okM_in.le (by decide), ⟨okM_isHit.le (by decide), trivial⟩⟩ ?_
  rintro _ A K hA has ⟨k, rfl, ⟨i0, j0⟩, hK⟩
  have rg_k : rng k := has (ni k) (by simp)
  have f0 := frm_0 [] [] A
  refine ⟨Nat.le_of_ble_eq_true rfl, [(11, [(0, 2, 0), (1, 0, 0), (2, 0, 0), (3, 0, 0)], fun zs B nn => match zs with | [l1, s, x] => A = B ∧ nn = (8 - x : Int).toNat ∧ (l1 = k) ∧ (0 ≤ x) ∧ (x ≤ 8) ∧ (0 ≤ s) ∧ (s ≤ x) | _ => False)], ?_, ?_⟩
  · refine ⟨⟨rfl, ?_⟩, trivial⟩
    · refine fun l1 s x B mm hB hz hI => ?_
      obtain ⟨rfl, hm, c0, c1, c2, c3, c4⟩ := hI
      obtain ⟨hz_l1, hz_s, hz_x, _⟩ := hz
      refine And.intro (fun h4 => ?_) (fun h4 => ?_)
      · exact hK _ (by omega) (by omega)
      · refine Exists.intro x (Exists.intro l1 (And.intro rfl (And.intro (And.intro i0 (And.intro j0 (And.intro (by omega) (by omega)))) (fun r5 g6 g7 => ?_))))
        refine And.intro (fun h8 => ?_) (fun h8 => ?_)
        · refine fun v9 e10 => ?_
          refine fun v11 e12 => ?_
          exact And.intro (by omega) (And.intro (by omega) (Exists.intro (8 - v11 : Int).toNat (And.intro (by omega) (And.intro rfl (And.intro rfl (And.intro (by omega) (And.intro (by omega) (And.intro (by omega) (And.intro (by omega) (by omega))))))))))
        · refine fun v13 e14 => ?_
          refine fun v15 e16 => ?_
          exact And.intro (by omega) (And.intro (by omega) (Exists.intro (8 - v15 : Int).toNat (And.intro (by omega) (And.intro rfl (And.intro rfl (And.intro (by omega) (And.intro (by omega) (And.intro (by omega) (And.intro (by omega) (by omega))))))))))
  · refine Exists.intro k (Exists.intro 0 (Exists.intro 63 (And.intro rfl (And.intro (fun h1 => ?_) (fun h1 => ?_)))))
    · refine And.intro (fun h2 => ?_) (fun h2 => by exfalso; omega)
      exact Exists.intro (8 - 0 : Int).toNat (And.intro rfl (And.intro rfl (And.intro (by omega) (And.intro (by omega) (And.intro (by omega) (And.intro (by omega) (by omega)))))))
    · refine And.intro (fun h3 => by exfalso; omega) (fun h3 => ?_)
      exact hK _ (by omega) (by omega)
def sM_tapeNumber : qS := fun as A K => ∃ i : Int, as = [rf 0, ni i] ∧ (iva IM A ∧ ivf JM A ∧ 0 ≤ i ∧ i ≤ 5) ∧ (∀ r : Int, rng r → K (some (ni r)) A)
theorem okM_tapeNumber : okM LM 1 244 sM_tapeNumber := by
  refine qmeth [] true [] 34 rfl trivial ?_
  rintro _ A K hA has ⟨i, rfl, ⟨i0, j0, p1, p2⟩, hK⟩
  have rg_i : rng i := has (ni i) (by simp)
  have f0 := frm_0 [] [] A
  refine ⟨Nat.le_of_ble_eq_true rfl, [(6, [(0, 2, 0), (1, 0, 0), (2, 0, 0), (3, 0, 0)], fun zs B nn => match zs with | [l1, s, k] => A = B ∧ nn = (24 - k : Int).toNat ∧ (l1 = i) ∧ (0 ≤ l1) ∧ (l1 ≤ 5) ∧ (0 ≤ k) ∧ (k ≤ 24) | _ => False)], ?_, ?_⟩
  · refine ⟨⟨rfl, ?_⟩, trivial⟩
    · refine fun l1 s k B mm hB hz hI => ?_
      obtain ⟨rfl, hm, c0, c1, c2, c3, c4⟩ := hI
      obtain ⟨hz_l1, hz_s, hz_k, _⟩ := hz
      refine fun v7 e8 => ?_
      refine fun v9 e10 => ?_
      have w12 := wI_rng v9
      have w13 : wI v9 = v9 := wI_id (by omega)
      refine And.intro (fun h11 => ?_) (fun h11 => ?_)
      · exact hK _ (by first | exact wI_rng _ | omega | (exact (hA _ _).2 rfl))
      · refine fun v14 e15 => ?_
        refine And.intro (by omega) (fun v16 gv16 e17 => ?_)
        have b18 := iva_at i0 10 rfl (i := k) (by omega) (by omega)
        refine fun v19 e20 => ?_
        have h21 := ia_bd (a := v16) (b := 255) (by omega) (by omega)
        refine fun v22 e23 => ?_
        refine fun v24 e25 => ?_
        have w26 := wI_rng v24
        have w27 : wI v24 = v24 := wI_id (by omega)
        exact Exists.intro (24 - ((wI v24)) : Int).toNat (And.intro (by omega) (And.intro rfl (And.intro rfl (And.intro (by omega) (And.intro (by omega) (And.intro (by omega) (And.intro (by omega) (by omega))))))))
  · refine fun v3 e4 => ?_
    have w5 := wI_rng v3
    have w6 : wI v3 = v3 := wI_id (by omega)
    exact Exists.intro (24 - ((wI v3)) : Int).toNat (And.intro rfl (And.intro rfl (And.intro (by omega) (And.intro (by omega) (And.intro (by omega) (And.intro (by omega) (by omega)))))))
def sM_check : qS := fun as A K => ∃ c n : Int, as = [rf 0, ni c, ni n] ∧ (iva IM A ∧ ivf JM A) ∧ (∀ A' : qA, iva IM A' → ivf JM A' → frm [] [(0, 26)] A A' → ∀ r : Int, rng r → K (some (ni r)) A')
theorem okM_check : okM LM 2 245 sM_check := by
  refine qmeth [] false [(145, sM_in), (149, sM_at), (244, sM_tapeNumber)] 68 rfl ⟨okM_in.le (by decide), ⟨okM_at.le (by decide), ⟨okM_tapeNumber.le (by decide), trivial⟩⟩⟩ ?_
  rintro _ A K hA has ⟨c, n, rfl, ⟨i0, j0⟩, hK⟩
  have rg_c : rng c := has (ni c) (by simp)
  have rg_n : rng n := has (ni n) (by simp)
  have f0 := frm_0 [] [(0, 26)] A
  refine ⟨Nat.le_of_ble_eq_true rfl, [(20, [(0, 2, 0), (1, 0, 0), (2, 0, 0), (3, 0, 0)], fun zs B nn => match zs with | [l1, l2, l] => iva IM B ∧ ivf JM B ∧ frm [] [(0, 26)] A B ∧ nn = (6 - l : Int).toNat ∧ (l1 = c) ∧ (l2 = n) ∧ (0 ≤ l) ∧ (l ≤ 6) ∧ (0 ≤ c) ∧ (c ≤ 7) | _ => False)], ?_, ?_⟩
  · refine ⟨⟨rfl, ?_⟩, trivial⟩
    · refine fun l1 l2 l B mm hB hz hI => ?_
      obtain ⟨i1, j1, f1, hm, c0, c1, c2, c3, c4, c5⟩ := hI
      obtain ⟨hz_l1, hz_l2, hz_l, _⟩ := hz
      refine And.intro (fun h17 => ?_) (fun h17 => ?_)
      · refine And.intro (fun h18 => ?_) (fun h18 => ?_)
        · exact hK _ i1 j1 f1 _ (by first | exact wI_rng _ | omega | (exact (hA _ _).2 rfl))
        · exact hK _ i1 j1 f1 _ (by first | exact wI_rng _ | omega | (exact (hA _ _).2 rfl))
      · refine Exists.intro l1 (Exists.intro l (And.intro rfl (And.intro (And.intro (by omega) (And.intro (by omega) (And.intro (by omega) (by omega)))) ?_)))
        refine And.intro (fun h19 => ?_) (fun h19 => ?_)
        · exact hK _ i1 j1 f1 _ (by first | exact wI_rng _ | omega | (exact (hA _ _).2 rfl))
        · refine Exists.intro l (And.intro rfl (And.intro (And.intro i1 (And.intro j1 (And.intro (by omega) (by omega)))) (fun r20 g21 => ?_)))
          refine And.intro (by omega) (fun v22 gv22 e23 => ?_)
          have b24 := iva_at i1 0 rfl (i := (6 * l1 + l)) (by omega) (by omega)
          refine And.intro (fun h25 => ?_) (fun h25 => ?_)
          · refine And.intro (fun h26 => ?_) (fun h26 => ?_)
            · refine fun v27 e28 => ?_
              exact And.intro (by omega) (Exists.intro (6 - v27 : Int).toNat (And.intro (by omega) (And.intro i1 (And.intro j1 (And.intro f1 (And.intro rfl (And.intro (by omega) (And.intro (by omega) (And.intro (by omega) (And.intro (by omega) (And.intro (by omega) (by omega))))))))))))
            · exact hK _ i1 j1 f1 _ (by first | exact wI_rng _ | omega | (exact (hA _ _).2 rfl))
          · refine And.intro (by omega) (fun v29 gv29 e30 => ?_)
            have b31 := iva_at i1 2 rfl (i := (6 * l1 + l)) (by omega) (by omega)
            refine And.intro (fun h32 => ?_) (fun h32 => ?_)
            · refine And.intro (fun h33 => ?_) (fun h33 => ?_)
              · refine fun v34 e35 => ?_
                exact And.intro (by omega) (Exists.intro (6 - v34 : Int).toNat (And.intro (by omega) (And.intro i1 (And.intro j1 (And.intro f1 (And.intro rfl (And.intro (by omega) (And.intro (by omega) (And.intro (by omega) (And.intro (by omega) (And.intro (by omega) (by omega))))))))))))
              · exact hK _ i1 j1 f1 _ (by first | exact wI_rng _ | omega | (exact (hA _ _).2 rfl))
            · refine And.intro (by omega) (fun v36 gv36 e37 => ?_)
              refine And.intro (fun h38 => ?_) (fun h38 => ?_)
              · refine fun v39 e40 => ?_
                exact And.intro (by omega) (Exists.intro (6 - v39 : Int).toNat (And.intro (by omega) (And.intro i1 (And.intro j1 (And.intro f1 (And.intro rfl (And.intro (by omega) (And.intro (by omega) (And.intro (by omega) (And.intro (by omega) (And.intro (by omega) (by omega))))))))))))
              · exact hK _ i1 j1 f1 _ (by first | exact wI_rng _ | omega | (exact (hA _ _).2 rfl))
  · refine Exists.intro c (Exists.intro 0 (Exists.intro 7 (And.intro rfl (And.intro (fun h1 => ?_) (fun h1 => ?_)))))
    · refine And.intro (fun h2 => by exfalso; omega) (fun h2 => ?_)
      refine And.intro (fun h3 => ?_) (fun h3 => ?_)
      · exact hK _ i0 j0 f0 _ (by first | exact wI_rng _ | omega | (exact (hA _ _).2 rfl))
      · refine fun v4 gv4 e5 => ?_
        have b6 := ivf_at j0 1 rfl
        refine And.intro (by omega) (fun v7 e8 => ?_)
        have h9 := qd_nn (a := v4) (b := 4) (by omega)
        refine And.intro (by omega) (And.intro (fun h10 => ?_) (fun h10 => ?_))
        · refine fun A11 e12 => ?_
          have i13 := iva_sf i0 e12 rfl
          have j14 := ivf_st j0 e12 (And.intro (by omega) trivial)
          have f15 := frm_sf f0 e12 rfl
          exact Exists.intro (6 - 0 : Int).toNat (And.intro i13 (And.intro j14 (And.intro f15 (And.intro rfl (And.intro (by omega) (And.intro (by omega) (And.intro (by omega) (And.intro (by omega) (And.intro (by omega) (by omega))))))))))
        · exact hK _ i0 j0 f0 _ (by first | exact wI_rng _ | omega | (exact (hA _ _).2 rfl))
    · refine And.intro (fun h16 => ?_) (fun h16 => by exfalso; omega)
      exact hK _ i0 j0 f0 _ (by first | exact wI_rng _ | omega | (exact (hA _ _).2 rfl))
def sM_cells : qS := fun as A K => ∃ b : Int, as = [rf 0, ni b] ∧ (iva IM A ∧ ivf JM A ∧ 0 ≤ b ∧ b ≤ 1) ∧ (∀ r : Int, 0 ≤ r → r ≤ 48 → K (some (ni r)) A)
theorem okM_cells : okM LM 1 246 sM_cells := by
  refine qmeth [] false [] 36 rfl trivial ?_
  rintro _ A K hA has ⟨b, rfl, ⟨i0, j0, p1, p2⟩, hK⟩
  have rg_b : rng b := has (ni b) (by simp)
  have f0 := frm_0 [] [] A
  refine ⟨Nat.le_of_ble_eq_true rfl, [(4, [(0, 2, 0), (1, 0, 0), (2, 0, 0), (3, 0, 0)], fun zs B nn => match zs with | [l1, s, c] => A = B ∧ nn = (48 - c : Int).toNat ∧ (l1 = b) ∧ (0 ≤ c) ∧ (c ≤ 48) ∧ (0 ≤ s) ∧ (s ≤ c) | _ => False)], ?_, ?_⟩
  · refine ⟨⟨rfl, ?_⟩, trivial⟩
    · refine fun l1 s c B mm hB hz hI => ?_
      obtain ⟨rfl, hm, c0, c1, c2, c3, c4⟩ := hI
      obtain ⟨hz_l1, hz_s, hz_c, _⟩ := hz
      refine And.intro (fun h3 => ?_) (fun h3 => ?_)
      · exact hK _ (by omega) (by omega)
      · refine And.intro (by omega) (fun v4 gv4 e5 => ?_)
        have b6 := iva_at i0 0 rfl (i := c) (by omega) (by omega)
        refine And.intro (fun h7 => ?_) (fun h7 => ?_)
        · refine fun v8 e9 => ?_
          refine fun v10 e11 => ?_
          exact And.intro (by omega) (And.intro (by omega) (Exists.intro (48 - v10 : Int).toNat (And.intro (by omega) (And.intro rfl (And.intro rfl (And.intro (by omega) (And.intro (by omega) (And.intro (by omega) (And.intro (by omega) (by omega))))))))))
        · refine And.intro (fun h12 => ?_) (fun h12 => ?_)
          · refine fun v13 e14 => ?_
            refine fun v15 e16 => ?_
            exact And.intro (by omega) (And.intro (by omega) (Exists.intro (48 - v15 : Int).toNat (And.intro (by omega) (And.intro rfl (And.intro rfl (And.intro (by omega) (And.intro (by omega) (And.intro (by omega) (And.intro (by omega) (by omega))))))))))
          · refine And.intro (by omega) (fun v17 gv17 e18 => ?_)
            have b19 := iva_at i0 2 rfl (i := c) (by omega) (by omega)
            refine And.intro (fun h20 => ?_) (fun h20 => ?_)
            · refine fun v21 e22 => ?_
              refine fun v23 e24 => ?_
              exact And.intro (by omega) (And.intro (by omega) (Exists.intro (48 - v23 : Int).toNat (And.intro (by omega) (And.intro rfl (And.intro rfl (And.intro (by omega) (And.intro (by omega) (And.intro (by omega) (And.intro (by omega) (by omega))))))))))
            · refine fun v25 e26 => ?_
              refine fun v27 e28 => ?_
              exact And.intro (by omega) (And.intro (by omega) (Exists.intro (48 - v27 : Int).toNat (And.intro (by omega) (And.intro rfl (And.intro rfl (And.intro (by omega) (And.intro (by omega) (And.intro (by omega) (And.intro (by omega) (by omega))))))))))
  · exact Exists.intro (48 - 0 : Int).toNat (And.intro rfl (And.intro rfl (And.intro (by omega) (And.intro (by omega) (And.intro (by omega) (And.intro (by omega) (by omega)))))))
def sM_count : qS := fun as A K => ∃ w : Int, as = [rf 0, ni w] ∧ (iva IM A ∧ ivf JM A) ∧ (∀ r : Int, rng r → K (some (ni r)) A)
theorem okM_count : okM LM 2 247 sM_count := by
  refine qmeth [] false [(145, sM_in), (246, sM_cells)] 90 rfl ⟨okM_in.le (by decide), ⟨okM_cells.le (by decide), trivial⟩⟩ ?_
  rintro _ A K hA has ⟨w, rfl, ⟨i0, j0⟩, hK⟩
  have rg_w : rng w := has (ni w) (by simp)
  have f0 := frm_0 [] [] A
  refine ⟨Nat.le_of_ble_eq_true rfl, [], trivial, ?_⟩
  refine (And.intro (fun h1 => ?_) (And.intro (fun h1 => ?_) (And.intro (fun h1 => ?_) (And.intro (fun h1 => ?_) (And.intro (fun h1 => ?_) (And.intro (fun h1 => ?_) (And.intro (fun h1 => ?_) (And.intro (fun h1 => ?_) trivial))))))))
  · refine Exists.intro w (Exists.intro 10 (Exists.intro 17 (And.intro rfl (And.intro (fun h2 => ?_) (fun h2 => ?_)))))
    · refine And.intro (fun h3 => by exfalso; omega) (fun h3 => ?_)
      refine fun v4 e5 => ?_
      refine And.intro (by omega) (fun v6 gv6 e7 => ?_)
      exact hK _ (by first | exact wI_rng _ | omega | (exact (hA _ _).2 rfl))
    · refine And.intro (fun h8 => ?_) (fun h8 => by exfalso; omega)
      refine Exists.intro w (Exists.intro 20 (Exists.intro 37 (And.intro rfl (And.intro (fun h9 => ?_) (fun h9 => ?_)))))
      · refine And.intro (fun h10 => ?_) (fun h10 => by exfalso; omega)
        refine fun v11 e12 => ?_
        refine And.intro (by omega) (And.intro (by omega) (fun v13 e14 => ?_))
        have h15 := qm_nn (a := v11) (b := 3) (by omega)
        refine And.intro (fun h16 => ?_) (fun h16 => ?_)
        · refine fun v17 e18 => ?_
          refine And.intro (by omega) (And.intro (by omega) (fun v19 e20 => ?_))
          have h21 := qm_nn (a := v17) (b := 3) (by omega)
          refine And.intro (fun h22 => ?_) (fun h22 => ?_)
          · refine fun v23 e24 => ?_
            refine And.intro (by omega) (And.intro (by omega) (fun v25 e26 => ?_))
            have h27 := qd_nn (a := v23) (b := 3) (by omega)
            refine And.intro (by omega) (fun v28 gv28 e29 => ?_)
            have b30 := iva_at i0 5 rfl (i := v25) (by omega) (by omega)
            exact hK _ (by first | exact wI_rng _ | omega | (exact (hA _ _).2 rfl))
          · refine fun v31 e32 => ?_
            refine And.intro (by omega) (And.intro (by omega) (fun v33 e34 => ?_))
            have h35 := qd_nn (a := v31) (b := 3) (by omega)
            refine And.intro (by omega) (fun v36 gv36 e37 => ?_)
            have b38 := iva_at i0 4 rfl (i := v33) (by omega) (by omega)
            exact hK _ (by first | exact wI_rng _ | omega | (exact (hA _ _).2 rfl))
        · refine fun v39 e40 => ?_
          refine And.intro (by omega) (And.intro (by omega) (fun v41 e42 => ?_))
          have h43 := qd_nn (a := v39) (b := 3) (by omega)
          refine And.intro (by omega) (fun v44 gv44 e45 => ?_)
          have b46 := iva_at i0 3 rfl (i := v41) (by omega) (by omega)
          exact hK _ (by first | exact wI_rng _ | omega | (exact (hA _ _).2 rfl))
      · refine And.intro (fun h47 => by exfalso; omega) (fun h47 => ?_)
        exact hK _ (by first | exact wI_rng _ | omega | (exact (hA _ _).2 rfl))
  · refine Exists.intro 0 (And.intro rfl (And.intro (And.intro i0 (And.intro j0 (And.intro (by omega) (by omega)))) (fun r48 g49 g50 => ?_)))
    exact hK _ (by first | exact wI_rng _ | omega | (exact (hA _ _).2 rfl))
  · refine fun v51 gv51 e52 => ?_
    exact hK _ (by first | exact wI_rng _ | omega | (exact (hA _ _).2 rfl))
  · refine fun v53 gv53 e54 => ?_
    have b55 := ivf_at j0 0 rfl
    exact hK _ (by first | exact wI_rng _ | omega | (exact (hA _ _).2 rfl))
  · refine fun v56 gv56 e57 => ?_
    have b58 := ivf_at j0 3 rfl
    exact hK _ (by first | exact wI_rng _ | omega | (exact (hA _ _).2 rfl))
  · refine fun v59 gv59 e60 => ?_
    have b61 := ivf_at j0 1 rfl
    exact hK _ (by first | exact wI_rng _ | omega | (exact (hA _ _).2 rfl))
  · refine fun v62 gv62 e63 => ?_
    have b64 := ivf_at j0 5 rfl
    exact hK _ (by first | exact wI_rng _ | omega | (exact (hA _ _).2 rfl))
  · refine Exists.intro 1 (And.intro rfl (And.intro (And.intro i0 (And.intro j0 (And.intro (by omega) (by omega)))) (fun r65 g66 g67 => ?_)))
    exact hK _ (by first | exact wI_rng _ | omega | (exact (hA _ _).2 rfl))
def sM_feed : qS := fun as A K => ∃ a b c d e : Int, as = [rf 0, ni a, ni b, ni c, ni d, ni e] ∧ (iva IM A ∧ ivf JM A) ∧ (∀ A' : qA, iva IM A' → ivf JM A' → frm [22] [(0, 26)] A A' → ∀ r : Int, (-1) ≤ r → r ≤ 220 → K (some (ni r)) A')
theorem okM_feed : okM LM 2 161 sM_feed := by
  refine qmeth [] false [(160, sM_types)] 32 rfl ⟨okM_types.le (by decide), trivial⟩ ?_
  rintro _ A K hA has ⟨a, b, c, d, e, rfl, ⟨i0, j0⟩, hK⟩
  have rg_a : rng a := has (ni a) (by simp)
  have rg_b : rng b := has (ni b) (by simp)
  have rg_c : rng c := has (ni c) (by simp)
  have rg_d : rng d := has (ni d) (by simp)
  have rg_e : rng e := has (ni e) (by simp)
  have f0 := frm_0 [22] [(0, 26)] A
  have hb_0_26 := ivf_at j0 1 rfl
  refine ⟨Nat.le_of_ble_eq_true rfl, [], trivial, ?_⟩
  refine fun v1 gv1 e2 => ?_
  have b3 := ivf_at j0 1 rfl
  refine fun v4 e5 => ?_
  refine And.intro (by omega) (And.intro (fun h6 => ?_) (fun h6 => ?_))
  · refine Exists.intro a (And.intro rfl (And.intro (And.intro i0 (And.intro j0 (by first | assumption | omega | simp_all))) (fun A7 i8 j9 f10 g11 => ?_)))
    have f12 := frm_c f0 f10 rfl
    have t13 := ivf_at j9 1 rfl
    refine Exists.intro b (And.intro rfl (And.intro (And.intro i8 (And.intro j9 (by first | assumption | omega | simp_all))) (fun A14 i15 j16 f17 g18 => ?_)))
    have f19 := frm_c f12 f17 rfl
    have t20 := ivf_at j16 1 rfl
    refine Exists.intro c (And.intro rfl (And.intro (And.intro i15 (And.intro j16 (by first | assumption | omega | simp_all))) (fun A21 i22 j23 f24 g25 => ?_)))
    have f26 := frm_c f19 f24 rfl
    have t27 := ivf_at j23 1 rfl
    refine Exists.intro d (And.intro rfl (And.intro (And.intro i22 (And.intro j23 (by first | assumption | omega | simp_all))) (fun A28 i29 j30 f31 g32 => ?_)))
    have f33 := frm_c f26 f31 rfl
    have t34 := ivf_at j30 1 rfl
    refine Exists.intro e (And.intro rfl (And.intro (And.intro i29 (And.intro j30 (by first | assumption | omega | simp_all))) (fun A35 i36 j37 f38 g39 => ?_)))
    have f40 := frm_c f33 f38 rfl
    have t41 := ivf_at j37 1 rfl
    refine fun v42 gv42 e43 => ?_
    have b44 := ivf_at j37 1 rfl
    exact hK _ i36 j37 f40 _ (by omega) (by omega)
  · exact hK _ i0 j0 f0 _ (by omega) (by omega)
