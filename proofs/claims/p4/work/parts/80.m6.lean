/-- how many of the first bits are set -/
def bcN (x : Int) : Nat → Int
  | 0 => 0
  | n + 1 => bcN x n + ia (sr x n) 1
def bc (x k : Int) : Int := bcN x k.toNat
theorem bc_0 (x : Int) : bc x 0 = 0 := rfl
theorem bc_s {x k : Int} (h : 0 ≤ k) : bc x (k + 1) = bc x k + ia (sr x k) 1 := by
  obtain ⟨n, rfl⟩ := Int.eq_ofNat_of_zero_le h
  have e : ((n : Int) + 1).toNat = n + 1 := by omega
  have e2 : ((n : Nat) : Int).toNat = n := by omega
  unfold bc
  rw [e, e2]
  rfl
theorem bc_mN (x : Int) (n : Nat) : ∀ m, bcN x n ≤ bcN x (n + m)
  | 0 => Int.le_refl _
  | m + 1 => by
    have h1 := bc_mN x n m
    have h2 := ia_bd (a := sr x ((n + m : Nat) : Int)) (b := 1) ⟨by decide, by decide⟩ (by decide)
    show bcN x n ≤ bcN x (n + m) + ia (sr x ((n + m : Nat) : Int)) 1
    omega
theorem bc_m {x j k : Int} (h0 : 0 ≤ j) (h : j ≤ k) : bc x j ≤ bc x k := by
  have := bc_mN x j.toNat (k.toNat - j.toNat)
  rw [show j.toNat + (k.toNat - j.toNat) = k.toNat by omega] at this
  exact this
def sM_bits2 : qS := fun as A K => ∃ x : Int, as = [ni x] ∧ (1 ≤ x ∧ x ≤ 255) ∧ (∀ r : Int, 0 ≤ r → r ≤ 8 → (r = bc x 8) → K (some (ni r)) A)
theorem okM_bits2 : okM LM 1 236 sM_bits2 := by
  refine qmeth [] false [] 25 rfl trivial ?_
  rintro _ A K hA has ⟨x, rfl, ⟨p1, p2⟩, hK⟩
  have rg_x : rng x := has (ni x) (by simp)
  refine ⟨Nat.le_of_ble_eq_true rfl, [(4, [(0, 0, 0), (1, 0, 0), (2, 0, 0)], fun zs B nn => match zs with | [l0, s, k] => A = B ∧ nn = (8 - k : Int).toNat ∧ (l0 = x) ∧ (0 ≤ k) ∧ (k ≤ 8) ∧ (0 ≤ s) ∧ (s ≤ k) ∧ (s = bc x k) | _ => False)], ?_, ?_⟩
  · refine ⟨⟨rfl, ?_⟩, trivial⟩
    · refine fun l0 s k B mm hB hz hI => ?_
      obtain ⟨rfl, hm, c0, c1, c2, c3, c4, c5⟩ := hI
      obtain ⟨hz_l0, hz_s, hz_k, _⟩ := hz
      refine And.intro (fun h3 => ?_) (fun h3 => ?_)
      · exact hK _ (by omega) (by omega) (by (have q9 : k = 8 := by omega); subst q9; assumption)
      · refine fun v4 e5 => ?_
        have h6 := sr_bd (a := l0) (b := k) (by omega) (by omega)
        refine fun v7 e8 => ?_
        have h9 := ia_bd (a := v4) (b := 1) (by omega) (by omega)
        refine fun v10 e11 => ?_
        refine fun v12 e13 => ?_
        exact And.intro (by omega) (And.intro (by omega) (Exists.intro (8 - v12 : Int).toNat (And.intro (by omega) (And.intro rfl (And.intro rfl (And.intro (by omega) (And.intro (by omega) (And.intro (by omega) (And.intro (by omega) (And.intro (by omega) (by first | exact (bc_0 _).symm | (subst_vars; exact (bc_s (by omega)).symm))))))))))))
  · exact Exists.intro (8 - 0 : Int).toNat (And.intro rfl (And.intro rfl (And.intro (by omega) (And.intro (by omega) (And.intro (by omega) (And.intro (by omega) (And.intro (by omega) (by first | exact (bc_0 _).symm | (subst_vars; exact (bc_s (by omega)).symm)))))))))
def sM_planted : qS := fun as A K => ∃ x w : Int, as = [rf 0, nl x, ni w] ∧ (iva IM A ∧ ivf JM A) ∧ (∀ A' : qA, iva IM A' → ivf JM A' → frm [50, 51, 52, 58, 7] [(0, 63)] A A' → ∀ r : Int, rng r → K (some (ni r)) A')
theorem okM_planted : okM LM 3 233 sM_planted := by
  refine qmeth [] true [(217, sM_lays), (145, sM_in), (232, sM_areWhole), (231, sM_bearsAll)] 189 rfl ⟨okM_lays.le (by decide), ⟨okM_in.le (by decide), ⟨okM_areWhole.le (by decide), ⟨okM_bearsAll.le (by decide), trivial⟩⟩⟩⟩ ?_
  rintro _ A K hA has ⟨x, w, rfl, ⟨i0, j0⟩, hK⟩
  have rg_x : rngL x := has (nl x) (by simp)
  have rg_w : rng w := has (ni w) (by simp)
  have f0 := frm_0 [50, 51, 52, 58, 7] [(0, 63)] A
  have hb_0_63 := ivf_at j0 2 rfl
  refine ⟨Nat.le_of_ble_eq_true rfl, [(22, [(0, 2, 0), (3, 0, 0), (4, 0, 0), (5, 0, 0)], fun zs B nn => match zs with | [l3, y, q] => iva IM B ∧ ivf JM B ∧ frm [50, 51, 52, 58, 7] [(0, 63)] A B ∧ nn = (90000000 - q : Int).toNat ∧ (l3 = w) ∧ (0 ≤ q) ∧ (q ≤ 5) ∧ (1 ≤ y) ∧ (y ≤ 16807) ∧ (w = 10 ∨ ((-1) ≤ w ∧ w ≤ 4)) ∧ (B 0 (fd 63) ≤ 5) ∧ (q = 0 → y = 1) ∧ (q = 1 → y = 7) ∧ (q = 2 → y = 49) ∧ (q = 3 → y = 343) ∧ (q = 4 → y = 2401) ∧ (q = 5 → y = 16807) | _ => False), (55, [(0, 2, 0), (3, 0, 0), (4, 0, 0), (5, 0, 0), (6, 0, 0)], fun zs B nn => match zs with | [l3, y, b, k] => iva IM B ∧ ivf JM B ∧ frm [50, 51, 52, 58, 7] [(0, 63)] A B ∧ nn = ((16807 - k) * 1000 + 999 : Int).toNat ∧ (l3 = w) ∧ (0 ≤ k) ∧ (k ≤ 16807) ∧ (1 ≤ y) ∧ (y ≤ 16807) ∧ (w = 10 ∨ ((-1) ≤ w ∧ w ≤ 4)) ∧ (B 0 (fd 63) ≤ 5) | _ => False), (150, [(0, 2, 0), (3, 0, 0), (5, 0, 0), (6, 0, 0)], fun zs B nn => match zs with | [l3, b, q] => iva IM B ∧ ivf JM B ∧ frm [50, 51, 52, 58, 7] [(0, 63)] A B ∧ nn = (20 - q : Int).toNat ∧ (l3 = w) ∧ (0 ≤ q) ∧ (q ≤ 5) ∧ (w = 10 ∨ ((-1) ≤ w ∧ w ≤ 4)) ∧ (B 0 (fd 63) ≤ 5) | _ => False), (67, [(0, 2, 0), (3, 0, 0), (4, 0, 0), (5, 0, 0), (6, 0, 0), (7, 0, 0), (8, 0, 0), (9, 0, 0)], fun zs B nn => match zs with | [l3, y, b, k, e, s, q] => iva IM B ∧ ivf JM B ∧ frm [50, 51, 52, 58, 7] [(0, 63)] A B ∧ nn = ((16807 - k) * 1000 + 100 + q : Int).toNat ∧ (l3 = w) ∧ (0 ≤ k) ∧ (k ≤ 16806) ∧ (1 ≤ y) ∧ (y ≤ 16807) ∧ (w = 10 ∨ ((-1) ≤ w ∧ w ≤ 4)) ∧ (B 0 (fd 63) ≤ 5) ∧ ((-1) ≤ q) ∧ (q ≤ 4) ∧ (0 ≤ e) | _ => False), (127, [(0, 2, 0), (3, 0, 0), (4, 0, 0), (5, 0, 0), (6, 0, 0), (9, 0, 0)], fun zs B nn => match zs with | [l3, y, b, k, q] => iva IM B ∧ ivf JM B ∧ frm [50, 51, 52, 58, 7] [(0, 63)] A B ∧ nn = ((16807 - k) * 1000 + 50 - q : Int).toNat ∧ (l3 = w) ∧ (0 ≤ k) ∧ (k ≤ 16806) ∧ (1 ≤ y) ∧ (y ≤ 16807) ∧ (w = 10 ∨ ((-1) ≤ w ∧ w ≤ 4)) ∧ (B 0 (fd 63) ≤ 5) ∧ (0 ≤ q) ∧ (q ≤ 5) | _ => False)], ?_, ?_⟩
  · refine ⟨⟨rfl, ?_⟩, ⟨rfl, ?_⟩, ⟨rfl, ?_⟩, ⟨rfl, ?_⟩, ⟨rfl, ?_⟩, trivial⟩
    · refine fun l3 y q B mm hB hz hI => ?_
      obtain ⟨i1, j1, f1, hm, c0, c1, c2, c3, c4, c5, c6, c7, c8, c9, c10, c11, c12⟩ := hI
      obtain ⟨hz_l3, hz_y, hz_q, _⟩ := hz
      have hc_0_63 := ivf_at j1 2 rfl
      refine fun v23 gv23 e24 => ?_
      have b25 := ivf_at j1 2 rfl
      refine And.intro (fun h26 => ?_) (fun h26 => ?_)
      · exact Exists.intro ((16807 - 0) * 1000 + 999 : Int).toNat (And.intro (by omega) (And.intro i1 (And.intro j1 (And.intro f1 (And.intro rfl (And.intro (by omega) (And.intro (by omega) (And.intro (by omega) (And.intro (by omega) (And.intro (by omega) (And.intro (by omega) (by omega))))))))))))
      · refine And.intro (by omega) (fun v27 gv27 e28 => ?_)
        have b29 := iva_at i1 21 rfl (i := q) (by omega) (by omega)
        refine And.intro (by omega) (fun v30 gv30 e31 => ?_)
        have b32 := iva_at i1 0 rfl (i := v27) (by omega) (by omega)
        refine And.intro (fun h33 => ?_) (fun h33 => ?_)
        · exact hK _ i1 j1 f1 _ (by first | exact wI_rng _ | omega | (exact (hA _ _).2 rfl))
        · refine And.intro (by omega) (fun v34 gv34 e35 => ?_)
          have b36 := iva_at i1 21 rfl (i := q) (by omega) (by omega)
          have q37 : v27 = v34 := (e35.trans e28.symm).symm
          subst q37
          refine And.intro (by omega) (fun v38 gv38 e39 => ?_)
          have b40 := iva_at i1 2 rfl (i := v27) (by omega) (by omega)
          refine And.intro (fun h41 => ?_) (fun h41 => ?_)
          · refine fun v42 e43 => ?_
            refine fun v44 e45 => ?_
            have w46 := wI_rng v42
            have w47 : wI v42 = v42 := wI_id (by omega)
            have w48 := wI_rng v44
            have w49 : wI v44 = v44 := wI_id (by omega)
            exact Exists.intro (90000000 - ((wI v44)) : Int).toNat (And.intro (by omega) (And.intro i1 (And.intro j1 (And.intro f1 (And.intro rfl (And.intro (by omega) (And.intro (by omega) (And.intro (by omega) (And.intro (by omega) (And.intro (by omega) (And.intro (by omega) (And.intro (by omega) (And.intro (by omega) (And.intro (by omega) (And.intro (by omega) (And.intro (by omega) (And.intro (by omega) (by omega))))))))))))))))))
          · exact hK _ i1 j1 f1 _ (by first | exact wI_rng _ | omega | (exact (hA _ _).2 rfl))
    · refine fun l3 y b k B mm hB hz hI => ?_
      obtain ⟨i1, j1, f1, hm, c0, c1, c2, c3, c4, c5, c6⟩ := hI
      obtain ⟨hz_l3, hz_y, hz_b, hz_k, _⟩ := hz
      have hc_0_63 := ivf_at j1 2 rfl
      refine And.intro (fun h50 => ?_) (fun h50 => ?_)
      · refine And.intro (fun h51 => ?_) (fun h51 => ?_)
        · exact Exists.intro (20 - 0 : Int).toNat (And.intro (by omega) (And.intro i1 (And.intro j1 (And.intro f1 (And.intro rfl (And.intro (by omega) (And.intro (by omega) (And.intro (by omega) (And.intro (by omega) (by omega))))))))))
        · exact hK _ i1 j1 f1 _ (by first | exact wI_rng _ | omega | (exact (hA _ _).2 rfl))
      · refine fun v52 gv52 e53 => ?_
        have b54 := ivf_at j1 2 rfl
        refine fun v55 e56 => ?_
        have w57 := wI_rng v55
        have w58 : wI v55 = v55 := wI_id (by omega)
        exact Exists.intro ((16807 - k) * 1000 + 100 + ((wI v55)) : Int).toNat (And.intro (by omega) (And.intro i1 (And.intro j1 (And.intro f1 (And.intro rfl (And.intro (by omega) (And.intro (by omega) (And.intro (by omega) (And.intro (by omega) (And.intro (by omega) (And.intro (by omega) (And.intro (by omega) (And.intro (by omega) (And.intro (by omega) (by omega)))))))))))))))
    · refine fun l3 b q B mm hB hz hI => ?_
      obtain ⟨i1, j1, f1, hm, c0, c1, c2, c3, c4⟩ := hI
      obtain ⟨hz_l3, hz_b, hz_q, _⟩ := hz
      have hc_0_63 := ivf_at j1 2 rfl
      refine fun v59 gv59 e60 => ?_
      have b61 := ivf_at j1 2 rfl
      refine And.intro (fun h62 => ?_) (fun h62 => ?_)
      · refine And.intro (fun h63 => ?_) (fun h63 => ?_)
        · exact hK _ i1 j1 f1 _ (by first | exact wI_rng _ | omega | (exact (hA _ _).2 rfl))
        · refine And.intro (fun h64 => ?_) (fun h64 => ?_)
          · refine And.intro (by omega) (fun v65 gv65 e66 => ?_)
            have b67 := iva_at i1 23 rfl (i := l3) (by omega) (by omega)
            exact hK _ i1 j1 f1 _ (by first | exact wI_rng _ | omega | (exact (hA _ _).2 rfl))
          · exact hK _ i1 j1 f1 _ (by first | exact wI_rng _ | omega | (exact (hA _ _).2 rfl))
      · refine And.intro (fun h68 => ?_) (fun h68 => ?_)
        · refine And.intro (fun h69 => ?_) (fun h69 => ?_)
          · exact hK _ i1 j1 f1 _ (by first | exact wI_rng _ | omega | (exact (hA _ _).2 rfl))
          · refine And.intro (fun h70 => ?_) (fun h70 => ?_)
            · refine And.intro (by omega) (fun v71 gv71 e72 => ?_)
              have b73 := iva_at i1 23 rfl (i := l3) (by omega) (by omega)
              exact hK _ i1 j1 f1 _ (by first | exact wI_rng _ | omega | (exact (hA _ _).2 rfl))
            · exact hK _ i1 j1 f1 _ (by first | exact wI_rng _ | omega | (exact (hA _ _).2 rfl))
        · refine And.intro (by omega) (fun v74 gv74 e75 => ?_)
          have b76 := iva_at i1 21 rfl (i := q) (by omega) (by omega)
          refine And.intro (by omega) (fun v77 gv77 e78 => ?_)
          have b79 := iva_at i1 23 rfl (i := q) (by omega) (by omega)
          refine And.intro (by omega) (fun A80 e81 => ?_)
          have i82 := iva_st i1 e81 (And.intro (by omega) trivial)
          have j83 := ivf_sa j1 e81 rfl
          have f84 := frm_s f1 e81 rfl
          have t85 : A80 0 (fd 63) = B 0 (fd 63) := (congrFun (st_a e81 rfl) _)
          refine fun v86 e87 => ?_
          have w88 := wI_rng v86
          have w89 : wI v86 = v86 := wI_id (by omega)
          exact Exists.intro (20 - ((wI v86)) : Int).toNat (And.intro (by omega) (And.intro i82 (And.intro j83 (And.intro f84 (And.intro rfl (And.intro (by omega) (And.intro (by omega) (And.intro (by omega) (And.intro (by omega) (by omega))))))))))
    · refine fun l3 y b k e s q B mm hB hz hI => ?_
      obtain ⟨i1, j1, f1, hm, c0, c1, c2, c3, c4, c5, c6, c7, c8, c9⟩ := hI
      obtain ⟨hz_l3, hz_y, hz_b, hz_k, hz_e, hz_s, hz_q, _⟩ := hz
      have hc_0_63 := ivf_at j1 2 rfl
      refine And.intro (fun h90 => ?_) (fun h90 => ?_)
      · refine And.intro (fun h91 => ?_) (fun h91 => ?_)
        · refine And.intro rfl (And.intro (And.intro i1 j1) (fun r92 g93 g94 => ?_))
          refine And.intro (fun h95 => ?_) (fun h95 => ?_)
          · refine fun v96 e97 => ?_
            have w98 := wI_rng v96
            have w99 : wI v96 = v96 := wI_id (by omega)
            exact Exists.intro ((16807 - ((wI v96))) * 1000 + 999 : Int).toNat (And.intro (by omega) (And.intro i1 (And.intro j1 (And.intro f1 (And.intro rfl (And.intro (by omega) (And.intro (by omega) (And.intro (by omega) (And.intro (by omega) (And.intro (by omega) (And.intro (by omega) (by omega))))))))))))
          · refine And.intro rfl (And.intro (And.intro i1 j1) (fun A100 i101 j102 f103 r104 g105 g106 => ?_))
            have f107 := frm_c f1 f103 rfl
            have t108 : A100 0 (fd 63) = B 0 (fd 63) := (frm_f f103 rfl)
            refine And.intro (fun h109 => ?_) (fun h109 => ?_)
            · exact Exists.intro ((16807 - k) * 1000 + 50 - 0 : Int).toNat (And.intro (by omega) (And.intro i101 (And.intro j102 (And.intro f107 (And.intro rfl (And.intro (by omega) (And.intro (by omega) (And.intro (by omega) (And.intro (by omega) (And.intro (by omega) (And.intro (by omega) (And.intro (by omega) (And.intro (by omega) (by omega))))))))))))))
            · refine fun v110 e111 => ?_
              have w112 := wI_rng v110
              have w113 : wI v110 = v110 := wI_id (by omega)
              exact Exists.intro ((16807 - ((wI v110))) * 1000 + 999 : Int).toNat (And.intro (by omega) (And.intro i101 (And.intro j102 (And.intro f107 (And.intro rfl (And.intro (by omega) (And.intro (by omega) (And.intro (by omega) (And.intro (by omega) (And.intro (by omega) (And.intro (by omega) (by omega))))))))))))
        · refine And.intro (fun h114 => ?_) (fun h114 => ?_)
          · refine fun v115 e116 => ?_
            have w117 := wI_rng v115
            have w118 : wI v115 = v115 := wI_id (by omega)
            exact Exists.intro ((16807 - ((wI v115))) * 1000 + 999 : Int).toNat (And.intro (by omega) (And.intro i1 (And.intro j1 (And.intro f1 (And.intro rfl (And.intro (by omega) (And.intro (by omega) (And.intro (by omega) (And.intro (by omega) (And.intro (by omega) (And.intro (by omega) (by omega))))))))))))
          · refine And.intro rfl (And.intro (And.intro i1 j1) (fun r119 g120 g121 => ?_))
            refine And.intro (fun h122 => ?_) (fun h122 => ?_)
            · refine fun v123 e124 => ?_
              have w125 := wI_rng v123
              have w126 : wI v123 = v123 := wI_id (by omega)
              exact Exists.intro ((16807 - ((wI v123))) * 1000 + 999 : Int).toNat (And.intro (by omega) (And.intro i1 (And.intro j1 (And.intro f1 (And.intro rfl (And.intro (by omega) (And.intro (by omega) (And.intro (by omega) (And.intro (by omega) (And.intro (by omega) (And.intro (by omega) (by omega))))))))))))
            · refine And.intro rfl (And.intro (And.intro i1 j1) (fun A127 i128 j129 f130 r131 g132 g133 => ?_))
              have f134 := frm_c f1 f130 rfl
              have t135 : A127 0 (fd 63) = B 0 (fd 63) := (frm_f f130 rfl)
              refine And.intro (fun h136 => ?_) (fun h136 => ?_)
              · exact Exists.intro ((16807 - k) * 1000 + 50 - 0 : Int).toNat (And.intro (by omega) (And.intro i128 (And.intro j129 (And.intro f134 (And.intro rfl (And.intro (by omega) (And.intro (by omega) (And.intro (by omega) (And.intro (by omega) (And.intro (by omega) (And.intro (by omega) (And.intro (by omega) (And.intro (by omega) (by omega))))))))))))))
              · refine fun v137 e138 => ?_
                have w139 := wI_rng v137
                have w140 : wI v137 = v137 := wI_id (by omega)
                exact Exists.intro ((16807 - ((wI v137))) * 1000 + 999 : Int).toNat (And.intro (by omega) (And.intro i128 (And.intro j129 (And.intro f134 (And.intro rfl (And.intro (by omega) (And.intro (by omega) (And.intro (by omega) (And.intro (by omega) (And.intro (by omega) (And.intro (by omega) (by omega))))))))))))
      · refine And.intro (by omega) (fun v141 e142 => ?_)
        have h143 := qm_nn (a := e) (b := 7) (by omega)
        refine fun v144 e145 => ?_
        have w148 := wI_rng v144
        have w149 : wI v144 = v144 := wI_id (by omega)
        refine And.intro (by omega) (fun A146 e147 => ?_)
        have i150 := iva_st i1 e147 (And.intro (by omega) trivial)
        have j151 := ivf_sa j1 e147 rfl
        have f152 := frm_s f1 e147 rfl
        have t153 : A146 0 (fd 63) = B 0 (fd 63) := (congrFun (st_a e147 rfl) _)
        refine And.intro (by omega) (fun v154 e155 => ?_)
        have h156 := qd_nn (a := e) (b := 7) (by omega)
        refine And.intro (by omega) (fun v157 gv157 e158 => ?_)
        have b159 := iva_at i150 22 rfl (i := q) (by omega) (by omega)
        have q160 : (wI v144) = v157 := (e158.trans (st_v e147)).symm
        subst q160
        refine And.intro (fun h161 => ?_) (fun h161 => ?_)
        · refine And.intro (by omega) (fun v162 gv162 e163 => ?_)
          have b164 := iva_at i150 22 rfl (i := q) (by omega) (by omega)
          have q165 : (wI v144) = v162 := (e163.trans e158.symm).symm
          subst q165
          refine And.intro (by omega) (fun v166 gv166 e167 => ?_)
          have b168 := iva_at i150 5 rfl (i := (wI v144)) (by omega) (by omega)
          refine And.intro (by omega) (fun v169 gv169 e170 => ?_)
          have b171 := iva_at i150 22 rfl (i := q) (by omega) (by omega)
          have q172 : (wI v144) = v169 := (e170.trans e163.symm).symm
          subst q172
          refine And.intro (by omega) (fun v173 gv173 e174 => ?_)
          have b175 := iva_at i150 4 rfl (i := (wI v144)) (by omega) (by omega)
          refine fun v176 e177 => ?_
          have h178 := mul_bd (a := v166) (b := v173) (p := 99) (q := 200) (by omega) (by omega) (by omega) (by omega)
          rw [← e177] at h178
          refine fun v179 e180 => ?_
          refine fun v181 e182 => ?_
          have w183 := wI_rng v154
          have w184 : wI v154 = v154 := wI_id (by omega)
          have w185 := wI_rng v179
          have w186 := wI_rng v181
          have w187 : wI v181 = v181 := wI_id (by omega)
          exact Exists.intro ((16807 - k) * 1000 + 100 + ((wI v181)) : Int).toNat (And.intro (by omega) (And.intro i150 (And.intro j151 (And.intro f152 (And.intro rfl (And.intro (by omega) (And.intro (by omega) (And.intro (by omega) (And.intro (by omega) (And.intro (by omega) (And.intro (by omega) (And.intro (by omega) (And.intro (by omega) (And.intro (by omega) (by omega)))))))))))))))
        · refine fun v188 e189 => ?_
          refine fun v190 e191 => ?_
          have w192 := wI_rng v154
          have w193 : wI v154 = v154 := wI_id (by omega)
          have w194 := wI_rng v188
          have w195 : wI v188 = v188 := wI_id (by omega)
          have w196 := wI_rng v190
          have w197 : wI v190 = v190 := wI_id (by omega)
          exact Exists.intro ((16807 - k) * 1000 + 100 + ((wI v190)) : Int).toNat (And.intro (by omega) (And.intro i150 (And.intro j151 (And.intro f152 (And.intro rfl (And.intro (by omega) (And.intro (by omega) (And.intro (by omega) (And.intro (by omega) (And.intro (by omega) (And.intro (by omega) (And.intro (by omega) (And.intro (by omega) (And.intro (by omega) (by omega)))))))))))))))
    · refine fun l3 y b k q B mm hB hz hI => ?_
      obtain ⟨i1, j1, f1, hm, c0, c1, c2, c3, c4, c5, c6, c7, c8⟩ := hI
      obtain ⟨hz_l3, hz_y, hz_b, hz_k, hz_q, _⟩ := hz
      have hc_0_63 := ivf_at j1 2 rfl
      refine fun v198 gv198 e199 => ?_
      have b200 := ivf_at j1 2 rfl
      refine And.intro (fun h201 => ?_) (fun h201 => ?_)
      · refine fun v202 e203 => ?_
        have w204 := wI_rng v202
        have w205 : wI v202 = v202 := wI_id (by omega)
        exact Exists.intro ((16807 - ((wI v202))) * 1000 + 999 : Int).toNat (And.intro (by omega) (And.intro i1 (And.intro j1 (And.intro f1 (And.intro rfl (And.intro (by omega) (And.intro (by omega) (And.intro (by omega) (And.intro (by omega) (And.intro (by omega) (And.intro (by omega) (by omega))))))))))))
      · refine And.intro (by omega) (fun v206 gv206 e207 => ?_)
        have b208 := iva_at i1 22 rfl (i := q) (by omega) (by omega)
        refine And.intro (by omega) (fun A209 e210 => ?_)
        have i211 := iva_st i1 e210 (And.intro (by omega) trivial)
        have j212 := ivf_sa j1 e210 rfl
        have f213 := frm_s f1 e210 rfl
        have t214 : A209 0 (fd 63) = B 0 (fd 63) := (congrFun (st_a e210 rfl) _)
        refine fun v215 e216 => ?_
        have w217 := wI_rng v215
        have w218 : wI v215 = v215 := wI_id (by omega)
        exact Exists.intro ((16807 - k) * 1000 + 50 - ((wI v215)) : Int).toNat (And.intro (by omega) (And.intro i211 (And.intro j212 (And.intro f213 (And.intro rfl (And.intro (by omega) (And.intro (by omega) (And.intro (by omega) (And.intro (by omega) (And.intro (by omega) (And.intro (by omega) (And.intro (by omega) (And.intro (by omega) (by omega))))))))))))))
  · refine Exists.intro x (Exists.intro 5 (And.intro rfl (And.intro (And.intro i0 (And.intro j0 (And.intro (by omega) (by omega)))) (fun A1 i2 j3 f4 r5 g7 g8 g6 => ?_))))
    have f9 := frm_c f0 f4 rfl
    have t10 := ivf_at j3 2 rfl
    refine And.intro (fun h11 => ?_) (fun h11 => ?_)
    · exact hK _ i2 j3 f9 _ (by first | exact wI_rng _ | omega | (exact (hA _ _).2 rfl))
    · refine And.intro (fun h12 => ?_) (fun h12 => ?_)
      · exact Exists.intro (90000000 - 0 : Int).toNat (And.intro i2 (And.intro j3 (And.intro f9 (And.intro rfl (And.intro (by omega) (And.intro (by omega) (And.intro (by omega) (And.intro (by omega) (And.intro (by omega) (And.intro (by omega) (And.intro (by omega) (And.intro (by omega) (And.intro (by omega) (And.intro (by omega) (And.intro (by omega) (And.intro (by omega) (by omega)))))))))))))))))
      · refine fun v13 gv13 e14 => ?_
        have b15 := ivf_at j3 2 rfl
        refine fun v16 e17 => ?_
        have w18 := wI_rng v16
        have w19 : wI v16 = v16 := wI_id (by omega)
        refine Exists.intro w (Exists.intro (-1) (Exists.intro (wI v16) (And.intro rfl (And.intro (fun h20 => ?_) (fun h20 => ?_)))))
        · refine And.intro (fun h21 => ?_) (fun h21 => by exfalso; omega)
          exact Exists.intro (90000000 - 0 : Int).toNat (And.intro i2 (And.intro j3 (And.intro f9 (And.intro rfl (And.intro (by omega) (And.intro (by omega) (And.intro (by omega) (And.intro (by omega) (And.intro (by omega) (And.intro (by omega) (And.intro (by omega) (And.intro (by omega) (And.intro (by omega) (And.intro (by omega) (And.intro (by omega) (And.intro (by omega) (by omega)))))))))))))))))
        · refine And.intro (fun h22 => by exfalso; omega) (fun h22 => ?_)
          exact hK _ i2 j3 f9 _ (by first | exact wI_rng _ | omega | (exact (hA _ _).2 rfl))
def sM_drought : qS := fun as A K => ∃ d c w : Int, as = [rf 0, ni d, ni c, ni w] ∧ (iva IM A ∧ ivf JM A ∧ (WF A)) ∧ (∀ A' : qA, iva IM A' → ivf JM A' → frm [60, 59, 36, 37, 10, 62, 61, 34, 35] [] A A' → ∀ r : Int, rng r → K (some (ni r)) A')
theorem okM_drought : okM LM 6 235 sM_drought := by
  refine qmeth [] true [(145, sM_in), (236, sM_bits2), (195, sM_flows), (234, sM_growth)] 201 rfl ⟨okM_in.le (by decide), ⟨okM_bits2.le (by decide), ⟨okM_flows.le (by decide), ⟨okM_growth.le (by decide), trivial⟩⟩⟩⟩ ?_
  rintro _ A K hA has ⟨d, c, w, rfl, ⟨i0, j0, p1⟩, hK⟩
  have rg_d : rng d := has (ni d) (by simp)
  have rg_c : rng c := has (ni c) (by simp)
  have rg_w : rng w := has (ni w) (by simp)
  have f0 := frm_0 [60, 59, 36, 37, 10, 62, 61, 34, 35] [] A
  refine ⟨Nat.le_of_ble_eq_true rfl, [(20, [(0, 2, 0), (1, 0, 0), (2, 0, 0), (3, 0, 0), (4, 0, 0), (5, 0, 0)], fun zs B nn => match zs with | [l1, l2, l3, y, x] => iva IM B ∧ ivf JM B ∧ frm [60, 59, 36, 37, 10, 62, 61, 34, 35] [] A B ∧ nn = (90000000 - x : Int).toNat ∧ (l1 = d) ∧ (l2 = c) ∧ (l3 = w) ∧ (0 ≤ x) ∧ (x ≤ 8) ∧ (0 ≤ y) ∧ (y = bc c x) ∧ (bc c 8 ≤ 4) | _ => False), (52, [(0, 2, 0), (1, 0, 0), (3, 0, 0), (4, 0, 0), (5, 0, 0)], fun zs B nn => match zs with | [l1, l3, y, j] => iva IM B ∧ ivf JM B ∧ frm [60, 59, 36, 37, 10, 62, 61, 34, 35] [] A B ∧ nn = (80000000 - j : Int).toNat ∧ (l1 = d) ∧ (l3 = w) ∧ (0 ≤ j) ∧ (j ≤ 48) ∧ (0 ≤ y) ∧ (y ≤ 4) ∧ ((-1) ≤ w) ∧ (w ≤ 3) | _ => False), (69, [(0, 2, 0), (1, 0, 0), (3, 0, 0), (4, 0, 0), (5, 0, 0), (6, 0, 0)], fun zs B nn => match zs with | [l1, l3, y, u, q] => iva IM B ∧ ivf JM B ∧ frm [60, 59, 36, 37, 10, 62, 61, 34, 35] [] A B ∧ nn = (70000000 - q : Int).toNat ∧ (l1 = d) ∧ (l3 = w) ∧ (0 ≤ q) ∧ (q ≤ 4) ∧ (1 ≤ u) ∧ (u ≤ 10000) ∧ (0 ≤ y) ∧ (y ≤ 4) ∧ ((-1) ≤ w) ∧ (w ≤ 3) ∧ (q = 0 → u = 1) ∧ (q = 1 → u = 10) ∧ (q = 2 → u = 100) ∧ (q = 3 → u = 1000) ∧ (q = 4 → u = 10000) | _ => False), (82, [(0, 2, 0), (1, 0, 0), (3, 0, 0), (4, 0, 0), (5, 0, 0), (6, 0, 0), (7, 0, 0)], fun zs B nn => match zs with | [l1, l3, y, u, b, k] => iva IM B ∧ ivf JM B ∧ frm [60, 59, 36, 37, 10, 62, 61, 34, 35] [] A B ∧ nn = ((10000 - k) * 2000 + 1999 : Int).toNat ∧ (l1 = d) ∧ (l3 = w) ∧ (0 ≤ k) ∧ (k ≤ 10000) ∧ (1 ≤ u) ∧ (u ≤ 10000) ∧ (0 ≤ y) ∧ (y ≤ 4) ∧ ((-1) ≤ w) ∧ (w ≤ 3) | _ => False), (172, [(0, 2, 0), (3, 0, 0), (6, 0, 0), (7, 0, 0)], fun zs B nn => match zs with | [l3, b, j] => iva IM B ∧ ivf JM B ∧ frm [60, 59, 36, 37, 10, 62, 61, 34, 35] [] A B ∧ nn = (48 - j : Int).toNat ∧ (l3 = w) ∧ (0 ≤ j) ∧ (j ≤ 48) ∧ ((-1) ≤ w) ∧ (w ≤ 3) | _ => False), (91, [(0, 2, 0), (1, 0, 0), (3, 0, 0), (4, 0, 0), (5, 0, 0), (6, 0, 0), (7, 0, 0), (8, 0, 0), (9, 0, 0), (10, 0, 0)], fun zs B nn => match zs with | [l1, l3, y, u, b, k, e, s, j] => iva IM B ∧ ivf JM B ∧ frm [60, 59, 36, 37, 10, 62, 61, 34, 35] [] A B ∧ nn = ((10000 - k) * 2000 + 900 - j : Int).toNat ∧ (l1 = d) ∧ (l3 = w) ∧ (0 ≤ k) ∧ (k ≤ 9999) ∧ (1 ≤ u) ∧ (u ≤ 10000) ∧ (0 ≤ j) ∧ (j ≤ 8) ∧ (0 ≤ e) ∧ (0 ≤ y) ∧ (y ≤ 4) ∧ ((-1) ≤ w) ∧ (w ≤ 3) | _ => False), (105, [(0, 2, 0), (1, 0, 0), (3, 0, 0), (4, 0, 0), (5, 0, 0), (6, 0, 0), (7, 0, 0), (8, 0, 0), (9, 0, 0), (10, 0, 0)], fun zs B nn => match zs with | [l1, l3, y, u, b, k, e, s, j] => iva IM B ∧ ivf JM B ∧ frm [60, 59, 36, 37, 10, 62, 61, 34, 35] [] A B ∧ nn = ((10000 - k) * 2000 + 800 + j : Int).toNat ∧ (l1 = d) ∧ (l3 = w) ∧ (0 ≤ k) ∧ (k ≤ 9999) ∧ (1 ≤ u) ∧ (u ≤ 10000) ∧ ((-1) ≤ j) ∧ (j ≤ 3) ∧ (0 ≤ e) ∧ (0 ≤ y) ∧ (y ≤ 4) ∧ ((-1) ≤ w) ∧ (w ≤ 3) | _ => False), (155, [(0, 2, 0), (1, 0, 0), (3, 0, 0), (4, 0, 0), (5, 0, 0), (6, 0, 0), (7, 0, 0), (11, 0, 0)], fun zs B nn => match zs with | [l1, l3, y, u, b, k, j] => iva IM B ∧ ivf JM B ∧ frm [60, 59, 36, 37, 10, 62, 61, 34, 35] [] A B ∧ nn = ((10000 - k) * 2000 + 700 - j : Int).toNat ∧ (l1 = d) ∧ (l3 = w) ∧ (0 ≤ k) ∧ (k ≤ 9999) ∧ (1 ≤ u) ∧ (u ≤ 10000) ∧ (0 ≤ j) ∧ (j ≤ 4) ∧ (0 ≤ y) ∧ (y ≤ 4) ∧ ((-1) ≤ w) ∧ (w ≤ 3) | _ => False)], ?_, ?_⟩
  · refine ⟨⟨rfl, ?_⟩, ⟨rfl, ?_⟩, ⟨rfl, ?_⟩, ⟨rfl, ?_⟩, ⟨rfl, ?_⟩, ⟨rfl, ?_⟩, ⟨rfl, ?_⟩, ⟨rfl, ?_⟩, trivial⟩
    · refine fun l1 l2 l3 y x B mm hB hz hI => ?_
      obtain ⟨i1, j1, f1, hm, c0, c1, c2, c3, c4, c5, c6, c7⟩ := hI
      obtain ⟨hz_l1, hz_l2, hz_l3, hz_y, hz_x, _⟩ := hz
      refine And.intro (fun h13 => ?_) (fun h13 => ?_)
      · have q3 : bc c x = bc c 8 := by rw [show x = 8 by omega]
        refine fun v14 e15 => ?_
        have w16 := wI_rng v14
        have w17 : wI v14 = v14 := wI_id (by omega)
        refine Exists.intro l3 (Exists.intro (-1) (Exists.intro (wI v14) (And.intro rfl (And.intro (fun h18 => ?_) (fun h18 => ?_)))))
        · refine And.intro (fun h19 => ?_) (fun h19 => by exfalso; omega)
          exact Exists.intro (80000000 - 0 : Int).toNat (And.intro (by omega) (And.intro i1 (And.intro j1 (And.intro f1 (And.intro rfl (And.intro (by omega) (And.intro (by omega) (And.intro (by omega) (And.intro (by omega) (And.intro (by omega) (And.intro (by omega) (And.intro (by omega) (by omega)))))))))))))
        · refine And.intro (fun h20 => by exfalso; omega) (fun h20 => ?_)
          exact hK _ i1 j1 f1 _ (by first | exact wI_rng _ | omega | (exact (hA _ _).2 rfl))
      · refine fun v21 e22 => ?_
        refine fun v23 e24 => ?_
        have h25 := ia_bd (a := v21) (b := 1) (by omega) (by omega)
        have q1 : bc c (x + 1) = bc c x + v23 := by rw [bc_s (by omega)]; subst_vars; rfl
        have q2 := bc_m (x := c) (j := x + 1) (k := 8) (by omega) (by omega)
        refine And.intro (fun h26 => ?_) (fun h26 => ?_)
        · refine And.intro (by omega) (fun A27 e28 => ?_)
          have i29 := iva_st i1 e28 (And.intro (by omega) trivial)
          have j30 := ivf_sa j1 e28 rfl
          have f31 := frm_s f1 e28 rfl
          refine fun v32 e33 => ?_
          refine fun v34 e35 => ?_
          have w36 := wI_rng v32
          have w37 : wI v32 = v32 := wI_id (by omega)
          have w38 := wI_rng v34
          have w39 : wI v34 = v34 := wI_id (by omega)
          exact Exists.intro (90000000 - ((wI v34)) : Int).toNat (And.intro (by omega) (And.intro i29 (And.intro j30 (And.intro f31 (And.intro rfl (And.intro (by omega) (And.intro (by omega) (And.intro (by omega) (And.intro (by omega) (And.intro (by omega) (And.intro (by omega) (And.intro (by first | exact (bc_0 c).symm | (rw [show ((wI v34)) = x + 1 by omega]; omega)) (by omega)))))))))))))
        · refine fun v40 e41 => ?_
          have w42 := wI_rng v40
          have w43 : wI v40 = v40 := wI_id (by omega)
          exact Exists.intro (90000000 - ((wI v40)) : Int).toNat (And.intro (by omega) (And.intro i1 (And.intro j1 (And.intro f1 (And.intro rfl (And.intro (by omega) (And.intro (by omega) (And.intro (by omega) (And.intro (by omega) (And.intro (by omega) (And.intro (by omega) (And.intro (by first | exact (bc_0 c).symm | (rw [show ((wI v40)) = x + 1 by omega]; omega)) (by omega)))))))))))))
    · refine fun l1 l3 y j B mm hB hz hI => ?_
      obtain ⟨i1, j1, f1, hm, c0, c1, c2, c3, c4, c5, c6, c7⟩ := hI
      obtain ⟨hz_l1, hz_l3, hz_y, hz_j, _⟩ := hz
      refine And.intro (fun h44 => ?_) (fun h44 => ?_)
      · exact Exists.intro (70000000 - 0 : Int).toNat (And.intro (by omega) (And.intro i1 (And.intro j1 (And.intro f1 (And.intro rfl (And.intro (by omega) (And.intro (by omega) (And.intro (by omega) (And.intro (by omega) (And.intro (by omega) (And.intro (by omega) (And.intro (by omega) (And.intro (by omega) (And.intro (by omega) (And.intro (by omega) (And.intro (by omega) (And.intro (by omega) (And.intro (by omega) (And.intro (by omega) (by omega))))))))))))))))))))
      · refine And.intro (by omega) (fun v45 gv45 e46 => ?_)
        refine And.intro (by omega) (fun A47 e48 => ?_)
        have i49 := iva_st i1 e48 trivial
        have j50 := ivf_sa j1 e48 rfl
        have f51 := frm_s f1 e48 rfl
        refine fun v52 e53 => ?_
        have w54 := wI_rng v52
        have w55 : wI v52 = v52 := wI_id (by omega)
        exact Exists.intro (80000000 - ((wI v52)) : Int).toNat (And.intro (by omega) (And.intro i49 (And.intro j50 (And.intro f51 (And.intro rfl (And.intro (by omega) (And.intro (by omega) (And.intro (by omega) (And.intro (by omega) (And.intro (by omega) (And.intro (by omega) (And.intro (by omega) (by omega)))))))))))))
    · refine fun l1 l3 y u q B mm hB hz hI => ?_
      obtain ⟨i1, j1, f1, hm, c0, c1, c2, c3, c4, c5, c6, c7, c8, c9, c10, c11, c12, c13, c14⟩ := hI
      obtain ⟨hz_l1, hz_l3, hz_y, hz_u, hz_q, _⟩ := hz
      refine And.intro (fun h56 => ?_) (fun h56 => ?_)
      · exact Exists.intro ((10000 - 0) * 2000 + 1999 : Int).toNat (And.intro (by omega) (And.intro i1 (And.intro j1 (And.intro f1 (And.intro rfl (And.intro (by omega) (And.intro (by omega) (And.intro (by omega) (And.intro (by omega) (And.intro (by omega) (And.intro (by omega) (And.intro (by omega) (And.intro (by omega) (And.intro (by omega) (by omega)))))))))))))))
      · refine fun v57 e58 => ?_
        refine fun v59 e60 => ?_
        have w61 := wI_rng v57
        have w62 : wI v57 = v57 := wI_id (by omega)
        have w63 := wI_rng v59
        have w64 : wI v59 = v59 := wI_id (by omega)
        exact Exists.intro (70000000 - ((wI v59)) : Int).toNat (And.intro (by omega) (And.intro i1 (And.intro j1 (And.intro f1 (And.intro rfl (And.intro (by omega) (And.intro (by omega) (And.intro (by omega) (And.intro (by omega) (And.intro (by omega) (And.intro (by omega) (And.intro (by omega) (And.intro (by omega) (And.intro (by omega) (And.intro (by omega) (And.intro (by omega) (And.intro (by omega) (And.intro (by omega) (And.intro (by omega) (by omega))))))))))))))))))))
    · refine fun l1 l3 y u b k B mm hB hz hI => ?_
      obtain ⟨i1, j1, f1, hm, c0, c1, c2, c3, c4, c5, c6, c7, c8, c9⟩ := hI
      obtain ⟨hz_l1, hz_l3, hz_y, hz_u, hz_b, hz_k, _⟩ := hz
      refine And.intro (fun h65 => ?_) (fun h65 => ?_)
      · exact Exists.intro (48 - 0 : Int).toNat (And.intro (by omega) (And.intro i1 (And.intro j1 (And.intro f1 (And.intro rfl (And.intro (by omega) (And.intro (by omega) (And.intro (by omega) (And.intro (by omega) (by omega))))))))))
      · exact Exists.intro ((10000 - k) * 2000 + 900 - 0 : Int).toNat (And.intro (by omega) (And.intro i1 (And.intro j1 (And.intro f1 (And.intro rfl (And.intro (by omega) (And.intro (by omega) (And.intro (by omega) (And.intro (by omega) (And.intro (by omega) (And.intro (by omega) (And.intro (by omega) (And.intro (by omega) (And.intro (by omega) (And.intro (by omega) (And.intro (by omega) (And.intro (by omega) (by omega))))))))))))))))))
    · refine fun l3 b j B mm hB hz hI => ?_
      obtain ⟨i1, j1, f1, hm, c0, c1, c2, c3, c4⟩ := hI
      obtain ⟨hz_l3, hz_b, hz_j, _⟩ := hz
      refine And.intro (fun h66 => ?_) (fun h66 => ?_)
      · refine And.intro (fun h67 => ?_) (fun h67 => ?_)
        · refine And.intro (by omega) (fun v68 gv68 e69 => ?_)
          have b70 := iva_at i1 25 rfl (i := l3) (by omega) (by omega)
          exact hK _ i1 j1 f1 _ (by first | exact wI_rng _ | omega | (exact (hA _ _).2 rfl))
        · exact hK _ i1 j1 f1 _ (by first | exact wI_rng _ | omega | (exact (hA _ _).2 rfl))
      · refine And.intro (by omega) (fun v71 gv71 e72 => ?_)
        refine And.intro (by omega) (fun A73 e74 => ?_)
        have i75 := iva_st i1 e74 trivial
        have j76 := ivf_sa j1 e74 rfl
        have f77 := frm_s f1 e74 rfl
        refine fun v78 e79 => ?_
        have w80 := wI_rng v78
        have w81 : wI v78 = v78 := wI_id (by omega)
        exact Exists.intro (48 - ((wI v78)) : Int).toNat (And.intro (by omega) (And.intro i75 (And.intro j76 (And.intro f77 (And.intro rfl (And.intro (by omega) (And.intro (by omega) (And.intro (by omega) (And.intro (by omega) (by omega))))))))))
    · refine fun l1 l3 y u b k e s j B mm hB hz hI => ?_
      obtain ⟨i1, j1, f1, hm, c0, c1, c2, c3, c4, c5, c6, c7, c8, c9, c10, c11, c12⟩ := hI
      obtain ⟨hz_l1, hz_l3, hz_y, hz_u, hz_b, hz_k, hz_e, hz_s, hz_j, _⟩ := hz
      refine And.intro (fun h82 => ?_) (fun h82 => ?_)
      · refine fun v83 e84 => ?_
        have w85 := wI_rng v83
        have w86 : wI v83 = v83 := wI_id (by omega)
        exact Exists.intro ((10000 - k) * 2000 + 800 + ((wI v83)) : Int).toNat (And.intro (by omega) (And.intro i1 (And.intro j1 (And.intro f1 (And.intro rfl (And.intro (by omega) (And.intro (by omega) (And.intro (by omega) (And.intro (by omega) (And.intro (by omega) (And.intro (by omega) (And.intro (by omega) (And.intro (by omega) (And.intro (by omega) (And.intro (by omega) (And.intro (by omega) (And.intro (by omega) (by omega))))))))))))))))))
      · refine And.intro (by omega) (fun A87 e88 => ?_)
        have i89 := iva_st i1 e88 trivial
        have j90 := ivf_sa j1 e88 rfl
        have f91 := frm_s f1 e88 rfl
        refine fun v92 e93 => ?_
        have w94 := wI_rng v92
        have w95 : wI v92 = v92 := wI_id (by omega)
        exact Exists.intro ((10000 - k) * 2000 + 900 - ((wI v92)) : Int).toNat (And.intro (by omega) (And.intro i89 (And.intro j90 (And.intro f91 (And.intro rfl (And.intro (by omega) (And.intro (by omega) (And.intro (by omega) (And.intro (by omega) (And.intro (by omega) (And.intro (by omega) (And.intro (by omega) (And.intro (by omega) (And.intro (by omega) (And.intro (by omega) (And.intro (by omega) (And.intro (by omega) (by omega))))))))))))))))))
    · refine fun l1 l3 y u b k e s j B mm hB hz hI => ?_
      obtain ⟨i1, j1, f1, hm, c0, c1, c2, c3, c4, c5, c6, c7, c8, c9, c10, c11, c12⟩ := hI
      obtain ⟨hz_l1, hz_l3, hz_y, hz_u, hz_b, hz_k, hz_e, hz_s, hz_j, _⟩ := hz
      refine And.intro (fun h96 => ?_) (fun h96 => ?_)
      · refine And.intro (fun h97 => ?_) (fun h97 => ?_)
        · refine And.intro rfl (And.intro (And.intro i1 j1) (fun A98 i99 j100 f101 => ?_))
          have f102 := frm_c f1 f101 rfl
          refine And.intro rfl (And.intro (And.intro i99 (And.intro j100 (WF_fr p1 f102 rfl))) (fun A103 i104 j105 f106 r107 g108 => ?_))
          have f109 := frm_c f102 f106 rfl
          refine And.intro (fun h110 => ?_) (fun h110 => ?_)
          · exact Exists.intro ((10000 - k) * 2000 + 700 - 0 : Int).toNat (And.intro (by omega) (And.intro i104 (And.intro j105 (And.intro f109 (And.intro rfl (And.intro (by omega) (And.intro (by omega) (And.intro (by omega) (And.intro (by omega) (And.intro (by omega) (And.intro (by omega) (And.intro (by omega) (And.intro (by omega) (And.intro (by omega) (And.intro (by omega) (And.intro (by omega) (by omega)))))))))))))))))
          · refine fun v111 e112 => ?_
            have w113 := wI_rng v111
            have w114 : wI v111 = v111 := wI_id (by omega)
            exact Exists.intro ((10000 - ((wI v111))) * 2000 + 1999 : Int).toNat (And.intro (by omega) (And.intro i104 (And.intro j105 (And.intro f109 (And.intro rfl (And.intro (by omega) (And.intro (by omega) (And.intro (by omega) (And.intro (by omega) (And.intro (by omega) (And.intro (by omega) (And.intro (by omega) (And.intro (by omega) (And.intro (by omega) (by omega)))))))))))))))
        · refine fun v115 e116 => ?_
          have w117 := wI_rng v115
          have w118 : wI v115 = v115 := wI_id (by omega)
          exact Exists.intro ((10000 - ((wI v115))) * 2000 + 1999 : Int).toNat (And.intro (by omega) (And.intro i1 (And.intro j1 (And.intro f1 (And.intro rfl (And.intro (by omega) (And.intro (by omega) (And.intro (by omega) (And.intro (by omega) (And.intro (by omega) (And.intro (by omega) (And.intro (by omega) (And.intro (by omega) (And.intro (by omega) (by omega)))))))))))))))
      · refine And.intro (by omega) (fun v119 e120 => ?_)
        have h121 := qm_nn (a := e) (b := 10) (by omega)
        refine And.intro (by omega) (fun A122 e123 => ?_)
        have i124 := iva_st i1 e123 (And.intro (by omega) trivial)
        have j125 := ivf_sa j1 e123 rfl
        have f126 := frm_s f1 e123 rfl
        refine And.intro (by omega) (fun v127 e128 => ?_)
        have h129 := qd_nn (a := e) (b := 10) (by omega)
        refine And.intro (by omega) (fun v130 gv130 e131 => ?_)
        have b132 := iva_at i124 26 rfl (i := j) (by omega) (by omega)
        have q133 : v119 = v130 := (e131.trans (st_v e123)).symm
        subst q133
        refine fun v134 e135 => ?_
        refine And.intro (by omega) (fun v136 gv136 e137 => ?_)
        have b138 := iva_at i124 24 rfl (i := j) (by omega) (by omega)
        refine And.intro (by omega) (fun v139 gv139 e140 => ?_)
        have b141 := iva_at i124 26 rfl (i := j) (by omega) (by omega)
        have q142 : v119 = v139 := (e140.trans e131.symm).symm
        subst q142
        refine And.intro (by omega) (fun A143 e144 => ?_)
        have i145 := iva_st i124 e144 trivial
        have j146 := ivf_sa j125 e144 rfl
        have f147 := frm_s f126 e144 rfl
        refine fun v148 e149 => ?_
        have w150 := wI_rng v127
        have w151 : wI v127 = v127 := wI_id (by omega)
        have w152 := wI_rng v134
        have w153 := wI_rng v148
        have w154 : wI v148 = v148 := wI_id (by omega)
        exact Exists.intro ((10000 - k) * 2000 + 800 + ((wI v148)) : Int).toNat (And.intro (by omega) (And.intro i145 (And.intro j146 (And.intro f147 (And.intro rfl (And.intro (by omega) (And.intro (by omega) (And.intro (by omega) (And.intro (by omega) (And.intro (by omega) (And.intro (by omega) (And.intro (by omega) (And.intro (by omega) (And.intro (by omega) (And.intro (by omega) (And.intro (by omega) (And.intro (by omega) (by omega))))))))))))))))))
    · refine fun l1 l3 y u b k j B mm hB hz hI => ?_
      obtain ⟨i1, j1, f1, hm, c0, c1, c2, c3, c4, c5, c6, c7, c8, c9, c10, c11⟩ := hI
      obtain ⟨hz_l1, hz_l3, hz_y, hz_u, hz_b, hz_k, hz_j, _⟩ := hz
      refine And.intro (fun h155 => ?_) (fun h155 => ?_)
      · refine fun v156 e157 => ?_
        have w158 := wI_rng v156
        have w159 : wI v156 = v156 := wI_id (by omega)
        exact Exists.intro ((10000 - ((wI v156))) * 2000 + 1999 : Int).toNat (And.intro (by omega) (And.intro i1 (And.intro j1 (And.intro f1 (And.intro rfl (And.intro (by omega) (And.intro (by omega) (And.intro (by omega) (And.intro (by omega) (And.intro (by omega) (And.intro (by omega) (And.intro (by omega) (And.intro (by omega) (And.intro (by omega) (by omega)))))))))))))))
      · refine And.intro (by omega) (fun v160 gv160 e161 => ?_)
        have b162 := iva_at i1 26 rfl (i := j) (by omega) (by omega)
        refine And.intro (by omega) (fun A163 e164 => ?_)
        have i165 := iva_st i1 e164 (And.intro (by omega) trivial)
        have j166 := ivf_sa j1 e164 rfl
        have f167 := frm_s f1 e164 rfl
        refine fun v168 e169 => ?_
        have w170 := wI_rng v168
        have w171 : wI v168 = v168 := wI_id (by omega)
        exact Exists.intro ((10000 - k) * 2000 + 700 - ((wI v168)) : Int).toNat (And.intro (by omega) (And.intro i165 (And.intro j166 (And.intro f167 (And.intro rfl (And.intro (by omega) (And.intro (by omega) (And.intro (by omega) (And.intro (by omega) (And.intro (by omega) (And.intro (by omega) (And.intro (by omega) (And.intro (by omega) (And.intro (by omega) (And.intro (by omega) (And.intro (by omega) (by omega)))))))))))))))))
  · refine Exists.intro d (Exists.intro 0 (Exists.intro 36 (And.intro rfl (And.intro (fun h2 => ?_) (fun h2 => ?_)))))
    · refine And.intro (fun h3 => by exfalso; omega) (fun h3 => ?_)
      refine Exists.intro c (Exists.intro 1 (Exists.intro 255 (And.intro rfl (And.intro (fun h4 => ?_) (fun h4 => ?_)))))
      · refine And.intro (fun h5 => by exfalso; omega) (fun h5 => ?_)
        refine Exists.intro c (And.intro rfl (And.intro (And.intro (by omega) (by omega)) (fun r6 g8 g9 g7 => ?_)))
        refine And.intro (fun h10 => ?_) (fun h10 => ?_)
        · exact Exists.intro (90000000 - 0 : Int).toNat (And.intro i0 (And.intro j0 (And.intro f0 (And.intro rfl (And.intro (by omega) (And.intro (by omega) (And.intro (by omega) (And.intro (by omega) (And.intro (by omega) (And.intro (by omega) (And.intro (by first | exact (bc_0 c).symm | (rw [show 0 = x + 1 by omega]; omega)) (by omega))))))))))))
        · exact hK _ i0 j0 f0 _ (by first | exact wI_rng _ | omega | (exact (hA _ _).2 rfl))
      · refine And.intro (fun h11 => ?_) (fun h11 => by exfalso; omega)
        exact hK _ i0 j0 f0 _ (by first | exact wI_rng _ | omega | (exact (hA _ _).2 rfl))
    · refine And.intro (fun h12 => ?_) (fun h12 => by exfalso; omega)
      exact hK _ i0 j0 f0 _ (by first | exact wI_rng _ | omega | (exact (hA _ _).2 rfl))
