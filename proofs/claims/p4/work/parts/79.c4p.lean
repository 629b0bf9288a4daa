def ab (A : qA) (r : Nat) (n hi : Int) : Prop := ∀ i, 0 ≤ i → i < n → 0 ≤ A r i ∧ A r i ≤ hi
def pw1 (A A' : qA) (d : Int) : Prop := ∀ i, 0 ≤ i → i < 8 → A 45 i ≤ A' 45 i ∧ A' 45 i ≤ A 45 i + d
def pw (l : Int) : Int := 99 * 8 ^ l.toNat
theorem pw_0 : pw 0 = 99 := by decide
theorem pw_s {l : Int} (h : 0 ≤ l) : pw (l + 1) = 8 * pw l := by
  obtain ⟨n, rfl⟩ := Int.eq_ofNat_of_zero_le h
  have e : ((n : Int) + 1).toNat = n + 1 := by omega
  have e2 : ((n : Nat) : Int).toNat = n := by omega
  unfold pw
  rw [e, e2, Int.pow_succ]
  omega
theorem pw_bd {l : Int} (h : 0 ≤ l) (h1 : l ≤ 6) : 99 ≤ pw l ∧ pw l ≤ 25952256 := by
  have h2 : l = 0 ∨ l = 1 ∨ l = 2 ∨ l = 3 ∨ l = 4 ∨ l = 5 ∨ l = 6 := by omega
  rcases h2 with rfl | rfl | rfl | rfl | rfl | rfl | rfl <;> decide
theorem ab_cp {A A' : qA} {r0 r : Nat} {hi : Int} (e : A' = qcpy A r0 0 r 0 8) (h : ∀ i, 0 ≤ i → i < 8 → 0 ≤ A r0 i ∧ A r0 i ≤ hi) : ab A' r 8 hi := by
  subst e
  intro i h0 h1
  unfold qcpy
  rw [if_pos ⟨rfl, h0, by omega⟩]
  have := h (0 + (i - 0)) (by omega) (by omega)
  exact this
theorem pw_1 {A A' : qA} {x d v : Int} (e : A' = qu A 45 x v) (h0 : 0 ≤ d) (hv : A 45 x ≤ v ∧ v ≤ A 45 x + d) : pw1 A A' d := by
  subst e
  intro i _ _
  rw [qu_is]
  split
  · next q => rw [q.2]; exact hv
  · exact ⟨Int.le_refl _, by omega⟩
theorem pw_2 {A A1 A2 : qA} {x y d d1 d2 v w : Int} (e1 : A1 = qu A 45 x v) (e2 : A2 = qu A1 45 y w) (h1 : 0 ≤ d1) (h2 : 0 ≤ d2) (hd : d1 + d2 = d) (hv : A 45 x ≤ v ∧ v ≤ A 45 x + d1) (hw : A1 45 y ≤ w ∧ w ≤ A1 45 y + d2) : pw1 A A2 d := by
  intro i a b
  have q1 := pw_1 e1 h1 hv i a b
  have q2 := pw_1 e2 h2 hw i a b
  omega
def sC_fill45z : qS := fun as A K => ∃ v : Int, as = [rf 45, ni v] ∧ (iva IC A ∧ ivf JC A) ∧ (∀ A' : qA, iva IC A' → ivf JC A' → frm [45] [] A A' → (∀ i, 0 ≤ i → i < 8 → A' 45 i = v) → K none A')
theorem okC_fill45z : okM LC 1 250 sC_fill45z := by
  refine qmeth [] false [] 21 rfl trivial ?_
  rintro _ A K hA has ⟨v, rfl, ⟨i0, j0⟩, hK⟩
  have rg_v : rng v := has (ni v) (by simp)
  have f0 := frm_0 [45] [] A
  refine ⟨Nat.le_of_ble_eq_true rfl, [(5, [(0, 2, 45), (1, 0, 0), (2, 0, 0), (3, 0, 0)], fun zs B nn => match zs with | [l1, i, n] => iva IC B ∧ ivf JC B ∧ frm [45] [] A B ∧ nn = (8 - i : Int).toNat ∧ (l1 = v) ∧ (0 ≤ i) ∧ (i ≤ 8) ∧ (n = 8) ∧ (∀ j, 0 ≤ j → j < i → B 45 j = v) | _ => False)], ?_, ?_⟩
  · refine ⟨⟨rfl, ?_⟩, trivial⟩
    · refine fun l1 i n B mm hB hz hI => ?_
      obtain ⟨i1, j1, f1, hm, c0, c1, c2, c3, c4⟩ := hI
      obtain ⟨hz_l1, hz_i, hz_n, _⟩ := hz
      refine And.intro (fun h1 => ?_) (fun h1 => ?_)
      · exact hK _ i1 j1 f1 (by intro j h0 h1; exact c4 j h0 (by omega))
      · refine And.intro (by omega) (fun A2 e3 => ?_)
        have i4 := iva_st i1 e3 trivial
        have j5 := ivf_sa j1 e3 rfl
        have f6 := frm_s f1 e3 rfl
        refine fun v7 e8 => ?_
        exact And.intro (by omega) (Exists.intro (8 - v7 : Int).toNat (And.intro (by omega) (And.intro i4 (And.intro j5 (And.intro f6 (And.intro rfl (And.intro (by omega) (And.intro (by omega) (And.intro (by omega) (And.intro (by omega) (by first | (intro j h0 h1; exfalso; omega) | (intro j h0 h1; rw [e3, qu_is]; split; omega; exact c4 j h0 (by omega)))))))))))))
  · exact Exists.intro (8 - 0 : Int).toNat (And.intro i0 (And.intro j0 (And.intro f0 (And.intro rfl (And.intro (by omega) (And.intro (by omega) (And.intro (by omega) (And.intro (by omega) (by first | (intro j h0 h1; exfalso; omega) | (intro j h0 h1; rw [hE, qu_is]; split; omega; exact c4 j h0 (by omega)))))))))))
def sC_passOn : qS := fun as A K => ∃ d c w : Int, as = [rf 44, ni d, ni c, ni w] ∧ (iva IC A ∧ ivf JC A ∧ 0 ≤ d ∧ d ≤ 500000000 ∧ 0 ≤ c ∧ c ≤ 7 ∧ (ab A 45 8 500000000)) ∧ (∀ A' : qA, iva IC A' → ivf JC A' → frm [45] [] A A' → (pw1 A A' d) → K none A')
theorem okC_passOn : okM LC 1 88 sC_passOn := by
  refine qmeth [] false [] 75 rfl trivial ?_
  rintro _ A K hA has ⟨d, c, w, rfl, ⟨i0, j0, p1, p2, p3, p4, p5⟩, hK⟩
  have rg_d : rng d := has (ni d) (by simp)
  have rg_c : rng c := has (ni c) (by simp)
  have rg_w : rng w := has (ni w) (by simp)
  have f0 := frm_0 [45] [] A
  refine ⟨Nat.le_of_ble_eq_true rfl, [], trivial, ?_⟩
  refine And.intro (fun h6 => ?_) (fun h6 => ?_)
  · refine And.intro (fun h7 => by exfalso; omega) (fun h7 => ?_)
    refine fun v8 e9 => ?_
    refine (And.intro (fun h10 => ?_) (And.intro (fun h10 => ?_) (And.intro (fun h10 => ?_) (And.intro (fun h10 => ?_) trivial))))
    · have hb := (by assumption : ab A 45 8 500000000) c (by omega) (by omega)
      refine And.intro (by omega) (fun v11 gv11 e12 => ?_)
      refine fun v13 e14 => ?_
      refine And.intro (by omega) (And.intro (by omega) (fun A15 e16 => ?_))
      have i17 := iva_st i0 e16 trivial
      have j18 := ivf_sa j0 e16 rfl
      have f19 := frm_s f0 e16 rfl
      first
      | exact hK _ i17 j18 f19 (pw_1 e16 (by omega) (by omega))
      | exact hK _ i17 j18 f19 (pw_2 (d1 := d - d / 2) (d2 := d / 2) hE e16 (by omega) (by omega) (by omega) (by omega) (by omega))
    · have hb := (by assumption : ab A 45 8 500000000) c (by omega) (by omega)
      refine And.intro (by omega) (fun v20 gv20 e21 => ?_)
      refine fun v22 e23 => ?_
      refine And.intro (by omega) (And.intro (by omega) (fun A24 e25 => ?_))
      have i26 := iva_st i0 e25 trivial
      have j27 := ivf_sa j0 e25 rfl
      have f28 := frm_s f0 e25 rfl
      first
      | exact hK _ i26 j27 f28 (pw_1 e25 (by omega) (by omega))
      | exact hK _ i26 j27 f28 (pw_2 (d1 := d - d / 2) (d2 := d / 2) hE e25 (by omega) (by omega) (by omega) (by omega) (by omega))
    · have hb := (by assumption : ab A 45 8 500000000) v8 (by omega) (by omega)
      refine And.intro (by omega) (fun v29 gv29 e30 => ?_)
      refine fun v31 e32 => ?_
      refine And.intro (by omega) (And.intro (by omega) (fun A33 e34 => ?_))
      have i35 := iva_st i0 e34 trivial
      have j36 := ivf_sa j0 e34 rfl
      have f37 := frm_s f0 e34 rfl
      first
      | exact hK _ i35 j36 f37 (pw_1 e34 (by omega) (by omega))
      | exact hK _ i35 j36 f37 (pw_2 (d1 := d - d / 2) (d2 := d / 2) hE e34 (by omega) (by omega) (by omega) (by omega) (by omega))
    · have hb := (by assumption : ab A 45 8 500000000) c (by omega) (by omega)
      refine And.intro (by omega) (fun v38 gv38 e39 => ?_)
      refine And.intro (by omega) (fun v40 e41 => ?_)
      have h42 := qd_nn (a := d) (b := 2) (by omega)
      refine fun v43 e44 => ?_
      refine fun v45 e46 => ?_
      refine And.intro (by omega) (And.intro (by omega) (fun A47 e48 => ?_))
      have i49 := iva_st i0 e48 trivial
      have j50 := ivf_sa j0 e48 rfl
      have f51 := frm_s f0 e48 rfl
      have hb2 : 0 ≤ A47 45 v8 ∧ A47 45 v8 ≤ 1000000000 := by rw [e48, qu_is]; have hb3 := (by assumption : ab A 45 8 500000000) v8 (by omega) (by omega); split <;> omega
      refine And.intro (by omega) (fun v52 gv52 e53 => ?_)
      refine And.intro (by omega) (fun v54 e55 => ?_)
      have h56 := qd_nn (a := d) (b := 2) (by omega)
      refine fun v57 e58 => ?_
      refine And.intro (by omega) (And.intro (by omega) (fun A59 e60 => ?_))
      have i61 := iva_st i49 e60 trivial
      have j62 := ivf_sa j50 e60 rfl
      have f63 := frm_s f51 e60 rfl
      first
      | exact hK _ i61 j62 f63 (pw_1 e60 (by omega) (by omega))
      | exact hK _ i61 j62 f63 (pw_2 (d1 := d - d / 2) (d2 := d / 2) e48 e60 (by omega) (by omega) (by omega) (by omega) (by omega))
  · refine fun v64 e65 => ?_
    refine And.intro (fun h66 => ?_) (fun h66 => ?_)
    · refine (And.intro (fun h67 => ?_) (And.intro (fun h67 => ?_) (And.intro (fun h67 => ?_) (And.intro (fun h67 => ?_) trivial))))
      · have hb := (by assumption : ab A 45 8 500000000) c (by omega) (by omega)
        refine And.intro (by omega) (fun v68 gv68 e69 => ?_)
        refine fun v70 e71 => ?_
        refine And.intro (by omega) (And.intro (by omega) (fun A72 e73 => ?_))
        have i74 := iva_st i0 e73 trivial
        have j75 := ivf_sa j0 e73 rfl
        have f76 := frm_s f0 e73 rfl
        first
        | exact hK _ i74 j75 f76 (pw_1 e73 (by omega) (by omega))
        | exact hK _ i74 j75 f76 (pw_2 (d1 := d - d / 2) (d2 := d / 2) hE e73 (by omega) (by omega) (by omega) (by omega) (by omega))
      · have hb := (by assumption : ab A 45 8 500000000) v64 (by omega) (by omega)
        refine And.intro (by omega) (fun v77 gv77 e78 => ?_)
        refine fun v79 e80 => ?_
        refine And.intro (by omega) (And.intro (by omega) (fun A81 e82 => ?_))
        have i83 := iva_st i0 e82 trivial
        have j84 := ivf_sa j0 e82 rfl
        have f85 := frm_s f0 e82 rfl
        first
        | exact hK _ i83 j84 f85 (pw_1 e82 (by omega) (by omega))
        | exact hK _ i83 j84 f85 (pw_2 (d1 := d - d / 2) (d2 := d / 2) hE e82 (by omega) (by omega) (by omega) (by omega) (by omega))
      · have hb := (by assumption : ab A 45 8 500000000) c (by omega) (by omega)
        refine And.intro (by omega) (fun v86 gv86 e87 => ?_)
        refine fun v88 e89 => ?_
        refine And.intro (by omega) (And.intro (by omega) (fun A90 e91 => ?_))
        have i92 := iva_st i0 e91 trivial
        have j93 := ivf_sa j0 e91 rfl
        have f94 := frm_s f0 e91 rfl
        first
        | exact hK _ i92 j93 f94 (pw_1 e91 (by omega) (by omega))
        | exact hK _ i92 j93 f94 (pw_2 (d1 := d - d / 2) (d2 := d / 2) hE e91 (by omega) (by omega) (by omega) (by omega) (by omega))
      · have hb := (by assumption : ab A 45 8 500000000) v64 (by omega) (by omega)
        refine And.intro (by omega) (fun v95 gv95 e96 => ?_)
        refine And.intro (by omega) (fun v97 e98 => ?_)
        have h99 := qd_nn (a := d) (b := 2) (by omega)
        refine fun v100 e101 => ?_
        refine fun v102 e103 => ?_
        refine And.intro (by omega) (And.intro (by omega) (fun A104 e105 => ?_))
        have i106 := iva_st i0 e105 trivial
        have j107 := ivf_sa j0 e105 rfl
        have f108 := frm_s f0 e105 rfl
        have hb2 : 0 ≤ A104 45 c ∧ A104 45 c ≤ 1000000000 := by rw [e105, qu_is]; have hb3 := (by assumption : ab A 45 8 500000000) c (by omega) (by omega); split <;> omega
        refine And.intro (by omega) (fun v109 gv109 e110 => ?_)
        refine And.intro (by omega) (fun v111 e112 => ?_)
        have h113 := qd_nn (a := d) (b := 2) (by omega)
        refine fun v114 e115 => ?_
        refine And.intro (by omega) (And.intro (by omega) (fun A116 e117 => ?_))
        have i118 := iva_st i106 e117 trivial
        have j119 := ivf_sa j107 e117 rfl
        have f120 := frm_s f108 e117 rfl
        first
        | exact hK _ i118 j119 f120 (pw_1 e117 (by omega) (by omega))
        | exact hK _ i118 j119 f120 (pw_2 (d1 := d - d / 2) (d2 := d / 2) e105 e117 (by omega) (by omega) (by omega) (by omega) (by omega))
    · refine fun v121 e122 => ?_
      refine (And.intro (fun h123 => ?_) (And.intro (fun h123 => ?_) (And.intro (fun h123 => ?_) (And.intro (fun h123 => ?_) trivial))))
      · have hb := (by assumption : ab A 45 8 500000000) c (by omega) (by omega)
        refine And.intro (by omega) (fun v124 gv124 e125 => ?_)
        refine fun v126 e127 => ?_
        refine And.intro (by omega) (And.intro (by omega) (fun A128 e129 => ?_))
        have i130 := iva_st i0 e129 trivial
        have j131 := ivf_sa j0 e129 rfl
        have f132 := frm_s f0 e129 rfl
        first
        | exact hK _ i130 j131 f132 (pw_1 e129 (by omega) (by omega))
        | exact hK _ i130 j131 f132 (pw_2 (d1 := d - d / 2) (d2 := d / 2) hE e129 (by omega) (by omega) (by omega) (by omega) (by omega))
      · have hb := (by assumption : ab A 45 8 500000000) v64 (by omega) (by omega)
        refine And.intro (by omega) (fun v133 gv133 e134 => ?_)
        refine fun v135 e136 => ?_
        refine And.intro (by omega) (And.intro (by omega) (fun A137 e138 => ?_))
        have i139 := iva_st i0 e138 trivial
        have j140 := ivf_sa j0 e138 rfl
        have f141 := frm_s f0 e138 rfl
        first
        | exact hK _ i139 j140 f141 (pw_1 e138 (by omega) (by omega))
        | exact hK _ i139 j140 f141 (pw_2 (d1 := d - d / 2) (d2 := d / 2) hE e138 (by omega) (by omega) (by omega) (by omega) (by omega))
      · have hb := (by assumption : ab A 45 8 500000000) v121 (by omega) (by omega)
        refine And.intro (by omega) (fun v142 gv142 e143 => ?_)
        refine fun v144 e145 => ?_
        refine And.intro (by omega) (And.intro (by omega) (fun A146 e147 => ?_))
        have i148 := iva_st i0 e147 trivial
        have j149 := ivf_sa j0 e147 rfl
        have f150 := frm_s f0 e147 rfl
        first
        | exact hK _ i148 j149 f150 (pw_1 e147 (by omega) (by omega))
        | exact hK _ i148 j149 f150 (pw_2 (d1 := d - d / 2) (d2 := d / 2) hE e147 (by omega) (by omega) (by omega) (by omega) (by omega))
      · have hb := (by assumption : ab A 45 8 500000000) v64 (by omega) (by omega)
        refine And.intro (by omega) (fun v151 gv151 e152 => ?_)
        refine And.intro (by omega) (fun v153 e154 => ?_)
        have h155 := qd_nn (a := d) (b := 2) (by omega)
        refine fun v156 e157 => ?_
        refine fun v158 e159 => ?_
        refine And.intro (by omega) (And.intro (by omega) (fun A160 e161 => ?_))
        have i162 := iva_st i0 e161 trivial
        have j163 := ivf_sa j0 e161 rfl
        have f164 := frm_s f0 e161 rfl
        have hb2 : 0 ≤ A160 45 v121 ∧ A160 45 v121 ≤ 1000000000 := by rw [e161, qu_is]; have hb3 := (by assumption : ab A 45 8 500000000) v121 (by omega) (by omega); split <;> omega
        refine And.intro (by omega) (fun v165 gv165 e166 => ?_)
        refine And.intro (by omega) (fun v167 e168 => ?_)
        have h169 := qd_nn (a := d) (b := 2) (by omega)
        refine fun v170 e171 => ?_
        refine And.intro (by omega) (And.intro (by omega) (fun A172 e173 => ?_))
        have i174 := iva_st i162 e173 trivial
        have j175 := ivf_sa j163 e173 rfl
        have f176 := frm_s f164 e173 rfl
        first
        | exact hK _ i174 j175 f176 (pw_1 e173 (by omega) (by omega))
        | exact hK _ i174 j175 f176 (pw_2 (d1 := d - d / 2) (d2 := d / 2) e161 e173 (by omega) (by omega) (by omega) (by omega) (by omega))
def sC_pourA : qS := fun as A K => as = [rf 44, rf 16, rf 9] ∧ (iva IC A ∧ ivf JC A) ∧ (∀ A' : qA, iva IC A' → ivf JC A' → frm [45, 46, 9] [] A A' → K none A')
theorem okC_pourA : okM LC 4 87 sC_pourA := by
  refine qmeth [] false [(250, sC_fill45z), (24, sC_needOf), (21, sC_hangs), (88, sC_passOn)] 89 rfl ⟨okC_fill45z.le (by decide), ⟨okC_needOf.le (by decide), ⟨okC_hangs.le (by decide), ⟨okC_passOn.le (by decide), trivial⟩⟩⟩⟩ ?_
  rintro _ A K hA has ⟨rfl, ⟨i0, j0⟩, hK⟩
  have f0 := frm_0 [45, 46, 9] [] A
  refine ⟨Nat.le_of_ble_eq_true rfl, [(9, [(0, 2, 44), (2, 2, 9), (3, 0, 0)], fun zs B nn => match zs with | [l] => iva IC B ∧ ivf JC B ∧ frm [45, 46, 9] [] A B ∧ nn = ((6 - l) * 100 + 50 : Int).toNat ∧ (0 ≤ l) ∧ (l ≤ 6) ∧ (ab B 45 8 (pw l)) | _ => False), (26, [(0, 2, 44), (2, 2, 9), (3, 0, 0), (4, 0, 0)], fun zs B nn => match zs with | [l, c] => iva IC B ∧ ivf JC B ∧ frm [45, 46, 9] [] A B ∧ nn = ((6 - l) * 100 + 10 - c : Int).toNat ∧ (0 ≤ l) ∧ (l ≤ 5) ∧ (0 ≤ c) ∧ (c ≤ 8) ∧ (ab B 46 8 (pw l)) ∧ (ab B 45 8 (c * pw l)) | _ => False)], ?_, ?_⟩
  · refine ⟨⟨rfl, ?_⟩, ⟨rfl, ?_⟩, trivial⟩
    · refine fun l B mm hB hz hI => ?_
      obtain ⟨i1, j1, f1, hm, c0, c1, c2⟩ := hI
      obtain ⟨hz_l, _⟩ := hz
      refine And.intro (fun h6 => ?_) (fun h6 => ?_)
      · exact hK _ i1 j1 f1
      · refine And.intro (by omega) (fun A7 e8 => ?_)
        have i9 := iva_cp i1 e8 (fun i h0 h1 => trivial)
        have j10 := ivf_cp j1 e8 rfl
        have f11 := frm_cp f1 e8 rfl
        refine Exists.intro 0 (And.intro rfl (And.intro (And.intro i9 j10) (fun A12 i13 j14 f15 g16 => ?_)))
        have f17 := frm_c f11 f15 rfl
        have hab46 : ab A12 46 8 (pw l) := by have q := ab_cp (r := 46) e8 c2; intro i h0 h1; rw [frm_a f15 (r := 46) rfl]; exact q i h0 h1
        have hab45 : ab A12 45 8 (0 * pw l) := by intro i h0 h1; have q := g16 i h0 h1; omega
        exact Exists.intro ((6 - l) * 100 + 10 - 0 : Int).toNat (And.intro (by omega) (And.intro i13 (And.intro j14 (And.intro f17 (And.intro rfl (And.intro (by omega) (And.intro (by omega) (And.intro (by omega) (And.intro (by omega) (And.intro (by first | exact hab46 | exact hb46) (by first | exact hab45 | (rw [show 0 = c + 1 by omega]; exact hb45n))))))))))))
    · refine fun l c B mm hB hz hI => ?_
      obtain ⟨i1, j1, f1, hm, c0, c1, c2, c3, c4, c5⟩ := hI
      obtain ⟨hz_l, hz_c, _⟩ := hz
      refine And.intro (fun h18 => ?_) (fun h18 => ?_)
      · have hab9 : ab B 45 8 (pw (l + 1)) := by have hp := pw_s (l := l) (by omega); have h8 : c = 8 := (by omega); intro i h0 h1; have q := c5 i h0 h1; rw [h8] at q; omega
        refine fun v19 e20 => ?_
        exact And.intro (by omega) (Exists.intro ((6 - v19) * 100 + 50 : Int).toNat (And.intro (by omega) (And.intro i1 (And.intro j1 (And.intro f1 (And.intro rfl (And.intro (by omega) (And.intro (by omega) (by first | exact hab0 | (rw [show v19 = l + 1 by omega]; exact hab9))))))))))
      · refine fun v21 e22 => ?_
        refine fun v23 e24 => ?_
        refine And.intro (by omega) (fun v25 gv25 e26 => ?_)
        have hc := c4 c (by omega) (by omega)
        have hp := pw_bd (l := l) (by omega) (by omega)
        have hm9 : c * pw l ≤ 8 * pw l := Int.mul_le_mul_of_nonneg_right (by omega) (by omega)
        refine And.intro (fun h27 => ?_) (fun h27 => ?_)
        · refine And.intro (by omega) (Exists.intro v23 (And.intro rfl (And.intro (And.intro i1 j1) (fun r28 g29 g30 => ?_))))
          refine (fun v31 e32 => ?_)
          refine And.intro (by omega) (fun A33 e34 => ?_)
          have i35 := iva_st i1 e34 (And.intro (by omega) trivial)
          have j36 := ivf_sa j1 e34 rfl
          have f37 := frm_s f1 e34 rfl
          refine And.intro (by omega) (fun v38 gv38 e39 => ?_)
          have b40 := iva_at i35 4 rfl (i := v23) (by omega) (by omega)
          have q41 : v31 = v38 := (e39.trans (st_v e34)).symm
          subst q41
          refine And.intro (fun h42 => ?_) (fun h42 => ?_)
          · have hb46 : ab A33 46 8 (pw l) := by intro i h0 h1; rw [show A33 46 = B 46 from (st_a e34 rfl)]; exact c4 i h0 h1
            have hb45n : ab A33 45 8 ((c + 1) * pw l) := by
              have hd : (c + 1) * pw l = c * pw l + pw l := by rw [Int.add_mul, Int.one_mul]
              intro i h0 h1
              have q := c5 i h0 h1
              first
              | (rw [show A33 45 = B 45 from (st_a e34 rfl)]; omega)
              | (have q2 := hE i h0 h1; have q3 := hq45 i; omega)
            refine fun v43 e44 => ?_
            exact And.intro (by omega) (Exists.intro ((6 - l) * 100 + 10 - v43 : Int).toNat (And.intro (by omega) (And.intro i35 (And.intro j36 (And.intro f37 (And.intro rfl (And.intro (by omega) (And.intro (by omega) (And.intro (by omega) (And.intro (by omega) (And.intro (by first | exact hab46 | exact hb46) (by first | exact hab45 | (rw [show v43 = c + 1 by omega]; exact hb45n)))))))))))))
          · have hq45 : ∀ i, A33 45 i = B 45 i := fun i => congrFun (st_a e34 rfl) i
            have hab1 : ab A33 45 8 500000000 := by intro i h0 h1; have q := c5 i h0 h1; have q2 := hq45 i; omega
            refine And.intro (by omega) (fun v45 gv45 e46 => ?_)
            have b47 := iva_at i35 4 rfl (i := v23) (by omega) (by omega)
            have q48 : v31 = v45 := (e46.trans e39.symm).symm
            subst q48
            refine fun v49 e50 => ?_
            refine And.intro (by omega) (Exists.intro v23 (And.intro rfl (And.intro (fun h51 => ?_) (fun h51 => ?_))))
            · refine And.intro (fun h52 => by exfalso; omega) (fun h52 => ?_)
              refine And.intro (by omega) (fun v53 gv53 e54 => ?_)
              have b55 := iva_at i35 1 rfl (i := v23) (by omega) (by omega)
              refine And.intro (by omega) (Exists.intro v49 (Exists.intro c (Exists.intro v53 (And.intro rfl (And.intro (And.intro i35 (And.intro j36 (And.intro (by omega) (And.intro (by omega) (And.intro (by omega) (And.intro (by omega) (by first | assumption | omega | simp_all))))))) (fun A56 i57 j58 f59 g60 => ?_))))))
              have f61 := frm_c f37 f59 rfl
              have hb46 : ab A56 46 8 (pw l) := by intro i h0 h1; rw [show A56 46 = B 46 from (Eq.trans (frm_a f59 rfl) (st_a e34 rfl))]; exact c4 i h0 h1
              have hb45n : ab A56 45 8 ((c + 1) * pw l) := by
                have hd : (c + 1) * pw l = c * pw l + pw l := by rw [Int.add_mul, Int.one_mul]
                intro i h0 h1
                have q := c5 i h0 h1
                first
                | (rw [show A56 45 = B 45 from rfl]; omega)
                | (have q2 := g60 i h0 h1; have q3 := hq45 i; omega)
              refine fun v62 e63 => ?_
              exact And.intro (by omega) (Exists.intro ((6 - l) * 100 + 10 - v62 : Int).toNat (And.intro (by omega) (And.intro i57 (And.intro j58 (And.intro f61 (And.intro rfl (And.intro (by omega) (And.intro (by omega) (And.intro (by omega) (And.intro (by omega) (And.intro (by first | exact hab46 | exact hb46) (by first | exact hab45 | (rw [show v62 = c + 1 by omega]; exact hb45n)))))))))))))
            · refine And.intro (fun h64 => ?_) (fun h64 => by exfalso; omega)
              refine And.intro (by omega) (Exists.intro v49 (Exists.intro c (Exists.intro 0 (And.intro rfl (And.intro (And.intro i35 (And.intro j36 (And.intro (by omega) (And.intro (by omega) (And.intro (by omega) (And.intro (by omega) (by first | assumption | omega | simp_all))))))) (fun A65 i66 j67 f68 g69 => ?_))))))
              have f70 := frm_c f37 f68 rfl
              have hb46 : ab A65 46 8 (pw l) := by intro i h0 h1; rw [show A65 46 = B 46 from (Eq.trans (frm_a f68 rfl) (st_a e34 rfl))]; exact c4 i h0 h1
              have hb45n : ab A65 45 8 ((c + 1) * pw l) := by
                have hd : (c + 1) * pw l = c * pw l + pw l := by rw [Int.add_mul, Int.one_mul]
                intro i h0 h1
                have q := c5 i h0 h1
                first
                | (rw [show A65 45 = B 45 from rfl]; omega)
                | (have q2 := g69 i h0 h1; have q3 := hq45 i; omega)
              refine fun v71 e72 => ?_
              exact And.intro (by omega) (Exists.intro ((6 - l) * 100 + 10 - v71 : Int).toNat (And.intro (by omega) (And.intro i66 (And.intro j67 (And.intro f70 (And.intro rfl (And.intro (by omega) (And.intro (by omega) (And.intro (by omega) (And.intro (by omega) (And.intro (by first | exact hab46 | exact hb46) (by first | exact hab45 | (rw [show v71 = c + 1 by omega]; exact hb45n)))))))))))))
        · refine And.intro (by omega) (fun A73 e74 => ?_)
          have i75 := iva_st i1 e74 (And.intro (by omega) trivial)
          have j76 := ivf_sa j1 e74 rfl
          have f77 := frm_s f1 e74 rfl
          refine And.intro (by omega) (fun v78 gv78 e79 => ?_)
          have b80 := iva_at i75 4 rfl (i := v23) (by omega) (by omega)
          have q81 : 0 = v78 := (e79.trans (st_v e74)).symm
          subst q81
          refine And.intro (fun h82 => ?_) (fun h82 => by exfalso; omega)
          have hb46 : ab A73 46 8 (pw l) := by intro i h0 h1; rw [show A73 46 = B 46 from (st_a e74 rfl)]; exact c4 i h0 h1
          have hb45n : ab A73 45 8 ((c + 1) * pw l) := by
            have hd : (c + 1) * pw l = c * pw l + pw l := by rw [Int.add_mul, Int.one_mul]
            intro i h0 h1
            have q := c5 i h0 h1
            first
            | (rw [show A73 45 = B 45 from (st_a e74 rfl)]; omega)
            | (have q2 := hE i h0 h1; have q3 := hq45 i; omega)
          refine fun v83 e84 => ?_
          exact And.intro (by omega) (Exists.intro ((6 - l) * 100 + 10 - v83 : Int).toNat (And.intro (by omega) (And.intro i75 (And.intro j76 (And.intro f77 (And.intro rfl (And.intro (by omega) (And.intro (by omega) (And.intro (by omega) (And.intro (by omega) (And.intro (by first | exact hab46 | exact hb46) (by first | exact hab45 | (rw [show v83 = c + 1 by omega]; exact hb45n)))))))))))))
  · refine And.intro (by omega) (fun A1 e2 => ?_)
    have i3 := iva_cp i0 e2 (fun i h0 h1 => trivial)
    have j4 := ivf_cp j0 e2 rfl
    have f5 := frm_cp f0 e2 rfl
    have hab0 : ab A1 45 8 (pw 0) := ab_cp e2 (fun i h0 h1 => by have h9 := iva_at i0 12 rfl (i := i) h0 h1; have hp := pw_0; omega)
    exact Exists.intro ((6 - 0) * 100 + 50 : Int).toNat (And.intro i3 (And.intro j4 (And.intro f5 (And.intro rfl (And.intro (by omega) (And.intro (by omega) (by first | exact hab0 | (rw [show 0 = l + 1 by omega]; exact hab9))))))))
def sC_pourB : qS := fun as A K => as = [rf 44, rf 49, rf 50] ∧ (iva IC A ∧ ivf JC A) ∧ (∀ A' : qA, iva IC A' → ivf JC A' → frm [45, 46, 50] [] A A' → K none A')
theorem okC_pourB : okM LC 4 87 sC_pourB := by
  refine qmeth [] false [(250, sC_fill45z), (24, sC_needOf), (21, sC_hangs), (88, sC_passOn)] 89 rfl ⟨okC_fill45z.le (by decide), ⟨okC_needOf.le (by decide), ⟨okC_hangs.le (by decide), ⟨okC_passOn.le (by decide), trivial⟩⟩⟩⟩ ?_
  rintro _ A K hA has ⟨rfl, ⟨i0, j0⟩, hK⟩
  have f0 := frm_0 [45, 46, 50] [] A
  refine ⟨Nat.le_of_ble_eq_true rfl, [(9, [(0, 2, 44), (2, 2, 50), (3, 0, 0)], fun zs B nn => match zs with | [l] => iva IC B ∧ ivf JC B ∧ frm [45, 46, 50] [] A B ∧ nn = ((6 - l) * 100 + 50 : Int).toNat ∧ (0 ≤ l) ∧ (l ≤ 6) ∧ (ab B 45 8 (pw l)) | _ => False), (26, [(0, 2, 44), (2, 2, 50), (3, 0, 0), (4, 0, 0)], fun zs B nn => match zs with | [l, c] => iva IC B ∧ ivf JC B ∧ frm [45, 46, 50] [] A B ∧ nn = ((6 - l) * 100 + 10 - c : Int).toNat ∧ (0 ≤ l) ∧ (l ≤ 5) ∧ (0 ≤ c) ∧ (c ≤ 8) ∧ (ab B 46 8 (pw l)) ∧ (ab B 45 8 (c * pw l)) | _ => False)], ?_, ?_⟩
  · refine ⟨⟨rfl, ?_⟩, ⟨rfl, ?_⟩, trivial⟩
    · refine fun l B mm hB hz hI => ?_
      obtain ⟨i1, j1, f1, hm, c0, c1, c2⟩ := hI
      obtain ⟨hz_l, _⟩ := hz
      refine And.intro (fun h6 => ?_) (fun h6 => ?_)
      · exact hK _ i1 j1 f1
      · refine And.intro (by omega) (fun A7 e8 => ?_)
        have i9 := iva_cp i1 e8 (fun i h0 h1 => trivial)
        have j10 := ivf_cp j1 e8 rfl
        have f11 := frm_cp f1 e8 rfl
        refine Exists.intro 0 (And.intro rfl (And.intro (And.intro i9 j10) (fun A12 i13 j14 f15 g16 => ?_)))
        have f17 := frm_c f11 f15 rfl
        have hab46 : ab A12 46 8 (pw l) := by have q := ab_cp (r := 46) e8 c2; intro i h0 h1; rw [frm_a f15 (r := 46) rfl]; exact q i h0 h1
        have hab45 : ab A12 45 8 (0 * pw l) := by intro i h0 h1; have q := g16 i h0 h1; omega
        exact Exists.intro ((6 - l) * 100 + 10 - 0 : Int).toNat (And.intro (by omega) (And.intro i13 (And.intro j14 (And.intro f17 (And.intro rfl (And.intro (by omega) (And.intro (by omega) (And.intro (by omega) (And.intro (by omega) (And.intro (by first | exact hab46 | exact hb46) (by first | exact hab45 | (rw [show 0 = c + 1 by omega]; exact hb45n))))))))))))
    · refine fun l c B mm hB hz hI => ?_
      obtain ⟨i1, j1, f1, hm, c0, c1, c2, c3, c4, c5⟩ := hI
      obtain ⟨hz_l, hz_c, _⟩ := hz
      refine And.intro (fun h18 => ?_) (fun h18 => ?_)
      · have hab9 : ab B 45 8 (pw (l + 1)) := by have hp := pw_s (l := l) (by omega); have h8 : c = 8 := (by omega); intro i h0 h1; have q := c5 i h0 h1; rw [h8] at q; omega
        refine fun v19 e20 => ?_
        exact And.intro (by omega) (Exists.intro ((6 - v19) * 100 + 50 : Int).toNat (And.intro (by omega) (And.intro i1 (And.intro j1 (And.intro f1 (And.intro rfl (And.intro (by omega) (And.intro (by omega) (by first | exact hab0 | (rw [show v19 = l + 1 by omega]; exact hab9))))))))))
      · refine fun v21 e22 => ?_
        refine fun v23 e24 => ?_
        refine And.intro (by omega) (fun v25 gv25 e26 => ?_)
        have hc := c4 c (by omega) (by omega)
        have hp := pw_bd (l := l) (by omega) (by omega)
        have hm9 : c * pw l ≤ 8 * pw l := Int.mul_le_mul_of_nonneg_right (by omega) (by omega)
        refine And.intro (fun h27 => ?_) (fun h27 => ?_)
        · refine And.intro (by omega) (Exists.intro v23 (And.intro rfl (And.intro (And.intro i1 j1) (fun r28 g29 g30 => ?_))))
          refine (fun v31 e32 => ?_)
          refine And.intro (by omega) (fun A33 e34 => ?_)
          have i35 := iva_st i1 e34 (And.intro (by omega) trivial)
          have j36 := ivf_sa j1 e34 rfl
          have f37 := frm_s f1 e34 rfl
          refine And.intro (by omega) (fun v38 gv38 e39 => ?_)
          have b40 := iva_at i35 25 rfl (i := v23) (by omega) (by omega)
          have q41 : v31 = v38 := (e39.trans (st_v e34)).symm
          subst q41
          refine And.intro (fun h42 => ?_) (fun h42 => ?_)
          · have hb46 : ab A33 46 8 (pw l) := by intro i h0 h1; rw [show A33 46 = B 46 from (st_a e34 rfl)]; exact c4 i h0 h1
            have hb45n : ab A33 45 8 ((c + 1) * pw l) := by
              have hd : (c + 1) * pw l = c * pw l + pw l := by rw [Int.add_mul, Int.one_mul]
              intro i h0 h1
              have q := c5 i h0 h1
              first
              | (rw [show A33 45 = B 45 from (st_a e34 rfl)]; omega)
              | (have q2 := hE i h0 h1; have q3 := hq45 i; omega)
            refine fun v43 e44 => ?_
            exact And.intro (by omega) (Exists.intro ((6 - l) * 100 + 10 - v43 : Int).toNat (And.intro (by omega) (And.intro i35 (And.intro j36 (And.intro f37 (And.intro rfl (And.intro (by omega) (And.intro (by omega) (And.intro (by omega) (And.intro (by omega) (And.intro (by first | exact hab46 | exact hb46) (by first | exact hab45 | (rw [show v43 = c + 1 by omega]; exact hb45n)))))))))))))
          · have hq45 : ∀ i, A33 45 i = B 45 i := fun i => congrFun (st_a e34 rfl) i
            have hab1 : ab A33 45 8 500000000 := by intro i h0 h1; have q := c5 i h0 h1; have q2 := hq45 i; omega
            refine And.intro (by omega) (fun v45 gv45 e46 => ?_)
            have b47 := iva_at i35 25 rfl (i := v23) (by omega) (by omega)
            have q48 : v31 = v45 := (e46.trans e39.symm).symm
            subst q48
            refine fun v49 e50 => ?_
            refine And.intro (by omega) (Exists.intro v23 (And.intro rfl (And.intro (fun h51 => ?_) (fun h51 => ?_))))
            · refine And.intro (fun h52 => by exfalso; omega) (fun h52 => ?_)
              refine And.intro (by omega) (fun v53 gv53 e54 => ?_)
              have b55 := iva_at i35 1 rfl (i := v23) (by omega) (by omega)
              refine And.intro (by omega) (Exists.intro v49 (Exists.intro c (Exists.intro v53 (And.intro rfl (And.intro (And.intro i35 (And.intro j36 (And.intro (by omega) (And.intro (by omega) (And.intro (by omega) (And.intro (by omega) (by first | assumption | omega | simp_all))))))) (fun A56 i57 j58 f59 g60 => ?_))))))
              have f61 := frm_c f37 f59 rfl
              have hb46 : ab A56 46 8 (pw l) := by intro i h0 h1; rw [show A56 46 = B 46 from (Eq.trans (frm_a f59 rfl) (st_a e34 rfl))]; exact c4 i h0 h1
              have hb45n : ab A56 45 8 ((c + 1) * pw l) := by
                have hd : (c + 1) * pw l = c * pw l + pw l := by rw [Int.add_mul, Int.one_mul]
                intro i h0 h1
                have q := c5 i h0 h1
                first
                | (rw [show A56 45 = B 45 from rfl]; omega)
                | (have q2 := g60 i h0 h1; have q3 := hq45 i; omega)
              refine fun v62 e63 => ?_
              exact And.intro (by omega) (Exists.intro ((6 - l) * 100 + 10 - v62 : Int).toNat (And.intro (by omega) (And.intro i57 (And.intro j58 (And.intro f61 (And.intro rfl (And.intro (by omega) (And.intro (by omega) (And.intro (by omega) (And.intro (by omega) (And.intro (by first | exact hab46 | exact hb46) (by first | exact hab45 | (rw [show v62 = c + 1 by omega]; exact hb45n)))))))))))))
            · refine And.intro (fun h64 => ?_) (fun h64 => by exfalso; omega)
              refine And.intro (by omega) (Exists.intro v49 (Exists.intro c (Exists.intro 0 (And.intro rfl (And.intro (And.intro i35 (And.intro j36 (And.intro (by omega) (And.intro (by omega) (And.intro (by omega) (And.intro (by omega) (by first | assumption | omega | simp_all))))))) (fun A65 i66 j67 f68 g69 => ?_))))))
              have f70 := frm_c f37 f68 rfl
              have hb46 : ab A65 46 8 (pw l) := by intro i h0 h1; rw [show A65 46 = B 46 from (Eq.trans (frm_a f68 rfl) (st_a e34 rfl))]; exact c4 i h0 h1
              have hb45n : ab A65 45 8 ((c + 1) * pw l) := by
                have hd : (c + 1) * pw l = c * pw l + pw l := by rw [Int.add_mul, Int.one_mul]
                intro i h0 h1
                have q := c5 i h0 h1
                first
                | (rw [show A65 45 = B 45 from rfl]; omega)
                | (have q2 := g69 i h0 h1; have q3 := hq45 i; omega)
              refine fun v71 e72 => ?_
              exact And.intro (by omega) (Exists.intro ((6 - l) * 100 + 10 - v71 : Int).toNat (And.intro (by omega) (And.intro i66 (And.intro j67 (And.intro f70 (And.intro rfl (And.intro (by omega) (And.intro (by omega) (And.intro (by omega) (And.intro (by omega) (And.intro (by first | exact hab46 | exact hb46) (by first | exact hab45 | (rw [show v71 = c + 1 by omega]; exact hb45n)))))))))))))
        · refine And.intro (by omega) (fun A73 e74 => ?_)
          have i75 := iva_st i1 e74 (And.intro (by omega) trivial)
          have j76 := ivf_sa j1 e74 rfl
          have f77 := frm_s f1 e74 rfl
          refine And.intro (by omega) (fun v78 gv78 e79 => ?_)
          have b80 := iva_at i75 25 rfl (i := v23) (by omega) (by omega)
          have q81 : 0 = v78 := (e79.trans (st_v e74)).symm
          subst q81
          refine And.intro (fun h82 => ?_) (fun h82 => by exfalso; omega)
          have hb46 : ab A73 46 8 (pw l) := by intro i h0 h1; rw [show A73 46 = B 46 from (st_a e74 rfl)]; exact c4 i h0 h1
          have hb45n : ab A73 45 8 ((c + 1) * pw l) := by
            have hd : (c + 1) * pw l = c * pw l + pw l := by rw [Int.add_mul, Int.one_mul]
            intro i h0 h1
            have q := c5 i h0 h1
            first
            | (rw [show A73 45 = B 45 from (st_a e74 rfl)]; omega)
            | (have q2 := hE i h0 h1; have q3 := hq45 i; omega)
          refine fun v83 e84 => ?_
          exact And.intro (by omega) (Exists.intro ((6 - l) * 100 + 10 - v83 : Int).toNat (And.intro (by omega) (And.intro i75 (And.intro j76 (And.intro f77 (And.intro rfl (And.intro (by omega) (And.intro (by omega) (And.intro (by omega) (And.intro (by omega) (And.intro (by first | exact hab46 | exact hb46) (by first | exact hab45 | (rw [show v83 = c + 1 by omega]; exact hb45n)))))))))))))
  · refine And.intro (by omega) (fun A1 e2 => ?_)
    have i3 := iva_cp i0 e2 (fun i h0 h1 => trivial)
    have j4 := ivf_cp j0 e2 rfl
    have f5 := frm_cp f0 e2 rfl
    have hab0 : ab A1 45 8 (pw 0) := ab_cp e2 (fun i h0 h1 => by have h9 := iva_at i0 24 rfl (i := i) h0 h1; have hp := pw_0; omega)
    exact Exists.intro ((6 - 0) * 100 + 50 : Int).toNat (And.intro i3 (And.intro j4 (And.intro f5 (And.intro rfl (And.intro (by omega) (And.intro (by omega) (by first | exact hab0 | (rw [show 0 = l + 1 by omega]; exact hab9))))))))
