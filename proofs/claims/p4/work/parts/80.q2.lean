/-! bits of a small set -/
theorem kb1 : ∀ l < 256, ∀ b < 8, ia (sr ((l : Nat) : Int) ((b : Nat) : Int)) 1 = 1 → (0 ≤ ia (l : Int) (ix (sl 1 (b : Int)) (-1)) ∧ ia (l : Int) (ix (sl 1 (b : Int)) (-1)) < l) ∧ bc (ia (l : Int) (ix (sl 1 (b : Int)) (-1))) 8 = bc (l : Int) 8 - 1 := by decide +kernel
theorem kb2 : ∀ n < 9, ∀ l < 2 ^ n, bc ((l : Nat) : Int) ((n : Nat) : Int) = bc (l : Int) 8 := by decide +kernel
theorem kb3 : ∀ l < 256, 0 < l → 1 ≤ bc ((l : Nat) : Int) 8 := by decide +kernel
theorem kb4 : ∀ n < 9, bc (sl 1 ((n : Nat) : Int) - 1) 8 = n := by decide +kernel
theorem k1 {l b u w v : Int} (hu : u = sl 1 b) (hw : w = ix u (-1)) (hv : v = ia l w) (l0 : 0 ≤ l) (l1 : l < 256) (b0 : 0 ≤ b) (b1 : b < 8) (hb : ia (sr l b) 1 = 1) : (0 ≤ v ∧ v < l) ∧ bc v 8 = bc l 8 - 1 := by
  have := kb1 l.toNat (by omega) b.toNat (by omega)
  rw [show ((l.toNat : Nat) : Int) = l by omega, show ((b.toNat : Nat) : Int) = b by omega] at this
  subst hu hw hv
  exact this hb
theorem k2 {l n : Int} (l0 : 0 ≤ l) (l1 : l < sl 1 n) (n0 : 0 ≤ n) (n1 : n ≤ 8) : bc l n = bc l 8 := by
  rw [sl_1 n0 (by omega)] at l1
  have := kb2 n.toNat (by omega) l.toNat (by omega)
  rw [show ((l.toNat : Nat) : Int) = l by omega, show ((n.toNat : Nat) : Int) = n by omega] at this
  exact this
theorem k3 {l : Int} (l0 : 0 < l) (l1 : l < 256) : 1 ≤ bc l 8 := by
  have := kb3 l.toNat (by omega) (by omega)
  rw [show ((l.toNat : Nat) : Int) = l by omega] at this
  exact this
theorem k4 {n v : Int} (n0 : 0 ≤ n) (n1 : n ≤ 8) (hv : v = sl 1 n - 1) : bc v 8 = n ∧ 0 ≤ v ∧ v < sl 1 n ∧ v < 256 := by
  have := kb4 n.toNat (by omega)
  rw [show ((n.toNat : Nat) : Int) = n by omega] at this
  have h2 := sl_bd (b := n) 8 (by decide) n0 (by omega)
  subst hv
  exact ⟨this, by omega, by omega, by omega⟩
/-! the rounds' hours -/
def HB (A : qA) (l : Int) : Prop := ∀ x a, 0 ≤ x → x < l → 0 ≤ a → a < A 0 (fd 63) → 0 ≤ A 53 (8 * x + a) ∧ A 53 (8 * x + a) ≤ 300 * x
def HA (A : qA) (l k : Int) : Prop := ∀ a, 0 ≤ a → a < k → 0 ≤ A 53 (8 * l + a) ∧ A 53 (8 * l + a) ≤ 300 * l
theorem HB_k {A A' : qA} {l l' : Int} (h : HB A l) (h53 : A' 53 = A 53) (h63 : A' 0 (fd 63) = A 0 (fd 63)) (hl : l' ≤ l) : HB A' l' := by
  intro x a x0 x1 a0 a1
  rw [h53]
  exact h x a x0 (by omega) a0 (by omega)
theorem HB_u {A A' : qA} {l a j v : Int} (h : HB A l) (h53 : A' 53 = (fun i : Int => if i = j then v else A 53 i)) (hj : j = 8 * l + a) (a0 : 0 ≤ a) (h63 : A' 0 (fd 63) = A 0 (fd 63)) (h8 : A 0 (fd 63) ≤ 8) : HB A' l := by
  intro x b x0 x1 b0 b1
  rw [up_n h53 (by omega)]
  exact h x b x0 x1 b0 (by omega)
theorem HA_u {A A' : qA} {l a j v a' : Int} (h : HA A l a) (h53 : A' 53 = (fun i : Int => if i = j then v else A 53 i)) (hj : j = 8 * l + a) (hv : 0 ≤ v ∧ v ≤ 300 * l) (ha : a' = a + 1) : HA A' l a' := by
  intro b b0 b1
  by_cases hb : b = a
  · rw [hb, ← hj, up_e h53]; exact hv
  · rw [up_n h53 (by omega)]; exact h b b0 (by omega)
theorem HA_0 (A : qA) (l : Int) : HA A l 0 := fun a _ _ => by omega
theorem HB_0 (A : qA) : HB A 0 := fun x a _ _ _ _ => by omega
theorem HB_n {A : qA} {l l' n : Int} (h : HB A l) (h2 : HA A l n) (hn : A 0 (fd 63) ≤ n) (hl : l' = l + 1) : HB A l' := by
  intro x a x0 x1 a0 a1
  by_cases hx : x = l
  · rw [hx]; exact h2 a a0 (by omega)
  · exact h x a x0 (by omega) a0 a1
theorem HB_at {A : qA} {l x a j : Int} (h : HB A l) (x0 : 0 ≤ x) (x1 : x < l) (a0 : 0 ≤ a) (a1 : a < A 0 (fd 63)) (hj : j = 8 * x + a) : 0 ≤ A 53 j ∧ A 53 j ≤ 300 * x := by
  rw [hj]; exact h x a x0 x1 a0 a1
def sM_laysHours : qS := fun as A K => as = [rf 0] ∧ (iva IM A ∧ ivf JM A) ∧ (∀ A' : qA, iva IM A' → ivf JM A' → frm [53] [] A A' → (HB A' (sl 1 (A 0 (fd 63)))) → K none A')
theorem okM_laysHours : okM LM 3 222 sM_laysHours := by
  refine qmeth [] false [(221, sM_way), (146, sM_less)] 82 rfl ⟨okM_way.le (by decide), ⟨okM_less.le (by decide), trivial⟩⟩ ?_
  rintro _ A K hA has ⟨rfl, ⟨i0, j0⟩, hK⟩
  have f0 := frm_0 [53] [] A
  have hb_0_63 := ivf_at j0 2 rfl
  refine ⟨Nat.le_of_ble_eq_true rfl, [(2, [(0, 2, 0), (1, 0, 0)], fun zs B nn => match zs with | [l] => iva IM B ∧ ivf JM B ∧ frm [53] [] A B ∧ nn = ((256 - l) * 1000 + 999 : Int).toNat ∧ (0 ≤ l) ∧ (l ≤ 256) ∧ (l ≤ sl 1 (A 0 (fd 63))) ∧ (HB B l) | _ => False), (10, [(0, 2, 0), (1, 0, 0), (2, 0, 0)], fun zs B nn => match zs with | [l, a] => iva IM B ∧ ivf JM B ∧ frm [53] [] A B ∧ nn = ((256 - l) * 1000 + 900 - a * 20 : Int).toNat ∧ (0 ≤ l) ∧ (l ≤ 255) ∧ (l < sl 1 (A 0 (fd 63))) ∧ (HB B l) ∧ (0 ≤ a) ∧ (a ≤ A 0 (fd 63)) ∧ (HA B l a) | _ => False), (22, [(0, 2, 0), (1, 0, 0), (2, 0, 0), (3, 0, 0), (4, 0, 0)], fun zs B nn => match zs with | [l, a, s, b] => iva IM B ∧ ivf JM B ∧ frm [53] [] A B ∧ nn = ((256 - l) * 1000 + 900 - a * 20 - 1 - b : Int).toNat ∧ (0 ≤ l) ∧ (l ≤ 255) ∧ (l < sl 1 (A 0 (fd 63))) ∧ (HB B l) ∧ (0 ≤ a) ∧ (a < A 0 (fd 63)) ∧ (HA B l a) ∧ (0 ≤ b) ∧ (b ≤ A 0 (fd 63)) ∧ (0 ≤ s) ∧ (s ≤ 1000000000) ∧ (s ≤ 300 * l ∨ bc l b = 0) ∧ (l = 0 → s ≤ 0) | _ => False)], ?_, ?_⟩
  · refine ⟨⟨rfl, ?_⟩, ⟨rfl, ?_⟩, ⟨rfl, ?_⟩, trivial⟩
    · refine fun l B mm hB hz hI => ?_
      obtain ⟨i1, j1, f1, hm, c0, c1, c2, c3⟩ := hI
      obtain ⟨hz_l, _⟩ := hz
      have hc_0_63 := ivf_at j1 2 rfl
      have h63 : B 0 (fd 63) = A 0 (fd 63) := frm_f f1 rfl
      have hsl := sl_bd (b := A 0 (fd 63)) 8 (by decide) (by omega) (by omega)
      refine fun v1 gv1 e2 => ?_
      have b3 := ivf_at j1 2 rfl
      refine fun v4 e5 => ?_
      have h6 := sl_bd (b := v1) 8 (by decide) (by omega) (by omega)
      have hs9 : v4 = sl 1 (A 0 (fd 63)) := by rw [← h63]; subst_vars; rfl
      refine And.intro (fun h7 => ?_) (fun h7 => ?_)
      · exact hK _ i1 j1 f1 (HB_k (by assumption : HB B l) rfl rfl (by omega))
      · exact Exists.intro ((256 - l) * 1000 + 900 - 0 * 20 : Int).toNat (And.intro (by omega) (And.intro i1 (And.intro j1 (And.intro f1 (And.intro rfl (And.intro (by omega) (And.intro (by omega) (And.intro (by omega) (And.intro (by first | assumption | exact HB_u (by assumption : HB B l) rfl (by omega : _ = 8 * l + a) (by omega) (by omega) (by omega)) (And.intro (by omega) (And.intro (by omega) (by first | exact HA_0 _ _ | exact HA_u (by assumption : HA B l a) rfl (by omega) (by omega) (by omega)))))))))))))
    · refine fun l a B mm hB hz hI => ?_
      obtain ⟨i1, j1, f1, hm, c0, c1, c2, c3, c4, c5, c6⟩ := hI
      obtain ⟨hz_l, hz_a, _⟩ := hz
      have hc_0_63 := ivf_at j1 2 rfl
      have h63 : B 0 (fd 63) = A 0 (fd 63) := frm_f f1 rfl
      refine fun v8 gv8 e9 => ?_
      have b10 := ivf_at j1 2 rfl
      refine And.intro (fun h11 => ?_) (fun h11 => ?_)
      · refine fun v12 e13 => ?_
        exact And.intro (by omega) (Exists.intro ((256 - v12) * 1000 + 999 : Int).toNat (And.intro (by omega) (And.intro i1 (And.intro j1 (And.intro f1 (And.intro rfl (And.intro (by omega) (And.intro (by omega) (And.intro (by first | omega | (have hsl := sl_bd (b := A 0 (fd 63)) 8 (by decide) (by omega) (by omega); omega)) (by first | exact HB_0 _ | exact HB_n (by assumption : HB B l) (by assumption : HA B l a) (by omega) (by omega)))))))))))
      · refine And.intro (fun h14 => ?_) (fun h14 => ?_)
        · have k15 : qn 1000000000 = 1000000000 := by decide
          exact Exists.intro ((256 - l) * 1000 + 900 - a * 20 - 1 - 0 : Int).toNat (And.intro (by omega) (And.intro i1 (And.intro j1 (And.intro f1 (And.intro rfl (And.intro (by omega) (And.intro (by omega) (And.intro (by omega) (And.intro (by assumption) (And.intro (by omega) (And.intro (by omega) (And.intro (by assumption) (And.intro (by omega) (And.intro (by omega) (And.intro (by omega) (And.intro (by omega) (And.intro (by first | omega | (have q := bc_0 l; omega) | (rw [show 0 = b + 1 by omega]; omega)) (by omega))))))))))))))))))
        · exact Exists.intro ((256 - l) * 1000 + 900 - a * 20 - 1 - 0 : Int).toNat (And.intro (by omega) (And.intro i1 (And.intro j1 (And.intro f1 (And.intro rfl (And.intro (by omega) (And.intro (by omega) (And.intro (by omega) (And.intro (by assumption) (And.intro (by omega) (And.intro (by omega) (And.intro (by assumption) (And.intro (by omega) (And.intro (by omega) (And.intro (by omega) (And.intro (by omega) (And.intro (by first | omega | (have q := bc_0 l; omega) | (rw [show 0 = b + 1 by omega]; omega)) (by omega))))))))))))))))))
    · refine fun l a s b B mm hB hz hI => ?_
      obtain ⟨i1, j1, f1, hm, c0, c1, c2, c3, c4, c5, c6, c7, c8, c9, c10, c11, c12⟩ := hI
      obtain ⟨hz_l, hz_a, hz_s, hz_b, _⟩ := hz
      have hc_0_63 := ivf_at j1 2 rfl
      have h63 : B 0 (fd 63) = A 0 (fd 63) := frm_f f1 rfl
      refine fun v16 gv16 e17 => ?_
      have b18 := ivf_at j1 2 rfl
      refine And.intro (fun h19 => ?_) (fun h19 => ?_)
      · have hsl := sl_bd (b := A 0 (fd 63)) 8 (by decide) (by omega) (by omega)
        have hk2 := k2 (l := l) (n := A 0 (fd 63)) (by omega) (by omega) (by omega) (by omega)
        have hbe : bc l b = bc l (A 0 (fd 63)) := by rw [show b = A 0 (fd 63) by omega]
        have hk3 : l = 0 ∨ 1 ≤ bc l 8 := by by_cases q : l = 0; exact Or.inl q; exact Or.inr (k3 (by omega) (by omega))
        refine fun v20 e21 => ?_
        refine fun v22 e23 => ?_
        refine And.intro (by omega) (fun A24 e25 => ?_)
        have i26 := iva_st i1 e25 trivial
        have j27 := ivf_sa j1 e25 rfl
        have f28 := frm_s f1 e25 rfl
        have t29 : A24 0 (fd 63) = B 0 (fd 63) := (congrFun (st_a e25 rfl) _)
        refine fun v30 e31 => ?_
        exact And.intro (by omega) (Exists.intro ((256 - l) * 1000 + 900 - v30 * 20 : Int).toNat (And.intro (by omega) (And.intro i26 (And.intro j27 (And.intro f28 (And.intro rfl (And.intro (by omega) (And.intro (by omega) (And.intro (by omega) (And.intro (by first | assumption | exact HB_u (by assumption : HB B l) (st_u e25) (by omega : _ = 8 * l + a) (by omega) (by omega) (by omega)) (And.intro (by omega) (And.intro (by omega) (by first | exact HA_0 _ _ | exact HA_u (by assumption : HA B l a) (st_u e25) (by omega) (by omega) (by omega))))))))))))))
      · refine fun v32 e33 => ?_
        have h34 := sr_bd (a := l) (b := b) (by omega) (by omega)
        refine fun v35 e36 => ?_
        have h37 := ia_bd (a := v32) (b := 1) (by omega) (by omega)
        have hbt : ia (sr l b) 1 = v35 := by subst_vars; rfl
        have hbc : bc l (b + 1) = bc l b + ia (sr l b) 1 := bc_s (by omega)
        refine And.intro (fun h38 => ?_) (fun h38 => ?_)
        · refine fun v39 e40 => ?_
          exact And.intro (by omega) (Exists.intro ((256 - l) * 1000 + 900 - a * 20 - 1 - v39 : Int).toNat (And.intro (by omega) (And.intro i1 (And.intro j1 (And.intro f1 (And.intro rfl (And.intro (by omega) (And.intro (by omega) (And.intro (by omega) (And.intro (by assumption) (And.intro (by omega) (And.intro (by omega) (And.intro (by assumption) (And.intro (by omega) (And.intro (by omega) (And.intro (by omega) (And.intro (by omega) (And.intro (by first | omega | (have q := bc_0 l; omega) | (rw [show v39 = b + 1 by omega]; omega)) (by omega)))))))))))))))))))
        · refine And.intro (by omega) (fun v41 gv41 e42 => ?_)
          have b43 := iva_at i1 21 rfl (i := a) (by omega) (by omega)
          refine And.intro (by omega) (fun v44 gv44 e45 => ?_)
          have b46 := iva_at i1 21 rfl (i := b) (by omega) (by omega)
          refine Exists.intro v41 (Exists.intro v44 (And.intro rfl (And.intro (And.intro (by omega) (And.intro (by omega) (And.intro (by omega) (by omega)))) (fun r47 g48 g49 => ?_))))
          refine fun v50 e51 => ?_
          have h52 := sl_bd (b := b) 7 (by decide) (by omega) (by omega)
          obtain ⟨u9, hu9⟩ : ∃ u, u = v50 := ⟨_, rfl⟩
          have hu8 : u9 = sl 1 b := by rw [hu9]; assumption
          refine fun v53 e54 => ?_
          have hw9 : v53 = ix u9 (-1) := by rw [hu9]; assumption
          refine fun v55 e56 => ?_
          have h57 := ia_bd (a := v53) (b := l) (by omega) (by omega)
          rw [ia_comm] at h57
          have hk1 := k1 hu8 hw9 (by assumption : v55 = ia l _) (by omega) (by omega) (by omega) (by omega) (by omega)
          obtain ⟨v9, hv9⟩ : ∃ v, v = v55 := ⟨_, rfl⟩
          refine fun v58 e59 => ?_
          refine fun v60 e61 => ?_
          have hr9 := HB_at (x := v9) (a := b) (j := v60) (by assumption : HB B l) (by omega) (by omega) (by omega) (by omega) (by omega)
          refine And.intro (by omega) (fun v62 gv62 e63 => ?_)
          refine fun v64 e65 => ?_
          refine And.intro (by omega) (Exists.intro s (Exists.intro v64 (And.intro rfl (fun r66 g68 g67 => ?_))))
          refine fun v69 e70 => ?_
          exact And.intro (by omega) (Exists.intro ((256 - l) * 1000 + 900 - a * 20 - 1 - v69 : Int).toNat (And.intro (by omega) (And.intro i1 (And.intro j1 (And.intro f1 (And.intro rfl (And.intro (by omega) (And.intro (by omega) (And.intro (by omega) (And.intro (by assumption) (And.intro (by omega) (And.intro (by omega) (And.intro (by assumption) (And.intro (by omega) (And.intro (by omega) (And.intro (by omega) (And.intro (by omega) (And.intro (by first | omega | (have q := bc_0 l; omega) | (rw [show v69 = b + 1 by omega]; omega)) (by omega)))))))))))))))))))
  · exact Exists.intro ((256 - 0) * 1000 + 999 : Int).toNat (And.intro i0 (And.intro j0 (And.intro f0 (And.intro rfl (And.intro (by omega) (And.intro (by omega) (And.intro (by first | omega | (have hsl := sl_bd (b := A 0 (fd 63)) 8 (by decide) (by omega) (by omega); omega)) (by first | exact HB_0 _ | exact HB_n (by assumption : HB B l) (by assumption : HA B l a) (by omega) (by omega)))))))))
def sM_work : qS := fun as A K => ∃ w c x h : Int, as = [rf 0, ni w, ni c, nl x, ni h] ∧ (iva IM A ∧ ivf JM A) ∧ (∀ A' : qA, iva IM A' → ivf JM A' → frm [50, 53] [(0, 63)] A A' → ∀ r : Int, rng r → K (some (ni r)) A')
theorem okM_work : okM LM 4 223 sM_work := by
  refine qmeth [] false [(145, sM_in), (217, sM_lays), (222, sM_laysHours), (149, sM_at), (218, sM_mayBe), (221, sM_way)] 151 rfl ⟨okM_in.le (by decide), ⟨okM_lays.le (by decide), ⟨okM_laysHours.le (by decide), ⟨okM_at.le (by decide), ⟨okM_mayBe.le (by decide), ⟨okM_way.le (by decide), trivial⟩⟩⟩⟩⟩⟩ ?_
  rintro _ A K hA has ⟨w, c, x, h, rfl, ⟨i0, j0⟩, hK⟩
  have rg_w : rng w := has (ni w) (by simp)
  have rg_c : rng c := has (ni c) (by simp)
  have rg_x : rngL x := has (nl x) (by simp)
  have rg_h : rng h := has (ni h) (by simp)
  have f0 := frm_0 [50, 53] [(0, 63)] A
  have hb_0_63 := ivf_at j0 2 rfl
  refine ⟨Nat.le_of_ble_eq_true rfl, [(27, [(0, 2, 0), (1, 0, 0), (2, 0, 0), (5, 0, 0), (6, 0, 0)], fun zs B nn => match zs with | [l1, l2, l5, k] => iva IM B ∧ ivf JM B ∧ frm [50, 53] [(0, 63)] A B ∧ nn = (10000 - k : Int).toNat ∧ (l1 = w) ∧ (l2 = c) ∧ (l5 = h) ∧ (1 ≤ w) ∧ (w ≤ 99) ∧ (0 ≤ c) ∧ (c ≤ 7) ∧ (0 ≤ k) ∧ (k ≤ 8) | _ => False), (60, [(0, 2, 0), (5, 0, 0), (6, 0, 0), (7, 0, 0), (8, 0, 0), (9, 0, 0)], fun zs B nn => match zs with | [l5, l, f, s, p] => iva IM B ∧ ivf JM B ∧ frm [50, 53] [(0, 63)] A B ∧ nn = ((8 - p) * 100 + 90 : Int).toNat ∧ (l5 = h) ∧ (0 ≤ l) ∧ (l ≤ 255) ∧ (l < sl 1 (B 0 (fd 63))) ∧ (0 ≤ f) ∧ (f ≤ 47) ∧ (0 ≤ p) ∧ (bc l 8 = B 0 (fd 63) - p) ∧ (HB B (sl 1 (B 0 (fd 63)))) ∧ (p ≤ B 0 (fd 63)) | _ => False), (70, [(0, 2, 0), (5, 0, 0), (6, 0, 0), (7, 0, 0), (8, 0, 0), (9, 0, 0), (10, 0, 0), (11, 0, 0), (12, 0, 0)], fun zs B nn => match zs with | [l5, l, f, s, p, g, t, b] => iva IM B ∧ ivf JM B ∧ frm [50, 53] [(0, 63)] A B ∧ nn = ((8 - p) * 100 + 80 - b : Int).toNat ∧ (l5 = h) ∧ (0 ≤ l) ∧ (l ≤ 255) ∧ (l < sl 1 (B 0 (fd 63))) ∧ (0 ≤ f) ∧ (f ≤ 47) ∧ (0 ≤ p) ∧ (bc l 8 = B 0 (fd 63) - p) ∧ (HB B (sl 1 (B 0 (fd 63)))) ∧ (p < B 0 (fd 63)) ∧ (0 ≤ b) ∧ (b ≤ B 0 (fd 63)) ∧ ((-1) ≤ g) ∧ (g < B 0 (fd 63)) ∧ (t ≤ 1000000000) ∧ (g = -1 → t = 1000000000) ∧ (g = -1 → bc l b = 0) ∧ (0 ≤ g → ia (sr l g) 1 = 1) | _ => False)], ?_, ?_⟩
  · refine ⟨⟨rfl, ?_⟩, ⟨rfl, ?_⟩, ⟨rfl, ?_⟩, trivial⟩
    · refine fun l1 l2 l5 k B mm hB hz hI => ?_
      obtain ⟨i1, j1, f1, hm, c0, c1, c2, c3, c4, c5, c6, c7, c8⟩ := hI
      obtain ⟨hz_l1, hz_l2, hz_l5, hz_k, _⟩ := hz
      have hc_0_63 := ivf_at j1 2 rfl
      refine fun v26 gv26 e27 => ?_
      have b28 := ivf_at j1 2 rfl
      refine And.intro (fun h29 => ?_) (fun h29 => ?_)
      · refine And.intro rfl (And.intro (And.intro i1 j1) (fun A30 i31 j32 f33 g34 => ?_))
        have f35 := frm_c f1 f33 rfl
        have t36 : A30 0 (fd 63) = B 0 (fd 63) := (frm_f f33 rfl)
        refine fun v37 gv37 e38 => ?_
        have b39 := ivf_at j32 2 rfl
        have q40 : v26 = v37 := (e38.trans ((frm_f f33 rfl).trans e27.symm)).symm
        subst q40
        obtain ⟨n9, hn9⟩ : ∃ n, n = v26 := ⟨_, rfl⟩
        have hn8 : n9 = A30 0 (fd 63) := by omega
        refine fun v41 e42 => ?_
        have h43 := sl_bd (b := v26) 8 (by decide) (by omega) (by omega)
        have hs8 : v41 = sl 1 n9 := by rw [hn9]; assumption
        refine fun v44 e45 => ?_
        have hk4 := k4 (n := n9) (v := v44) (by omega) (by omega) (by omega)
        rw [hn8] at hk4
        refine Exists.intro l2 (Exists.intro 0 (And.intro rfl (And.intro (And.intro (by omega) (And.intro (by omega) (And.intro (by omega) (by omega)))) ?_)))
        exact And.intro (by omega) (Exists.intro ((8 - 0) * 100 + 90 : Int).toNat (And.intro (by omega) (And.intro i31 (And.intro j32 (And.intro f35 (And.intro rfl (And.intro (by omega) (And.intro (by omega) (And.intro (by omega) (And.intro (by omega) (And.intro (by omega) (And.intro (by omega) (And.intro (by omega) (And.intro (by omega) (And.intro (by first | assumption | (rw [show A30 0 (fd 63) = _ by assumption]; exact g34)) (by omega))))))))))))))))
      · refine And.intro (by omega) (fun v46 gv46 e47 => ?_)
        have b48 := iva_at i1 21 rfl (i := k) (by omega) (by omega)
        refine Exists.intro l1 (Exists.intro v46 (And.intro rfl (And.intro (And.intro i1 (And.intro j1 (And.intro (by omega) (And.intro (by omega) (And.intro (by omega) (by omega)))))) (fun r49 g50 g51 => ?_))))
        refine And.intro (fun h52 => ?_) (fun h52 => ?_)
        · refine fun v53 e54 => ?_
          exact And.intro (by omega) (Exists.intro (10000 - v53 : Int).toNat (And.intro (by omega) (And.intro i1 (And.intro j1 (And.intro f1 (And.intro rfl (And.intro (by omega) (And.intro (by omega) (And.intro (by omega) (And.intro (by omega) (And.intro (by omega) (And.intro (by omega) (And.intro (by omega) (And.intro (by omega) (by omega)))))))))))))))
        · exact hK _ i1 j1 f1 _ (by first | exact wI_rng _ | omega | (exact (hA _ _).2 rfl))
    · refine fun l5 l f s p B mm hB hz hI => ?_
      obtain ⟨i1, j1, f1, hm, c0, c1, c2, c3, c4, c5, c6, c7, c8, c9⟩ := hI
      obtain ⟨hz_l5, hz_l, hz_f, hz_s, hz_p, _⟩ := hz
      have hc_0_63 := ivf_at j1 2 rfl
      refine fun v55 gv55 e56 => ?_
      have b57 := ivf_at j1 2 rfl
      refine And.intro (fun h58 => ?_) (fun h58 => ?_)
      · exact hK _ i1 j1 f1 _ (by first | exact wI_rng _ | omega | (exact (hA _ _).2 rfl))
      · have k59 : qn 1000000000 = 1000000000 := by decide
        exact Exists.intro ((8 - p) * 100 + 80 - 0 : Int).toNat (And.intro (by omega) (And.intro i1 (And.intro j1 (And.intro f1 (And.intro rfl (And.intro (by omega) (And.intro (by omega) (And.intro (by omega) (And.intro (by omega) (And.intro (by omega) (And.intro (by omega) (And.intro (by omega) (And.intro (by omega) (And.intro (by first | assumption | (rw [show B 0 (fd 63) = _ by assumption]; exact hE)) (And.intro (by omega) (And.intro (by omega) (And.intro (by omega) (And.intro (by omega) (And.intro (by omega) (And.intro (by omega) (And.intro (by omega) (And.intro (by first | omega | (have q := bc_0 l; omega) | (rw [show 0 = b + 1 by omega]; omega)) (by first | omega | assumption | (intro _; omega))))))))))))))))))))))))
    · refine fun l5 l f s p g t b B mm hB hz hI => ?_
      obtain ⟨i1, j1, f1, hm, c0, c1, c2, c3, c4, c5, c6, c7, c8, c9, c10, c11, c12, c13, c14, c15, c16, c17⟩ := hI
      obtain ⟨hz_l5, hz_l, hz_f, hz_s, hz_p, hz_g, hz_t, hz_b, _⟩ := hz
      have hc_0_63 := ivf_at j1 2 rfl
      refine fun v60 gv60 e61 => ?_
      have b62 := ivf_at j1 2 rfl
      refine And.intro (fun h63 => ?_) (fun h63 => ?_)
      · have hk2 := k2 (l := l) (n := B 0 (fd 63)) (by omega) (by omega) (by omega) (by omega)
        have hbe : bc l b = bc l (B 0 (fd 63)) := by rw [show b = B 0 (fd 63) by omega]
        refine And.intro (fun h64 => ?_) (fun h64 => ?_)
        · refine And.intro (fun h65 => ?_) (fun h65 => ?_)
          · refine And.intro (by omega) (fun v66 gv66 e67 => ?_)
            have b68 := iva_at i1 21 rfl (i := g) (by omega) (by omega)
            refine fun v69 e70 => ?_
            have h71 := sl_bd (b := g) 7 (by decide) (by omega) (by omega)
            obtain ⟨u9, hu9⟩ : ∃ u, u = v69 := ⟨_, rfl⟩
            have hu8 : u9 = sl 1 g := by rw [hu9]; assumption
            refine fun v72 e73 => ?_
            have hw9 : v72 = ix u9 (-1) := by rw [hu9]; assumption
            refine fun v74 e75 => ?_
            have h76 := ia_bd (a := v72) (b := l) (by omega) (by omega)
            rw [ia_comm] at h76
            have hk1 := k1 hu8 hw9 (by assumption : v74 = ia l _) (by omega) (by omega) (by omega) (by omega) (by omega)
            refine fun v77 e78 => ?_
            exact And.intro (by omega) (Exists.intro ((8 - v77) * 100 + 90 : Int).toNat (And.intro (by omega) (And.intro i1 (And.intro j1 (And.intro f1 (And.intro rfl (And.intro (by omega) (And.intro (by omega) (And.intro (by omega) (And.intro (by omega) (And.intro (by omega) (And.intro (by omega) (And.intro (by omega) (And.intro (by omega) (And.intro (by first | assumption | (rw [show B 0 (fd 63) = _ by assumption]; exact hE)) (by omega))))))))))))))))
          · refine And.intro (by omega) (fun v79 gv79 e80 => ?_)
            have b81 := iva_at i1 21 rfl (i := g) (by omega) (by omega)
            exact hK _ i1 j1 f1 _ (by first | exact wI_rng _ | omega | (exact (hA _ _).2 rfl))
        · refine And.intro (fun h82 => ?_) (fun h82 => ?_)
          · refine And.intro (by omega) (fun v83 gv83 e84 => ?_)
            have b85 := iva_at i1 21 rfl (i := g) (by omega) (by omega)
            refine fun v86 e87 => ?_
            have h88 := sl_bd (b := g) 7 (by decide) (by omega) (by omega)
            obtain ⟨u9, hu9⟩ : ∃ u, u = v86 := ⟨_, rfl⟩
            have hu8 : u9 = sl 1 g := by rw [hu9]; assumption
            refine fun v89 e90 => ?_
            have hw9 : v89 = ix u9 (-1) := by rw [hu9]; assumption
            refine fun v91 e92 => ?_
            have h93 := ia_bd (a := v89) (b := l) (by omega) (by omega)
            rw [ia_comm] at h93
            have hk1 := k1 hu8 hw9 (by assumption : v91 = ia l _) (by omega) (by omega) (by omega) (by omega) (by omega)
            refine fun v94 e95 => ?_
            exact And.intro (by omega) (Exists.intro ((8 - v94) * 100 + 90 : Int).toNat (And.intro (by omega) (And.intro i1 (And.intro j1 (And.intro f1 (And.intro rfl (And.intro (by omega) (And.intro (by omega) (And.intro (by omega) (And.intro (by omega) (And.intro (by omega) (And.intro (by omega) (And.intro (by omega) (And.intro (by omega) (And.intro (by first | assumption | (rw [show B 0 (fd 63) = _ by assumption]; exact hE)) (by omega))))))))))))))))
          · refine And.intro (by omega) (fun v96 gv96 e97 => ?_)
            have b98 := iva_at i1 21 rfl (i := g) (by omega) (by omega)
            exact hK _ i1 j1 f1 _ (by first | exact wI_rng _ | omega | (exact (hA _ _).2 rfl))
      · refine fun v99 e100 => ?_
        have h101 := sr_bd (a := l) (b := b) (by omega) (by omega)
        refine fun v102 e103 => ?_
        have h104 := ia_bd (a := v99) (b := 1) (by omega) (by omega)
        have hbt : ia (sr l b) 1 = v102 := by subst_vars; rfl
        have hbc : bc l (b + 1) = bc l b + ia (sr l b) 1 := bc_s (by omega)
        refine And.intro (fun h105 => ?_) (fun h105 => ?_)
        · refine And.intro (by omega) (fun v106 gv106 e107 => ?_)
          have b108 := iva_at i1 21 rfl (i := b) (by omega) (by omega)
          refine Exists.intro f (Exists.intro v106 (And.intro rfl (And.intro (And.intro (by omega) (And.intro (by omega) (And.intro (by omega) (by omega)))) (fun r109 g110 g111 => ?_))))
          refine fun v112 e113 => ?_
          have h114 := sl_bd (b := b) 7 (by decide) (by omega) (by omega)
          obtain ⟨u9, hu9⟩ : ∃ u, u = v112 := ⟨_, rfl⟩
          have hu8 : u9 = sl 1 b := by rw [hu9]; assumption
          refine fun v115 e116 => ?_
          have hw9 : v115 = ix u9 (-1) := by rw [hu9]; assumption
          refine fun v117 e118 => ?_
          have h119 := ia_bd (a := v115) (b := l) (by omega) (by omega)
          rw [ia_comm] at h119
          have hk1 := k1 hu8 hw9 (by assumption : v117 = ia l _) (by omega) (by omega) (by omega) (by omega) (by omega)
          obtain ⟨v9, hv9⟩ : ∃ v, v = v117 := ⟨_, rfl⟩
          refine fun v120 e121 => ?_
          refine fun v122 e123 => ?_
          have hr9 := HB_at (x := v9) (a := b) (j := v122) (by assumption : HB B (sl 1 (B 0 (fd 63)))) (by omega) (by omega) (by omega) (by omega) (by omega)
          refine And.intro (by omega) (fun v124 gv124 e125 => ?_)
          refine fun v126 e127 => ?_
          refine And.intro (by omega) (And.intro (fun h128 => ?_) (fun h128 => ?_))
          · refine fun v129 e130 => ?_
            exact And.intro (by omega) (And.intro (by omega) (Exists.intro ((8 - p) * 100 + 80 - v129 : Int).toNat (And.intro (by omega) (And.intro i1 (And.intro j1 (And.intro f1 (And.intro rfl (And.intro (by omega) (And.intro (by omega) (And.intro (by omega) (And.intro (by omega) (And.intro (by omega) (And.intro (by omega) (And.intro (by omega) (And.intro (by omega) (And.intro (by first | assumption | (rw [show B 0 (fd 63) = _ by assumption]; exact hE)) (And.intro (by omega) (And.intro (by omega) (And.intro (by omega) (And.intro (by omega) (And.intro (by omega) (And.intro (by omega) (And.intro (by omega) (And.intro (by first | omega | (have q := bc_0 l; omega) | (rw [show v129 = b + 1 by omega]; omega)) (by first | omega | assumption | (intro _; omega))))))))))))))))))))))))))
          · refine fun v131 e132 => ?_
            exact And.intro (by omega) (Exists.intro ((8 - p) * 100 + 80 - v131 : Int).toNat (And.intro (by omega) (And.intro i1 (And.intro j1 (And.intro f1 (And.intro rfl (And.intro (by omega) (And.intro (by omega) (And.intro (by omega) (And.intro (by omega) (And.intro (by omega) (And.intro (by omega) (And.intro (by omega) (And.intro (by omega) (And.intro (by first | assumption | (rw [show B 0 (fd 63) = _ by assumption]; exact hE)) (And.intro (by omega) (And.intro (by omega) (And.intro (by omega) (And.intro (by omega) (And.intro (by omega) (And.intro (by omega) (And.intro (by omega) (And.intro (by first | omega | (have q := bc_0 l; omega) | (rw [show v131 = b + 1 by omega]; omega)) (by first | omega | assumption | (intro _; omega)))))))))))))))))))))))))
        · refine fun v133 e134 => ?_
          exact And.intro (by omega) (Exists.intro ((8 - p) * 100 + 80 - v133 : Int).toNat (And.intro (by omega) (And.intro i1 (And.intro j1 (And.intro f1 (And.intro rfl (And.intro (by omega) (And.intro (by omega) (And.intro (by omega) (And.intro (by omega) (And.intro (by omega) (And.intro (by omega) (And.intro (by omega) (And.intro (by omega) (And.intro (by first | assumption | (rw [show B 0 (fd 63) = _ by assumption]; exact hE)) (And.intro (by omega) (And.intro (by omega) (And.intro (by omega) (And.intro (by omega) (And.intro (by omega) (And.intro (by omega) (And.intro (by omega) (And.intro (by first | omega | (have q := bc_0 l; omega) | (rw [show v133 = b + 1 by omega]; omega)) (by first | omega | assumption | (intro _; omega)))))))))))))))))))))))))
  · refine Exists.intro w (Exists.intro 1 (Exists.intro 99 (And.intro rfl (And.intro (fun h1 => ?_) (fun h1 => ?_)))))
    · refine And.intro (fun h2 => by exfalso; omega) (fun h2 => ?_)
      refine Exists.intro c (Exists.intro 0 (Exists.intro 7 (And.intro rfl (And.intro (fun h3 => ?_) (fun h3 => ?_)))))
      · refine And.intro (fun h4 => by exfalso; omega) (fun h4 => ?_)
        refine Exists.intro x (Exists.intro 8 (And.intro rfl (And.intro (And.intro i0 (And.intro j0 (And.intro (by omega) (by omega)))) (fun A5 i6 j7 f8 r9 g11 g12 g10 => ?_))))
        have f13 := frm_c f0 f8 rfl
        have t14 := ivf_at j7 2 rfl
        refine And.intro (fun h15 => ?_) (fun h15 => ?_)
        · exact hK _ i6 j7 f13 _ (by first | exact wI_rng _ | omega | (exact (hA _ _).2 rfl))
        · refine fun v16 gv16 e17 => ?_
          have b18 := ivf_at j7 2 rfl
          refine fun v19 e20 => ?_
          refine And.intro (by omega) (Exists.intro h (Exists.intro (-1) (Exists.intro v19 (And.intro rfl (And.intro (fun h21 => ?_) (fun h21 => ?_))))))
          · refine And.intro (fun h22 => ?_) (fun h22 => by exfalso; omega)
            exact Exists.intro (10000 - 0 : Int).toNat (And.intro i6 (And.intro j7 (And.intro f13 (And.intro rfl (And.intro (by omega) (And.intro (by omega) (And.intro (by omega) (And.intro (by omega) (And.intro (by omega) (And.intro (by omega) (And.intro (by omega) (And.intro (by omega) (by omega)))))))))))))
          · refine And.intro (fun h23 => by exfalso; omega) (fun h23 => ?_)
            exact hK _ i6 j7 f13 _ (by first | exact wI_rng _ | omega | (exact (hA _ _).2 rfl))
      · refine And.intro (fun h24 => ?_) (fun h24 => by exfalso; omega)
        exact hK _ i0 j0 f0 _ (by first | exact wI_rng _ | omega | (exact (hA _ _).2 rfl))
    · refine And.intro (fun h25 => ?_) (fun h25 => by exfalso; omega)
      exact hK _ i0 j0 f0 _ (by first | exact wI_rng _ | omega | (exact (hA _ _).2 rfl))
