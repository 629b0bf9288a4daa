/-! what is mended first -/
def hoN (c : Int → Int) (d : Int) : Nat → Int
  | 0 => 0
  | n + 1 => hoN c d n + (if ia (sr d n) 1 = 1 then 1 + c n % 6 else 0)
def ho (c : Int → Int) (d n : Int) : Int := hoN c d n.toNat
theorem ho_s {c : Int → Int} {d k : Int} (h : 0 ≤ k) : ho c d (k + 1) = ho c d k + (if ia (sr d k) 1 = 1 then 1 + c k % 6 else 0) := by
  obtain ⟨n, rfl⟩ := Int.eq_ofNat_of_zero_le h
  have e : ((n : Int) + 1).toNat = n + 1 := by omega
  have e2 : ((n : Nat) : Int).toNat = n := by omega
  unfold ho
  rw [e, e2]
  rfl
def IX (A : qA) (k : Int) : Prop := (∀ i j, 0 ≤ i → i < j → j < A 0 (fd 63) → A 50 i < A 50 j) ∧ ∀ i, 0 ≤ i → i < A 0 (fd 63) → A 50 i < k
theorem IX_k {A A' : qA} {k k' : Int} (h : IX A k) (h50 : A' 50 = A 50) (hn : A' 0 (fd 63) = A 0 (fd 63)) (hk : k ≤ k') : IX A' k' := by
  unfold IX at h ⊢
  rw [h50, hn]
  exact ⟨h.1, fun i a b => by have := h.2 i a b; omega⟩
theorem IX_u {A A' : qA} {k k' j v : Int} (h : IX A k) (h50 : A' 50 = (fun i : Int => if i = j then v else A 50 i)) (hj : j = A 0 (fd 63)) (hv : v = k) (hk : k' = k + 1) (hn : A' 0 (fd 63) = A 0 (fd 63) + 1) : IX A' k' := by
  refine ⟨fun a b a0 ab b1 => ?_, fun a a0 a1 => ?_⟩
  · by_cases hb : b = j
    · rw [hb, up_e h50, up_n h50 (by omega)]
      have := h.2 a a0 (by omega)
      omega
    · rw [up_n h50 hb, up_n h50 (by omega)]
      exact h.1 a b a0 ab (by omega)
  · by_cases hb : a = j
    · rw [hb, up_e h50]; omega
    · rw [up_n h50 hb]
      have := h.2 a a0 (by omega)
      omega
theorem IX_0 {A : qA} (h : A 0 (fd 63) = 0) : IX A 0 := ⟨fun _ _ _ _ _ => by omega, fun _ _ _ => by omega⟩
def CB (A : qA) (d q : Int) : Prop := ia (sr d q) 1 ≠ 1 ∧ ∀ j, 0 ≤ j → j < A 0 (fd 63) → ¬ (A 50 j = A 50 q - 1 ∧ A 50 j % 6 ≠ 5 ∧ ia (sr d j) 1 = 0)
def CO (A : qA) (d q : Int) : Int := (ho (A 50) d (A 0 (fd 63)) + (1 + A 50 q % 6)) * A 21 (qd (A 50 q) 6) + A 63 (io d (sl 1 q))
theorem CB_k {A A' : qA} {d q : Int} (h50 : A' 50 = A 50) (hn : A' 0 (fd 63) = A 0 (fd 63)) : CB A' d q ↔ CB A d q := by
  unfold CB
  rw [h50, hn]
theorem CO_k {A A' : qA} {d q : Int} (h50 : A' 50 = A 50) (h21 : A' 21 = A 21) (hn : A' 0 (fd 63) = A 0 (fd 63)) (h63 : A' 63 (io d (sl 1 q)) = A 63 (io d (sl 1 q))) : CO A' d q = CO A d q := by
  unfold CO
  rw [h50, h21, hn, h63]
theorem kb5 : ∀ n < 9, ∀ q < n, ia (sr (sl 1 ((n : Nat) : Int) - 1) ((q : Nat) : Int)) 1 = 1 := by decide +kernel
theorem kb6 : ∀ q < 8, ∀ d < 256, ia (sr ((d : Nat) : Int) ((q : Nat) : Int)) 1 ≠ 1 → (d : Int) < io (d : Int) (sl 1 (q : Int)) ∧ bc (io (d : Int) (sl 1 (q : Int))) 8 = bc (d : Int) 8 + 1 := by decide +kernel
theorem kb8 : ∀ n < 9, ∀ d < 2 ^ n, ∀ q < n, io ((d : Nat) : Int) (sl 1 ((q : Nat) : Int)) < sl 1 ((n : Nat) : Int) := by decide +kernel
def lcN (d : Int) : Nat → Nat → Nat
  | 0, k => k
  | f + 1, k => if ia (sr d k) 1 = 1 then lcN d f (k + 1) else k
theorem kb7 : ∀ n < 9, ∀ d < 2 ^ n - 1, lcN ((d : Nat) : Int) 8 0 < n ∧ ia (sr (d : Int) ((lcN (d : Int) 8 0 : Nat) : Int)) 1 ≠ 1 ∧ ∀ j < lcN (d : Int) 8 0, ia (sr (d : Int) ((j : Nat) : Int)) 1 ≠ 0 := by decide +kernel
def AL (A : qA) (t : Int) : Prop := t = sl 1 (A 0 (fd 63)) - 1
theorem AL_k {A A' : qA} {t : Int} (h : AL A t) (hn : A' 0 (fd 63) = A 0 (fd 63)) : AL A' t := by
  unfold AL at h ⊢
  rw [hn]
  exact h
theorem AL_p {A : qA} {t : Int} (h : AL A t) (n0 : 0 ≤ A 0 (fd 63)) (n1 : A 0 (fd 63) ≤ 8) : t + 1 = ((2 ^ (A 0 (fd 63)).toNat : Nat) : Int) ∧ 0 ≤ t ∧ t ≤ 255 := by
  unfold AL at h
  have h2 := sl_bd (b := A 0 (fd 63)) 8 (by decide) n0 (by omega)
  have h3 := sl_1 n0 (by omega)
  exact ⟨by omega, by omega, by omega⟩
/-- the set with one more -/
theorem CB_io {A : qA} {t d q : Int} (h : CB A d q) (ht : AL A t) (n0 : 0 ≤ A 0 (fd 63)) (n1 : A 0 (fd 63) ≤ 8) (d0 : 0 ≤ d) (d1 : d ≤ t) (q0 : 0 ≤ q) (q1 : q < A 0 (fd 63)) : d < t ∧ d < io d (sl 1 q) ∧ io d (sl 1 q) ≤ t ∧ bc (io d (sl 1 q)) 8 = bc d 8 + 1 := by
  have hp := AL_p ht n0 n1
  have h6 := kb6 q.toNat (by omega) d.toNat (by omega)
  have h8 := kb8 (A 0 (fd 63)).toNat (by omega) d.toNat (by omega) q.toNat (by omega)
  rw [show ((d.toNat : Nat) : Int) = d by omega, show ((q.toNat : Nat) : Int) = q by omega] at h6 h8
  rw [show (((A 0 (fd 63)).toNat : Nat) : Int) = A 0 (fd 63) by omega] at h8
  have h7 := h6 h.1
  unfold AL at ht
  exact ⟨by omega, h7.1, by omega, h7.2⟩
theorem io_ge {d y : Int} (d0 : 0 ≤ d) (d1 : d < 256) (y0 : 0 ≤ y) (y1 : y < 256) : d ≤ io d y := by
  rw [io_nat ⟨by omega, by omega⟩ ⟨by omega, by omega⟩ d0 y0]
  have := @Nat.left_le_or d.toNat y.toNat
  omega
/-- some cell can be next -/
theorem CB_ex {A : qA} {t d k : Int} (hi : IX A k) (ht : AL A t) (n0 : 0 ≤ A 0 (fd 63)) (n1 : A 0 (fd 63) ≤ 8) (d0 : 0 ≤ d) (d1 : d < t) : ∃ q, 0 ≤ q ∧ q < A 0 (fd 63) ∧ CB A d q := by
  have hp := AL_p ht n0 n1
  have h7 := kb7 (A 0 (fd 63)).toNat (by omega) d.toNat (by omega)
  rw [show ((d.toNat : Nat) : Int) = d by omega] at h7
  obtain ⟨a, b, c⟩ := h7
  refine ⟨(lcN d 8 0 : Nat), by omega, by omega, b, fun j j0 j1 hq => ?_⟩
  by_cases hj : j < (lcN d 8 0 : Nat)
  · have := c j.toNat (by omega)
    rw [show ((j.toNat : Nat) : Int) = j by omega] at this
    exact this hq.2.2
  · by_cases he : j = (lcN d 8 0 : Nat)
    · rw [he] at hq; omega
    · have := hi.1 (lcN d 8 0 : Nat) j (by omega) (by omega) j1
      omega
def GD (A : qA) (t d : Int) : Prop := (0 ≤ A 63 d ∧ A 63 d ≤ 6000 * (t - d)) ∧ (d < t → ∃ q, 0 ≤ q ∧ q < A 0 (fd 63) ∧ CB A d q ∧ A 63 d = CO A d q)
def GDs (A : qA) (t l : Int) : Prop := ∀ d, l ≤ d → d ≤ t → GD A t d
def IN (A : qA) (t d k : Int) : Prop := (0 ≤ A 63 d ∧ A 63 d ≤ 1000000000) ∧ ((d = t ∧ A 63 d = 0) ∨ (d < t ∧ ((A 63 d = 1000000000 ∧ ∀ i, 0 ≤ i → i < k → ¬ CB A d i) ∨ (∃ q, 0 ≤ q ∧ q < k ∧ CB A d q ∧ A 63 d = CO A d q ∧ A 63 d ≤ 6000 * (t - d)))))
theorem GDs_u {A A' : qA} {t d l j v : Int} (h : GDs A t l) (h63 : A' 63 = (fun i : Int => if i = j then v else A 63 i)) (hj : j = d) (hl : l = d + 1) (d0 : 0 ≤ d) (t1 : t ≤ 255) (n1 : A 0 (fd 63) ≤ 8) (h50 : A' 50 = A 50) (h21 : A' 21 = A 21) (hn : A' 0 (fd 63) = A 0 (fd 63)) : GDs A' t l := by
  intro e e0 e1
  have hg := h e e0 e1
  unfold GD at hg ⊢
  have he := up_n h63 (i := e) (by omega)
  rw [he, hn]
  refine ⟨hg.1, fun q => ?_⟩
  obtain ⟨q, q0, q1, q2, q3⟩ := hg.2 q
  have hs := sl_bd (b := q) 7 (by decide) q0 (by omega)
  have hs2 : sl 1 q < 256 := by
    have : ((2 ^ 7 : Nat) : Int) = 128 := by decide
    omega
  have hio := io_ge (d := e) (y := sl 1 q) (by omega) (by omega) (by omega) hs2
  refine ⟨q, q0, q1, (CB_k h50 hn).mpr q2, ?_⟩
  rw [CO_k h50 h21 hn (up_n h63 (by omega))]
  exact q3
theorem IN_0 {A A' : qA} {t d j v k : Int} (h63 : A' 63 = (fun i : Int => if i = j then v else A 63 i)) (hj : j = d) (hk : k = 0) (hv : (d = t ∧ v = 0) ∨ (d < t ∧ v = 1000000000)) : IN A' t d k := by
  subst hj hk
  unfold IN
  rw [up_e h63]
  refine ⟨by omega, ?_⟩
  rcases hv with q | q
  · exact Or.inl q
  · exact Or.inr ⟨q.1, Or.inl ⟨q.2, fun i a b => by omega⟩⟩
theorem IN_n {A : qA} {t d k k' : Int} (h : IN A t d k) (hn : ¬ CB A d k) (hk : k' = k + 1) : IN A t d k' := by
  subst hk
  refine ⟨h.1, ?_⟩
  rcases h.2 with q | ⟨q, z⟩
  · exact Or.inl q
  · refine Or.inr ⟨q, ?_⟩
    rcases z with ⟨z, w⟩ | ⟨i, i0, i1, i2⟩
    · refine Or.inl ⟨z, fun i a b => ?_⟩
      by_cases hi : i = k
      · rw [hi]; exact hn
      · exact w i a (by omega)
    · exact Or.inr ⟨i, i0, by omega, i2⟩
theorem IN_s {A A' : qA} {t d k k' j v : Int} (h : IN A t d k) (h63 : A' 63 = (fun i : Int => if i = j then v else A 63 i)) (hj : j = d) (k0 : 0 ≤ k) (hcb : CB A d k) (hlt : d < t) (d0 : 0 ≤ d) (t1 : t ≤ 255) (hk8 : k ≤ 7) (hc0 : 0 ≤ CO A d k) (hc1 : CO A d k ≤ 6000 * (t - d)) (hio : d < io d (sl 1 k)) (hv : (v = A 63 d ∧ A 63 d < CO A d k) ∨ (v = CO A d k ∧ CO A d k ≤ A 63 d)) (h50 : A' 50 = A 50) (h21 : A' 21 = A 21) (hn : A' 0 (fd 63) = A 0 (fd 63)) (hk : k' = k + 1) : IN A' t d k' := by
  subst hj hk
  unfold IN
  rw [up_e h63]
  have hck : CO A' j k = CO A j k := CO_k h50 h21 hn (up_n h63 (by omega))
  have hcb' : CB A' j k := (CB_k h50 hn).mpr hcb
  have h1 := h.1
  refine ⟨by omega, Or.inr ⟨hlt, Or.inr ?_⟩⟩
  rcases hv with ⟨q, z⟩ | ⟨q, z⟩
  · rcases h.2 with w | ⟨_, w⟩
    · omega
    · rcases w with ⟨w, _⟩ | ⟨i, i0, i1, i2, i3, i4⟩
      · omega
      · by_cases hio2 : io j (sl 1 i) = j
        · exfalso
          have h6 : CO A j i = CO A j i := rfl
          have hp := kb6 i.toNat (by omega) j.toNat (by omega)
          rw [show ((j.toNat : Nat) : Int) = j by omega, show ((i.toNat : Nat) : Int) = i by omega] at hp
          have := (hp i2.1).1
          omega
        · exact ⟨i, i0, by omega, (CB_k h50 hn).mpr i2, by rw [CO_k h50 h21 hn (up_n h63 hio2), q]; exact i3, by omega⟩
  · exact ⟨k, k0, by omega, hcb', by rw [hck]; exact q, by omega⟩
theorem GDs_n {A : qA} {t d l l' n k : Int} (h : GDs A t l) (hl : l = d + 1) (hl' : l' = d) (hi : IN A t d n) (hn : n ≤ A 0 (fd 63)) (hn2 : A 0 (fd 63) ≤ n) (hc : IX A k) (ht : AL A t) (n0 : 0 ≤ A 0 (fd 63)) (n1 : A 0 (fd 63) ≤ 8) (d0 : 0 ≤ d) : GDs A t l' := by
  intro e e0 e1
  by_cases he : e = d
  · subst he
    rcases hi.2 with ⟨q, z⟩ | ⟨q, z⟩
    · exact ⟨by omega, fun w => by omega⟩
    · rcases z with ⟨_, w⟩ | ⟨i, i0, i1, i2, i3, i4⟩
      · obtain ⟨q, q0, q1, q2⟩ := CB_ex hc ht n0 n1 d0 q
        exact absurd q2 (w q q0 (by omega))
      · exact ⟨⟨hi.1.1, i4⟩, fun _ => ⟨i, i0, by omega, i2, i3⟩⟩
  · exact h e (by omega) e1
theorem GDs_0 {A : qA} {t l : Int} (hl : t < l) : GDs A t l := fun d a b => by omega
theorem GDs_e {A : qA} {t l : Int} (h : GDs A t l) (ht : AL A t) (hl : l ≤ 0) : GDs A (sl 1 (A 0 (fd 63)) - 1) 0 := by
  unfold AL at ht
  rw [← ht]
  exact fun d a b => h d (by omega) b
def EX (A : qA) (d q : Int) : Prop := ∃ i, q ≤ i ∧ i < A 0 (fd 63) ∧ CB A d i ∧ A 63 d = CO A d i
theorem EX_0 {A : qA} {t d q : Int} (h : GDs A t 0) (d0 : 0 ≤ d) (d1 : d < t) (hq : q = 0) : EX A d q := by
  obtain ⟨i, i0, i1, i2, i3⟩ := (h d d0 (by omega)).2 d1
  exact ⟨i, by omega, i1, i2, i3⟩
theorem EX_1 {A : qA} {d q q' : Int} (h : EX A d q) (hn : ¬ CB A d q) (hq : q' = q + 1) : EX A d q' := by
  obtain ⟨i, i0, i1, i2, i3⟩ := h
  by_cases he : i = q
  · rw [he] at i2; exact absurd i2 hn
  · exact ⟨i, by omega, i1, i2, i3⟩
theorem EX_2 {A : qA} {d q q' : Int} (h : EX A d q) (hn : CO A d q ≠ A 63 d) (hq : q' = q + 1) : EX A d q' := by
  obtain ⟨i, i0, i1, i2, i3⟩ := h
  by_cases he : i = q
  · rw [he] at i3; exact absurd i3.symm hn
  · exact ⟨i, by omega, i1, i2, i3⟩
theorem EX_b {A : qA} {d q : Int} (h : EX A d q) : q < A 0 (fd 63) := by
  obtain ⟨i, i0, i1, i2, i3⟩ := h
  omega
theorem AL_0 (A : qA) : AL A (sl 1 (A 0 (fd 63)) - 1) := rfl
theorem bc00 : bc 0 8 = 0 := by decide +kernel
def sM_lays2 : qS := fun as A K => ∃ x t : Int, as = [rf 0, nl x, ni t] ∧ (iva IM A ∧ ivf JM A ∧ 0 ≤ t ∧ t ≤ 8) ∧ (∀ A' : qA, iva IM A' → ivf JM A' → frm [50] [(0, 63)] A A' → ∀ r : Int, 0 ≤ r → r ≤ 1 → (r = 0 ∨ A' 0 (fd 63) ≤ t) → (r = 0 ∨ IX A' 48) → K (some (ni r)) A')
theorem okM_lays2 : okM LM 1 217 sM_lays2 := by
  refine qmeth [] false [] 55 rfl trivial ?_
  rintro _ A K hA has ⟨x, t, rfl, ⟨i0, j0, p1, p2⟩, hK⟩
  have rg_x : rngL x := has (nl x) (by simp)
  have rg_t : rng t := has (ni t) (by simp)
  have f0 := frm_0 [50] [(0, 63)] A
  have hb_0_63 := ivf_at j0 2 rfl
  refine ⟨Nat.le_of_ble_eq_true rfl, [(15, [(0, 2, 0), (1, 1, 0), (3, 0, 0), (4, 0, 0)], fun zs B nn => match zs with | [l1, l3, k] => iva IM B ∧ ivf JM B ∧ frm [50] [(0, 63)] A B ∧ nn = (48 - k : Int).toNat ∧ (l1 = x) ∧ (l3 = t) ∧ (0 ≤ k) ∧ (k ≤ 48) ∧ (B 0 (fd 63) ≤ t) ∧ (IX B k) | _ => False)], ?_, ?_⟩
  · refine ⟨⟨rfl, ?_⟩, trivial⟩
    · refine fun l1 l3 k B mm hB hz hI => ?_
      obtain ⟨i1, j1, f1, hm, c0, c1, c2, c3, c4, c5⟩ := hI
      obtain ⟨hz_l1, hz_l3, hz_k, _⟩ := hz
      have hc_0_63 := ivf_at j1 2 rfl
      refine And.intro (fun h17 => ?_) (fun h17 => ?_)
      · exact And.intro (by omega) (hK _ i1 j1 f1 _ (by omega) (by omega) (by omega) (Or.inr (IX_k (by assumption : IX B k) rfl rfl (by omega))))
      · refine fun v18 e19 => ?_
        refine fun (v20 : Int) (e21 : v20 = 1) => ?_
        refine fun v22 e23 => ?_
        refine fun (v24 : Int) (e25 : v24 = 0) => ?_
        refine fun v26 e27 => ?_
        refine And.intro (fun h28 => ?_) (fun h28 => ?_)
        · refine fun v29 gv29 e30 => ?_
          have b31 := ivf_at j1 2 rfl
          refine And.intro (fun h32 => ?_) (fun h32 => ?_)
          · refine fun v33 gv33 e34 => ?_
            have b35 := ivf_at j1 2 rfl
            have q36 : v29 = v33 := (e34.trans e30.symm).symm
            subst q36
            refine And.intro (by omega) (fun A37 e38 => ?_)
            have i39 := iva_st i1 e38 (And.intro (by omega) trivial)
            have j40 := ivf_sa j1 e38 rfl
            have f41 := frm_s f1 e38 rfl
            have t42 : A37 0 (fd 63) = B 0 (fd 63) := (congrFun (st_a e38 rfl) _)
            refine fun v43 gv43 e44 => ?_
            have b45 := ivf_at j40 2 rfl
            have q46 : v29 = v43 := (e44.trans ((congrFun (st_a e38 rfl) _).trans e34.symm)).symm
            subst q46
            refine fun v47 e48 => ?_
            refine And.intro (by omega) (fun A49 e50 => ?_)
            have i51 := iva_sf i39 e50 rfl
            have j52 := ivf_st j40 e50 (And.intro (by omega) trivial)
            have f53 := frm_sf f41 e50 rfl
            have t54 := st_v e50
            refine fun v55 e56 => ?_
            exact And.intro (by omega) (Exists.intro (48 - v55 : Int).toNat (And.intro (by omega) (And.intro i51 (And.intro j52 (And.intro f53 (And.intro rfl (And.intro (by omega) (And.intro (by omega) (And.intro (by omega) (And.intro (by omega) (And.intro (by omega) (by first | exact IX_0 (by omega) | exact IX_u (by assumption : IX B k) (Eq.trans (st_a e50 rfl) (st_u e38)) (by omega) (by omega) (by omega) (by omega) | exact IX_k (by assumption : IX B k) rfl rfl (by omega)))))))))))))
          · exact And.intro (by omega) (hK _ i1 j1 f1 _ (by omega) (by omega) (by first | assumption | omega | simp_all) (by first | assumption | omega | simp_all))
        · refine fun v57 e58 => ?_
          exact And.intro (by omega) (Exists.intro (48 - v57 : Int).toNat (And.intro (by omega) (And.intro i1 (And.intro j1 (And.intro f1 (And.intro rfl (And.intro (by omega) (And.intro (by omega) (And.intro (by omega) (And.intro (by omega) (And.intro (by omega) (by first | exact IX_0 (by omega) | exact IX_u (by assumption : IX B k) rfl (by omega) (by omega) (by omega) (by omega) | exact IX_k (by assumption : IX B k) rfl rfl (by omega)))))))))))))
  · refine fun (v3 : Int) (e4 : v3 = 0) => ?_
    refine fun v5 e6 => ?_
    refine And.intro (fun h7 => ?_) (fun h7 => ?_)
    · exact And.intro (by omega) (hK _ i0 j0 f0 _ (by omega) (by omega) (by first | assumption | omega | simp_all) (by first | assumption | omega | simp_all))
    · refine fun v8 e9 => ?_
      refine And.intro (fun h10 => ?_) (fun h10 => ?_)
      · refine fun A11 e12 => ?_
        have i13 := iva_sf i0 e12 rfl
        have j14 := ivf_st j0 e12 (And.intro (by omega) trivial)
        have f15 := frm_sf f0 e12 rfl
        have t16 := st_v e12
        exact Exists.intro (48 - 0 : Int).toNat (And.intro i13 (And.intro j14 (And.intro f15 (And.intro rfl (And.intro (by omega) (And.intro (by omega) (And.intro (by omega) (And.intro (by omega) (And.intro (by omega) (by first | exact IX_0 (by omega) | exact IX_u (by assumption : IX B k) hK (by omega) (by omega) (by omega) (by omega) | exact IX_k (by assumption : IX B k) rfl rfl (by omega)))))))))))
      · exact And.intro (by omega) (hK _ i0 j0 f0 _ (by omega) (by omega) (by first | assumption | omega | simp_all) (by first | assumption | omega | simp_all))
def sM_takesOf2 : qS := fun as A K => ∃ c : Int, as = [ni c] ∧ (0 ≤ c ∧ c ≤ 47) ∧ (K (some (ni (1 + c % 6))) A)
theorem okM_takesOf2 : okM LM 1 237 sM_takesOf2 := by
  refine qmeth [] false [] 12 rfl trivial ?_
  rintro _ A K hA has ⟨c, rfl, ⟨p1, p2⟩, hK⟩
  have rg_c : rng c := has (ni c) (by simp)
  refine ⟨Nat.le_of_ble_eq_true rfl, [], trivial, ?_⟩
  refine And.intro (by omega) (fun v3 e4 => ?_)
  have h5 := qm_nn (a := c) (b := 6) (by omega)
  refine fun v6 e7 => ?_
  refine And.intro (by omega) (?_)
  have hq : v6 = 1 + c % 6 := by omega
  rw [hq]
  exact hK
def sM_hoursOf2 : qS := fun as A K => ∃ d : Int, as = [rf 0, ni d] ∧ (iva IM A ∧ ivf JM A ∧ 0 ≤ d ∧ d ≤ 255) ∧ (∀ r : Int, 0 ≤ r → r ≤ 48 → (r = ho (A 50) d (A 0 (fd 63))) → K (some (ni r)) A)
theorem okM_hoursOf2 : okM LM 2 238 sM_hoursOf2 := by
  refine qmeth [] false [(237, sM_takesOf2)] 35 rfl ⟨okM_takesOf2.le (by decide), trivial⟩ ?_
  rintro _ A K hA has ⟨d, rfl, ⟨i0, j0, p1, p2⟩, hK⟩
  have rg_d : rng d := has (ni d) (by simp)
  have f0 := frm_0 [] [] A
  have hb_0_63 := ivf_at j0 2 rfl
  refine ⟨Nat.le_of_ble_eq_true rfl, [(4, [(0, 2, 0), (1, 0, 0), (2, 0, 0), (3, 0, 0)], fun zs B nn => match zs with | [l1, s, q] => A = B ∧ nn = (8 - q : Int).toNat ∧ (l1 = d) ∧ (0 ≤ q) ∧ (q ≤ 8) ∧ (q ≤ A 0 (fd 63)) ∧ (0 ≤ s) ∧ (s ≤ 6 * q) ∧ (s = ho (A 50) d q) | _ => False)], ?_, ?_⟩
  · refine ⟨⟨rfl, ?_⟩, trivial⟩
    · refine fun l1 s q B mm hB hz hI => ?_
      obtain ⟨rfl, hm, c0, c1, c2, c3, c4, c5, c6⟩ := hI
      obtain ⟨hz_l1, hz_s, hz_q, _⟩ := hz
      have hc_0_63 := ivf_at j0 2 rfl
      refine fun v3 gv3 e4 => ?_
      have b5 := ivf_at j0 2 rfl
      refine And.intro (fun h6 => ?_) (fun h6 => ?_)
      · exact hK _ (by omega) (by omega) (by rw [show A 0 (fd 63) = q by omega]; assumption)
      · refine fun v7 e8 => ?_
        have h9 := sr_bd (a := l1) (b := q) (by omega) (by omega)
        refine fun v10 e11 => ?_
        have h12 := ia_bd (a := v7) (b := 1) (by omega) (by omega)
        have hbt : ia (sr d q) 1 = v10 := by subst_vars; rfl
        refine And.intro (fun h13 => ?_) (fun h13 => ?_)
        · refine fun v14 e15 => ?_
          refine fun v16 e17 => ?_
          exact And.intro (by omega) (And.intro (by omega) (Exists.intro (8 - v16 : Int).toNat (And.intro (by omega) (And.intro rfl (And.intro rfl (And.intro (by omega) (And.intro (by omega) (And.intro (by omega) (And.intro (by omega) (And.intro (by omega) (And.intro (by omega) (by first | rfl | (rw [show v16 = q + 1 by omega, ho_s (by omega)]; first | (rw [if_pos (by omega)]; omega) | (rw [if_neg (by omega)]; omega))))))))))))))
        · refine And.intro (by omega) (fun v18 gv18 e19 => ?_)
          have b20 := iva_at i0 21 rfl (i := q) (by omega) (by omega)
          refine Exists.intro v18 (And.intro rfl (And.intro (And.intro (by omega) (by omega)) ?_))
          refine fun v21 e22 => ?_
          refine fun v23 e24 => ?_
          exact And.intro (by omega) (And.intro (by omega) (Exists.intro (8 - v23 : Int).toNat (And.intro (by omega) (And.intro rfl (And.intro rfl (And.intro (by omega) (And.intro (by omega) (And.intro (by omega) (And.intro (by omega) (And.intro (by omega) (And.intro (by omega) (by first | rfl | (rw [show v23 = q + 1 by omega, ho_s (by omega)]; first | (rw [if_pos (by omega)]; omega) | (rw [if_neg (by omega)]; omega))))))))))))))
  · exact Exists.intro (8 - 0 : Int).toNat (And.intro rfl (And.intro rfl (And.intro (by omega) (And.intro (by omega) (And.intro (by omega) (And.intro (by omega) (And.intro (by omega) (And.intro (by omega) (by first | rfl | (rw [show 0 = q + 1 by omega, ho_s (by omega)]; first | (rw [if_pos (by omega)]; omega) | (rw [if_neg (by omega)]; omega)))))))))))
def sM_canBeNext2 : qS := fun as A K => ∃ d q : Int, as = [rf 0, ni d, ni q] ∧ (iva IM A ∧ ivf JM A ∧ 0 ≤ d ∧ d ≤ 255 ∧ 0 ≤ q ∧ q ≤ 7) ∧ (∀ r : Int, 0 ≤ r → r ≤ 1 → ((r = 1 ∧ CB A d q) ∨ (r = 0 ∧ ¬ CB A d q)) → K (some (ni r)) A)
theorem okM_canBeNext2 : okM LM 1 239 sM_canBeNext2 := by
  refine qmeth [] false [] 52 rfl trivial ?_
  rintro _ A K hA has ⟨d, q, rfl, ⟨i0, j0, p1, p2, p3, p4⟩, hK⟩
  have rg_d : rng d := has (ni d) (by simp)
  have rg_q : rng q := has (ni q) (by simp)
  have f0 := frm_0 [] [] A
  refine ⟨Nat.le_of_ble_eq_true rfl, [(11, [(0, 2, 0), (1, 0, 0), (2, 0, 0), (3, 0, 0)], fun zs B nn => match zs with | [l1, l2, j] => A = B ∧ nn = (8 - j : Int).toNat ∧ (l1 = d) ∧ (l2 = q) ∧ (0 ≤ j) ∧ (j ≤ 8) ∧ (ia (sr d q) 1 ≠ 1) ∧ (∀ i, 0 ≤ i → i < j → ¬ (A 50 i = A 50 q - 1 ∧ A 50 i % 6 ≠ 5 ∧ ia (sr d i) 1 = 0)) | _ => False)], ?_, ?_⟩
  · refine ⟨⟨rfl, ?_⟩, trivial⟩
    · refine fun l1 l2 j B mm hB hz hI => ?_
      obtain ⟨rfl, hm, c0, c1, c2, c3, c4, c5⟩ := hI
      obtain ⟨hz_l1, hz_l2, hz_j, _⟩ := hz
      have hqq : A 50 l2 = A 50 q := by rw [show l2 = q by omega]
      refine fun v12 gv12 e13 => ?_
      have b14 := ivf_at j0 2 rfl
      refine And.intro (fun h15 => ?_) (fun h15 => ?_)
      · exact And.intro (by omega) (hK _ (by omega) (by omega) (Or.inl ⟨rfl, by assumption, fun i h0 h1 => c5 i h0 (by omega)⟩))
      · refine And.intro (by omega) (fun v16 gv16 e17 => ?_)
        have b18 := iva_at i0 21 rfl (i := j) (by omega) (by omega)
        refine And.intro (by omega) (fun v19 gv19 e20 => ?_)
        have b21 := iva_at i0 21 rfl (i := l2) (by omega) (by omega)
        refine fun v22 e23 => ?_
        refine And.intro (by omega) (And.intro (fun h24 => ?_) (fun h24 => ?_))
        · refine fun v25 e26 => ?_
          exact And.intro (by omega) (Exists.intro (8 - v25 : Int).toNat (And.intro (by omega) (And.intro rfl (And.intro rfl (And.intro (by omega) (And.intro (by omega) (And.intro (by omega) (And.intro (by omega) (And.intro (by omega) (by first | (intro i h0 h1; exfalso; omega) | (intro i h0 h1 hq; by_cases hi : i = j; (subst hi; omega); exact c5 i h0 (by omega) hq)))))))))))
        · refine And.intro (by omega) (fun v27 gv27 e28 => ?_)
          have b29 := iva_at i0 21 rfl (i := j) (by omega) (by omega)
          have q30 : v16 = v27 := (e28.trans e17.symm).symm
          subst q30
          refine And.intro (by omega) (fun v31 e32 => ?_)
          have h33 := qm_nn (a := v16) (b := 6) (by omega)
          refine And.intro (fun h34 => ?_) (fun h34 => ?_)
          · refine fun v35 e36 => ?_
            exact And.intro (by omega) (Exists.intro (8 - v35 : Int).toNat (And.intro (by omega) (And.intro rfl (And.intro rfl (And.intro (by omega) (And.intro (by omega) (And.intro (by omega) (And.intro (by omega) (And.intro (by omega) (by first | (intro i h0 h1; exfalso; omega) | (intro i h0 h1 hq; by_cases hi : i = j; (subst hi; omega); exact c5 i h0 (by omega) hq)))))))))))
          · refine fun v37 e38 => ?_
            have h39 := sr_bd (a := l1) (b := j) (by omega) (by omega)
            refine fun v40 e41 => ?_
            have h42 := ia_bd (a := v37) (b := 1) (by omega) (by omega)
            have hbj : ia (sr d j) 1 = v40 := by subst_vars; rfl
            refine And.intro (fun h43 => ?_) (fun h43 => ?_)
            · refine fun v44 e45 => ?_
              exact And.intro (by omega) (Exists.intro (8 - v44 : Int).toNat (And.intro (by omega) (And.intro rfl (And.intro rfl (And.intro (by omega) (And.intro (by omega) (And.intro (by omega) (And.intro (by omega) (And.intro (by omega) (by first | (intro i h0 h1; exfalso; omega) | (intro i h0 h1 hq; by_cases hi : i = j; (subst hi; omega); exact c5 i h0 (by omega) hq)))))))))))
            · exact And.intro (by omega) (hK _ (by omega) (by omega) (Or.inr ⟨rfl, fun h => h.2 j (by omega) (by omega) ⟨by omega, by omega, by omega⟩⟩))
  · refine fun v5 e6 => ?_
    have h7 := sr_bd (a := d) (b := q) (by omega) (by omega)
    refine fun v8 e9 => ?_
    have h10 := ia_bd (a := v5) (b := 1) (by omega) (by omega)
    have hbt : ia (sr d q) 1 = v8 := by subst_vars; rfl
    refine And.intro (fun h11 => ?_) (fun h11 => ?_)
    · exact Exists.intro (8 - 0 : Int).toNat (And.intro rfl (And.intro rfl (And.intro (by omega) (And.intro (by omega) (And.intro (by omega) (And.intro (by omega) (And.intro (by omega) (by first | (intro i h0 h1; exfalso; omega) | (intro i h0 h1 hq; by_cases hi : i = j; (subst hi; omega); exact hK i h0 (by omega) hq)))))))))
    · exact And.intro (by omega) (hK _ (by omega) (by omega) (Or.inr ⟨rfl, fun h => h.1 (by omega)⟩))
def sM_costBy2 : qS := fun as A K => ∃ d q : Int, as = [rf 0, ni d, ni q] ∧ (iva IM A ∧ ivf JM A ∧ 0 ≤ d ∧ d ≤ 255 ∧ 0 ≤ q ∧ q ≤ 7 ∧ (0 ≤ A 63 (io d (sl 1 q)) ∧ A 63 (io d (sl 1 q)) ≤ 2000000)) ∧ (∀ r : Int, 0 ≤ r → r ≤ 3000000 → (r = CO A d q) → (r ≤ 6000 + A 63 (io d (sl 1 q))) → K (some (ni r)) A)
theorem okM_costBy2 : okM LM 3 240 sM_costBy2 := by
  refine qmeth [] false [(238, sM_hoursOf2), (237, sM_takesOf2)] 35 rfl ⟨okM_hoursOf2.le (by decide), ⟨okM_takesOf2.le (by decide), trivial⟩⟩ ?_
  rintro _ A K hA has ⟨d, q, rfl, ⟨i0, j0, p1, p2, p3, p4, p5⟩, hK⟩
  have rg_d : rng d := has (ni d) (by simp)
  have rg_q : rng q := has (ni q) (by simp)
  have f0 := frm_0 [] [] A
  obtain ⟨v6, e7⟩ : ∃ v, v = A 63 (io d (sl 1 q)) := ⟨_, rfl⟩
  rw [← e7] at p5
  refine ⟨Nat.le_of_ble_eq_true rfl, [], trivial, ?_⟩
  refine Exists.intro d (And.intro rfl (And.intro (And.intro i0 (And.intro j0 (And.intro (by omega) (by omega)))) (fun r8 g10 g11 g9 => ?_)))
  refine And.intro (by omega) (fun v12 gv12 e13 => ?_)
  have b14 := iva_at i0 21 rfl (i := q) (by omega) (by omega)
  refine Exists.intro v12 (And.intro rfl (And.intro (And.intro (by omega) (by omega)) ?_))
  refine fun v15 e16 => ?_
  refine And.intro (by omega) (fun v17 gv17 e18 => ?_)
  have b19 := iva_at i0 21 rfl (i := q) (by omega) (by omega)
  have q20 : v12 = v17 := (e18.trans e13.symm).symm
  subst q20
  refine And.intro (by omega) (fun v21 e22 => ?_)
  have h23 := qd_nn (a := v12) (b := 6) (by omega)
  refine And.intro (by omega) (fun v24 gv24 e25 => ?_)
  have b26 := iva_at i0 9 rfl (i := v21) (by omega) (by omega)
  refine fun v27 e28 => ?_
  have h29 := mul_bd (a := v15) (b := v24) (p := 54) (q := 99) (by omega) (by omega) (by omega) (by omega)
  rw [← e28] at h29
  refine fun v30 e31 => ?_
  have h32 := sl_bd (b := q) 7 (by decide) (by omega) (by omega)
  refine fun v33 e34 => ?_
  have h35 := io_bd (a := d) (b := v30) 8 (by decide) (by omega) (by omega) (by omega) (by omega)
  have hix : A 63 v33 = A 63 (io d (sl 1 q)) := by rw [show v33 = io d (sl 1 q) by (subst_vars; rfl)]
  refine And.intro (by omega) (fun v36 gv36 e37 => ?_)
  refine fun v38 e39 => ?_
  exact And.intro (by omega) (hK _ (by omega) (by omega) (by first | omega | (unfold CO; subst_vars; rfl)) (by first | omega | (unfold CO; subst_vars; rfl)))
def sM_mended : qS := fun as A K => ∃ x h : Int, as = [rf 0, nl x, ni h] ∧ (iva IM A ∧ ivf JM A) ∧ (∀ A' : qA, iva IM A' → ivf JM A' → frm [50, 63] [(0, 63)] A A' → ∀ r : Int, rng r → K (some (ni r)) A')
theorem okM_mended : okM LM 4 241 sM_mended := by
  refine qmeth [] false [(217, sM_lays2), (145, sM_in), (239, sM_canBeNext2), (240, sM_costBy2), (146, sM_less)] 142 rfl ⟨okM_lays2.le (by decide), ⟨okM_in.le (by decide), ⟨okM_canBeNext2.le (by decide), ⟨okM_costBy2.le (by decide), ⟨okM_less.le (by decide), trivial⟩⟩⟩⟩⟩ ?_
  rintro _ A K hA has ⟨x, h, rfl, ⟨i0, j0⟩, hK⟩
  have rg_x : rngL x := has (nl x) (by simp)
  have rg_h : rng h := has (ni h) (by simp)
  have f0 := frm_0 [50, 63] [(0, 63)] A
  have hb_0_63 := ivf_at j0 2 rfl
  refine ⟨Nat.le_of_ble_eq_true rfl, [(17, [(0, 2, 0), (3, 0, 0), (4, 0, 0)], fun zs B nn => match zs with | [l3, q] => iva IM B ∧ ivf JM B ∧ frm [50, 63] [(0, 63)] A B ∧ nn = (90000000 - q : Int).toNat ∧ (l3 = h) ∧ (0 ≤ q) ∧ (q ≤ 8) ∧ (IX B 48) ∧ ((-1) ≤ h) ∧ (h < B 0 (fd 63)) | _ => False), (42, [(0, 2, 0), (3, 0, 0), (4, 0, 0), (5, 0, 0)], fun zs B nn => match zs with | [l3, t, d] => iva IM B ∧ ivf JM B ∧ frm [50, 63] [(0, 63)] A B ∧ nn = ((d + 1) * 100 + 50000 + 50 : Int).toNat ∧ (l3 = h) ∧ (0 ≤ t) ∧ (t ≤ 255) ∧ (AL B t) ∧ (IX B 48) ∧ ((-1) ≤ h) ∧ (h < B 0 (fd 63)) ∧ ((-1) ≤ d) ∧ (d ≤ t) ∧ (GDs B t (d + 1)) | _ => False), (94, [(0, 2, 0), (3, 0, 0), (5, 0, 0), (6, 0, 0)], fun zs B nn => match zs with | [l3, d, p] => iva IM B ∧ ivf JM B ∧ frm [50, 63] [(0, 63)] A B ∧ nn = ((10 - p) * 100 : Int).toNat ∧ (l3 = h) ∧ (0 ≤ d) ∧ (d ≤ 255) ∧ (d < sl 1 (B 0 (fd 63))) ∧ (0 ≤ p) ∧ (bc d 8 = p) ∧ ((-1) ≤ h) ∧ (h < B 0 (fd 63)) ∧ (GDs B (sl 1 (B 0 (fd 63)) - 1) 0) ∧ (p ≤ 9) | _ => False), (56, [(0, 2, 0), (3, 0, 0), (4, 0, 0), (5, 0, 0), (6, 0, 0)], fun zs B nn => match zs with | [l3, t, d, q] => iva IM B ∧ ivf JM B ∧ frm [50, 63] [(0, 63)] A B ∧ nn = ((d + 1) * 100 + 50000 + 40 - q : Int).toNat ∧ (l3 = h) ∧ (0 ≤ t) ∧ (t ≤ 255) ∧ (AL B t) ∧ (IX B 48) ∧ ((-1) ≤ h) ∧ (h < B 0 (fd 63)) ∧ (0 ≤ d) ∧ (d ≤ t) ∧ (0 ≤ q) ∧ (q ≤ B 0 (fd 63)) ∧ (GDs B t (d + 1)) ∧ (IN B t d q) | _ => False), (99, [(0, 2, 0), (3, 0, 0), (5, 0, 0), (6, 0, 0), (7, 0, 0)], fun zs B nn => match zs with | [l3, d, p, q] => iva IM B ∧ ivf JM B ∧ frm [50, 63] [(0, 63)] A B ∧ nn = ((10 - p) * 100 - 1 - q : Int).toNat ∧ (l3 = h) ∧ (0 ≤ d) ∧ (d ≤ 255) ∧ (d < sl 1 (B 0 (fd 63))) ∧ (0 ≤ p) ∧ (bc d 8 = p) ∧ ((-1) ≤ h) ∧ (h < B 0 (fd 63)) ∧ (GDs B (sl 1 (B 0 (fd 63)) - 1) 0) ∧ (p ≤ h) ∧ (0 ≤ q) ∧ (q ≤ 7) ∧ (EX B d q) | _ => False)], ?_, ?_⟩
  · refine ⟨⟨rfl, ?_⟩, ⟨rfl, ?_⟩, ⟨rfl, ?_⟩, ⟨rfl, ?_⟩, ⟨rfl, ?_⟩, trivial⟩
    · refine fun l3 q B mm hB hz hI => ?_
      obtain ⟨i1, j1, f1, hm, c0, c1, c2, c3, c4, c5⟩ := hI
      obtain ⟨hz_l3, hz_q, _⟩ := hz
      have hc_0_63 := ivf_at j1 2 rfl
      refine fun v21 gv21 e22 => ?_
      have b23 := ivf_at j1 2 rfl
      refine And.intro (fun h24 => ?_) (fun h24 => ?_)
      · refine fun v25 gv25 e26 => ?_
        have b27 := ivf_at j1 2 rfl
        have q28 : v21 = v25 := (e26.trans e22.symm).symm
        subst q28
        obtain ⟨n9, hn9⟩ : ∃ n, n = v21 := ⟨_, rfl⟩
        have hn8 : n9 = B 0 (fd 63) := by omega
        refine fun v29 e30 => ?_
        have h31 := sl_bd (b := v21) 8 (by decide) (by omega) (by omega)
        have hs8 : v29 = sl 1 n9 := by rw [hn9]; assumption
        refine fun v32 e33 => ?_
        have hk4 := k4 (n := n9) (v := v32) (by omega) (by omega) (by omega)
        have hal : AL B v32 := by unfold AL; rw [← hn8]; omega
        exact And.intro (by omega) (And.intro (by omega) (Exists.intro ((v32 + 1) * 100 + 50000 + 50 : Int).toNat (And.intro (by omega) (And.intro i1 (And.intro j1 (And.intro f1 (And.intro rfl (And.intro (by omega) (And.intro (by omega) (And.intro (by omega) (And.intro (by first | assumption | exact AL_k (by assumption : AL B t) (by omega)) (And.intro (by first | assumption | exact IX_k (by assumption : IX B 48) rfl (by omega) (by omega)) (And.intro (by omega) (And.intro (by omega) (And.intro (by omega) (And.intro (by omega) (by first | exact GDs_0 (by omega) | exact GDs_n (by assumption : GDs B t (d + 1)) rfl (by omega) (by assumption : IN B t d q) (by omega) (by omega) (by assumption : IX B 48) (by assumption : AL B t) (by omega) (by omega) (by omega))))))))))))))))))
      · refine And.intro (by omega) (fun v34 gv34 e35 => ?_)
        have b36 := iva_at i1 21 rfl (i := q) (by omega) (by omega)
        refine And.intro (by omega) (fun v37 gv37 e38 => ?_)
        have b39 := iva_at i1 0 rfl (i := v34) (by omega) (by omega)
        refine And.intro (fun h40 => ?_) (fun h40 => ?_)
        · refine fun v41 e42 => ?_
          exact And.intro (by omega) (Exists.intro (90000000 - v41 : Int).toNat (And.intro (by omega) (And.intro i1 (And.intro j1 (And.intro f1 (And.intro rfl (And.intro (by omega) (And.intro (by omega) (And.intro (by omega) (And.intro (by first | assumption | exact Or.resolve_left hE (by omega)) (And.intro (by omega) (by omega))))))))))))
        · exact hK _ i1 j1 f1 _ (by first | exact wI_rng _ | omega | (exact (hA _ _).2 rfl))
    · refine fun l3 t d B mm hB hz hI => ?_
      obtain ⟨i1, j1, f1, hm, c0, c1, c2, c3, c4, c5, c6, c7, c8, c9⟩ := hI
      obtain ⟨hz_l3, hz_t, hz_d, _⟩ := hz
      have hc_0_63 := ivf_at j1 2 rfl
      refine And.intro (fun h43 => ?_) (fun h43 => ?_)
      · refine And.intro (fun h44 => ?_) (fun h44 => ?_)
        · have hsl := sl_bd (b := B 0 (fd 63)) 8 (by decide) (by omega) (by omega)
          have hgl : GDs B (sl 1 (B 0 (fd 63)) - 1) 0 := GDs_e (by assumption : GDs B t (d + 1)) (by assumption : AL B t) (by omega)
          have hb0 := bc00
          exact Exists.intro ((10 - 0) * 100 : Int).toNat (And.intro (by omega) (And.intro i1 (And.intro j1 (And.intro f1 (And.intro rfl (And.intro (by omega) (And.intro (by omega) (And.intro (by omega) (And.intro (by omega) (And.intro (by omega) (And.intro (by omega) (And.intro (by omega) (And.intro (by omega) (And.intro (by assumption) (by omega)))))))))))))))
        · refine And.intro (by omega) (fun v45 gv45 e46 => ?_)
          exact hK _ i1 j1 f1 _ (by first | exact wI_rng _ | omega | (exact (hA _ _).2 rfl))
      · refine And.intro (fun h47 => ?_) (fun h47 => ?_)
        · have k48 : qn 1000000000 = 1000000000 := by decide
          refine And.intro (by omega) (fun A49 e50 => ?_)
          have i51 := iva_st i1 e50 trivial
          have j52 := ivf_sa j1 e50 rfl
          have f53 := frm_s f1 e50 rfl
          have t54 : A49 0 (fd 63) = B 0 (fd 63) := (congrFun (st_a e50 rfl) _)
          exact Exists.intro ((d + 1) * 100 + 50000 + 40 - 0 : Int).toNat (And.intro (by omega) (And.intro i51 (And.intro j52 (And.intro f53 (And.intro rfl (And.intro (by omega) (And.intro (by omega) (And.intro (by omega) (And.intro (by first | assumption | exact AL_k (by assumption : AL B t) (by omega)) (And.intro (by first | assumption | exact IX_k (by assumption : IX B 48) (st_a e50 rfl) (by omega) (by omega)) (And.intro (by omega) (And.intro (by omega) (And.intro (by omega) (And.intro (by omega) (And.intro (by omega) (And.intro (by omega) (And.intro (by first | assumption | exact GDs_u (by assumption : GDs B t (d + 1)) (st_u e50) (by omega) rfl (by omega) (by omega) (by omega) (st_a e50 rfl) (st_a e50 rfl) (by omega)) (by first | exact IN_n (by assumption : IN B t d q) (by rcases hE with ⟨z, _⟩ | ⟨_, z⟩; exfalso; omega; exact z) (by omega) | exact IN_s (by assumption : IN B t d q) (st_u e50) (by omega) (by omega) hcb (by omega) (by omega) (by omega) (by omega) (by omega) (by omega) (by omega) (by omega) (st_a e50 rfl) (st_a e50 rfl) (by omega) (by omega) | exact IN_0 (st_u e50) (by omega) (by omega) (by omega)))))))))))))))))))
        · refine And.intro (by omega) (fun A55 e56 => ?_)
          have i57 := iva_st i1 e56 trivial
          have j58 := ivf_sa j1 e56 rfl
          have f59 := frm_s f1 e56 rfl
          have t60 : A55 0 (fd 63) = B 0 (fd 63) := (congrFun (st_a e56 rfl) _)
          exact Exists.intro ((d + 1) * 100 + 50000 + 40 - 0 : Int).toNat (And.intro (by omega) (And.intro i57 (And.intro j58 (And.intro f59 (And.intro rfl (And.intro (by omega) (And.intro (by omega) (And.intro (by omega) (And.intro (by first | assumption | exact AL_k (by assumption : AL B t) (by omega)) (And.intro (by first | assumption | exact IX_k (by assumption : IX B 48) (st_a e56 rfl) (by omega) (by omega)) (And.intro (by omega) (And.intro (by omega) (And.intro (by omega) (And.intro (by omega) (And.intro (by omega) (And.intro (by omega) (And.intro (by first | assumption | exact GDs_u (by assumption : GDs B t (d + 1)) (st_u e56) (by omega) rfl (by omega) (by omega) (by omega) (st_a e56 rfl) (st_a e56 rfl) (by omega)) (by first | exact IN_n (by assumption : IN B t d q) (by rcases hE with ⟨z, _⟩ | ⟨_, z⟩; exfalso; omega; exact z) (by omega) | exact IN_s (by assumption : IN B t d q) (st_u e56) (by omega) (by omega) hcb (by omega) (by omega) (by omega) (by omega) (by omega) (by omega) (by omega) (by omega) (st_a e56 rfl) (st_a e56 rfl) (by omega) (by omega) | exact IN_0 (st_u e56) (by omega) (by omega) (by omega)))))))))))))))))))
    · refine fun l3 d p B mm hB hz hI => ?_
      obtain ⟨i1, j1, f1, hm, c0, c1, c2, c3, c4, c5, c6, c7, c8, c9⟩ := hI
      obtain ⟨hz_l3, hz_d, hz_p, _⟩ := hz
      have hc_0_63 := ivf_at j1 2 rfl
      refine And.intro (fun h61 => ?_) (fun h61 => ?_)
      · exact hK _ i1 j1 f1 _ (by first | exact wI_rng _ | omega | (exact (hA _ _).2 rfl))
      · have hk4 := k4 (n := B 0 (fd 63)) (v := sl 1 (B 0 (fd 63)) - 1) (by omega) (by omega) rfl
        have hne : d ≠ sl 1 (B 0 (fd 63)) - 1 := fun z => by rw [← z] at hk4; omega
        exact Exists.intro ((10 - p) * 100 - 1 - 0 : Int).toNat (And.intro (by omega) (And.intro i1 (And.intro j1 (And.intro f1 (And.intro rfl (And.intro (by omega) (And.intro (by omega) (And.intro (by omega) (And.intro (by omega) (And.intro (by omega) (And.intro (by omega) (And.intro (by omega) (And.intro (by omega) (And.intro (by assumption) (And.intro (by omega) (And.intro (by omega) (And.intro (by first | omega | (have q9 := EX_b (EX_1 (by assumption : EX B d q) (by rcases hE with ⟨z, _⟩ | ⟨_, z⟩; exfalso; omega; exact z) rfl); omega) | (have q9 := EX_b (EX_2 (by assumption : EX B d q) (by omega) rfl); omega)) (by first | exact EX_0 (by assumption : GDs B (sl 1 (B 0 (fd 63)) - 1) 0) (by omega) (by omega) rfl | exact EX_1 (by assumption : EX B d q) (by rcases hE with ⟨z, _⟩ | ⟨_, z⟩; exfalso; omega; exact z) (by omega) | exact EX_2 (by assumption : EX B d q) (by omega) (by omega)))))))))))))))))))
    · refine fun l3 t d q B mm hB hz hI => ?_
      obtain ⟨i1, j1, f1, hm, c0, c1, c2, c3, c4, c5, c6, c7, c8, c9, c10, c11, c12⟩ := hI
      obtain ⟨hz_l3, hz_t, hz_d, hz_q, _⟩ := hz
      have hc_0_63 := ivf_at j1 2 rfl
      refine fun v62 gv62 e63 => ?_
      have b64 := ivf_at j1 2 rfl
      refine And.intro (fun h65 => ?_) (fun h65 => ?_)
      · refine fun v66 e67 => ?_
        exact And.intro (by omega) (Exists.intro ((v66 + 1) * 100 + 50000 + 50 : Int).toNat (And.intro (by omega) (And.intro i1 (And.intro j1 (And.intro f1 (And.intro rfl (And.intro (by omega) (And.intro (by omega) (And.intro (by omega) (And.intro (by first | assumption | exact AL_k (by assumption : AL B t) (by omega)) (And.intro (by first | assumption | exact IX_k (by assumption : IX B 48) rfl (by omega) (by omega)) (And.intro (by omega) (And.intro (by omega) (And.intro (by omega) (And.intro (by omega) (by first | exact GDs_0 (by omega) | exact GDs_n (by assumption : GDs B t (d + 1)) rfl (by omega) (by assumption : IN B t d q) (by omega) (by omega) (by assumption : IX B 48) (by assumption : AL B t) (by omega) (by omega) (by omega)))))))))))))))))
      · refine Exists.intro d (Exists.intro q (And.intro rfl (And.intro (And.intro i1 (And.intro j1 (And.intro (by omega) (And.intro (by omega) (And.intro (by omega) (by omega)))))) (fun r68 g70 g71 g69 => ?_))))
        refine And.intro (fun h72 => ?_) (fun h72 => ?_)
        · refine fun v73 e74 => ?_
          exact And.intro (by omega) (Exists.intro ((d + 1) * 100 + 50000 + 40 - v73 : Int).toNat (And.intro (by omega) (And.intro i1 (And.intro j1 (And.intro f1 (And.intro rfl (And.intro (by omega) (And.intro (by omega) (And.intro (by omega) (And.intro (by first | assumption | exact AL_k (by assumption : AL B t) (by omega)) (And.intro (by first | assumption | exact IX_k (by assumption : IX B 48) rfl (by omega) (by omega)) (And.intro (by omega) (And.intro (by omega) (And.intro (by omega) (And.intro (by omega) (And.intro (by omega) (And.intro (by omega) (And.intro (by first | assumption | exact GDs_u (by assumption : GDs B t (d + 1)) rfl (by omega) rfl (by omega) (by omega) (by omega) rfl rfl (by omega)) (by first | exact IN_n (by assumption : IN B t d q) (by rcases g69 with ⟨z, _⟩ | ⟨_, z⟩; exfalso; omega; exact z) (by omega) | exact IN_s (by assumption : IN B t d q) rfl (by omega) (by omega) hcb (by omega) (by omega) (by omega) (by omega) (by omega) (by omega) (by omega) (by omega) rfl rfl (by omega) (by omega) | exact IN_0 rfl (by omega) (by omega) (by omega))))))))))))))))))))
        · have hcb : CB B d q := by rcases g69 with ⟨_, z⟩ | ⟨z, _⟩; exact z; exfalso; omega
          have hio := CB_io hcb (by assumption : AL B t) (by omega) (by omega) (by omega) (by omega) (by omega) (by omega)
          have hgd := ((by assumption : GDs B t (d + 1)) (io d (sl 1 q)) (by omega) (by omega)).1
          refine And.intro (by omega) (fun v75 gv75 e76 => ?_)
          obtain ⟨v77, e78⟩ : ∃ v, v = B 63 (io d (sl 1 q)) := ⟨_, rfl⟩
          refine Exists.intro d (Exists.intro q (And.intro rfl (And.intro (And.intro i1 (And.intro j1 (And.intro (by omega) (And.intro (by omega) (And.intro (by omega) (And.intro (by omega) (by rw [← e78]; omega))))))) (fun r79 g82 g83 g80 g81 => ?_))))
          refine Exists.intro v75 (Exists.intro r79 (And.intro rfl (fun r84 g86 g85 => ?_)))
          refine And.intro (by omega) (fun A87 e88 => ?_)
          have i89 := iva_st i1 e88 trivial
          have j90 := ivf_sa j1 e88 rfl
          have f91 := frm_s f1 e88 rfl
          have t92 : A87 0 (fd 63) = B 0 (fd 63) := (congrFun (st_a e88 rfl) _)
          refine fun v93 e94 => ?_
          exact And.intro (by omega) (Exists.intro ((d + 1) * 100 + 50000 + 40 - v93 : Int).toNat (And.intro (by omega) (And.intro i89 (And.intro j90 (And.intro f91 (And.intro rfl (And.intro (by omega) (And.intro (by omega) (And.intro (by omega) (And.intro (by first | assumption | exact AL_k (by assumption : AL B t) (by omega)) (And.intro (by first | assumption | exact IX_k (by assumption : IX B 48) (st_a e88 rfl) (by omega) (by omega)) (And.intro (by omega) (And.intro (by omega) (And.intro (by omega) (And.intro (by omega) (And.intro (by omega) (And.intro (by omega) (And.intro (by first | assumption | exact GDs_u (by assumption : GDs B t (d + 1)) (st_u e88) (by omega) rfl (by omega) (by omega) (by omega) (st_a e88 rfl) (st_a e88 rfl) (by omega)) (by first | exact IN_n (by assumption : IN B t d q) (by rcases g69 with ⟨z, _⟩ | ⟨_, z⟩; exfalso; omega; exact z) (by omega) | exact IN_s (by assumption : IN B t d q) (st_u e88) (by omega) (by omega) hcb (by omega) (by omega) (by omega) (by omega) (by omega) (by omega) (by omega) (by omega) (st_a e88 rfl) (st_a e88 rfl) (by omega) (by omega) | exact IN_0 (st_u e88) (by omega) (by omega) (by omega))))))))))))))))))))
    · refine fun l3 d p q B mm hB hz hI => ?_
      obtain ⟨i1, j1, f1, hm, c0, c1, c2, c3, c4, c5, c6, c7, c8, c9, c10, c11, c12⟩ := hI
      obtain ⟨hz_l3, hz_d, hz_p, hz_q, _⟩ := hz
      have hc_0_63 := ivf_at j1 2 rfl
      refine Exists.intro d (Exists.intro q (And.intro rfl (And.intro (And.intro i1 (And.intro j1 (And.intro (by omega) (And.intro (by omega) (And.intro (by omega) (by omega)))))) (fun r95 g97 g98 g96 => ?_))))
      refine And.intro (fun h99 => ?_) (fun h99 => ?_)
      · refine fun v100 e101 => ?_
        exact And.intro (by omega) (Exists.intro ((10 - p) * 100 - 1 - v100 : Int).toNat (And.intro (by omega) (And.intro i1 (And.intro j1 (And.intro f1 (And.intro rfl (And.intro (by omega) (And.intro (by omega) (And.intro (by omega) (And.intro (by omega) (And.intro (by omega) (And.intro (by omega) (And.intro (by omega) (And.intro (by omega) (And.intro (by assumption) (And.intro (by omega) (And.intro (by omega) (And.intro (by first | omega | (have q9 := EX_b (EX_1 (by assumption : EX B d q) (by rcases g96 with ⟨z, _⟩ | ⟨_, z⟩; exfalso; omega; exact z) rfl); omega) | (have q9 := EX_b (EX_2 (by assumption : EX B d q) (by omega) rfl); omega)) (by first | exact EX_0 (by assumption : GDs B (sl 1 (B 0 (fd 63)) - 1) 0) (by omega) (by omega) rfl | exact EX_1 (by assumption : EX B d q) (by rcases g96 with ⟨z, _⟩ | ⟨_, z⟩; exfalso; omega; exact z) (by omega) | exact EX_2 (by assumption : EX B d q) (by omega) (by omega))))))))))))))))))))
      · have hsl := sl_bd (b := B 0 (fd 63)) 8 (by decide) (by omega) (by omega)
        have hcb : CB B d q := by rcases g96 with ⟨_, z⟩ | ⟨z, _⟩; exact z; exfalso; omega
        have hqn := EX_b (by assumption : EX B d q)
        have hio := CB_io hcb (AL_0 B) (by omega) (by omega) (by omega) (by omega) (by omega) (by omega)
        have hgd := ((by assumption : GDs B (sl 1 (B 0 (fd 63)) - 1) 0) (io d (sl 1 q)) (by omega) (by omega)).1
        obtain ⟨v102, e103⟩ : ∃ v, v = B 63 (io d (sl 1 q)) := ⟨_, rfl⟩
        refine Exists.intro d (Exists.intro q (And.intro rfl (And.intro (And.intro i1 (And.intro j1 (And.intro (by omega) (And.intro (by omega) (And.intro (by omega) (And.intro (by omega) (by rw [← e103]; omega))))))) (fun r104 g107 g108 g105 g106 => ?_))))
        refine And.intro (by omega) (fun v109 gv109 e110 => ?_)
        refine And.intro (fun h111 => ?_) (fun h111 => ?_)
        · refine And.intro (fun h112 => ?_) (fun h112 => ?_)
          · refine fun v113 e114 => ?_
            have h115 := sl_bd (b := q) 7 (by decide) (by omega) (by omega)
            refine fun v116 e117 => ?_
            have h118 := io_bd (a := d) (b := v113) 8 (by decide) (by omega) (by omega) (by omega) (by omega)
            have hi9 : v116 = io d (sl 1 q) := by subst_vars; rfl
            rw [← hi9] at hio
            refine fun v119 e120 => ?_
            exact And.intro (by omega) (Exists.intro ((10 - v119) * 100 : Int).toNat (And.intro (by omega) (And.intro i1 (And.intro j1 (And.intro f1 (And.intro rfl (And.intro (by omega) (And.intro (by omega) (And.intro (by omega) (And.intro (by omega) (And.intro (by omega) (And.intro (by omega) (And.intro (by omega) (And.intro (by omega) (And.intro (by assumption) (by omega))))))))))))))))
          · refine And.intro (by omega) (fun v121 gv121 e122 => ?_)
            have b123 := iva_at i1 21 rfl (i := q) (by omega) (by omega)
            exact hK _ i1 j1 f1 _ (by first | exact wI_rng _ | omega | (exact (hA _ _).2 rfl))
        · refine fun v124 e125 => ?_
          exact And.intro (by omega) (Exists.intro ((10 - p) * 100 - 1 - v124 : Int).toNat (And.intro (by omega) (And.intro i1 (And.intro j1 (And.intro f1 (And.intro rfl (And.intro (by omega) (And.intro (by omega) (And.intro (by omega) (And.intro (by omega) (And.intro (by omega) (And.intro (by omega) (And.intro (by omega) (And.intro (by omega) (And.intro (by assumption) (And.intro (by omega) (And.intro (by omega) (And.intro (by first | omega | (have q9 := EX_b (EX_1 (by assumption : EX B d q) (by rcases g96 with ⟨z, _⟩ | ⟨_, z⟩; exfalso; omega; exact z) rfl); omega) | (have q9 := EX_b (EX_2 (by assumption : EX B d q) (by omega) rfl); omega)) (by first | exact EX_0 (by assumption : GDs B (sl 1 (B 0 (fd 63)) - 1) 0) (by omega) (by omega) rfl | exact EX_1 (by assumption : EX B d q) (by rcases g96 with ⟨z, _⟩ | ⟨_, z⟩; exfalso; omega; exact z) (by omega) | exact EX_2 (by assumption : EX B d q) (by omega) (by omega))))))))))))))))))))
  · refine Exists.intro x (Exists.intro 8 (And.intro rfl (And.intro (And.intro i0 (And.intro j0 (And.intro (by omega) (by omega)))) (fun A1 i2 j3 f4 r5 g8 g9 g6 g7 => ?_))))
    have f10 := frm_c f0 f4 rfl
    have t11 := ivf_at j3 2 rfl
    refine And.intro (fun h12 => ?_) (fun h12 => ?_)
    · exact hK _ i2 j3 f10 _ (by first | exact wI_rng _ | omega | (exact (hA _ _).2 rfl))
    · refine fun v13 gv13 e14 => ?_
      have b15 := ivf_at j3 2 rfl
      refine fun v16 e17 => ?_
      refine And.intro (by omega) (Exists.intro h (Exists.intro (-1) (Exists.intro v16 (And.intro rfl (And.intro (fun h18 => ?_) (fun h18 => ?_))))))
      · refine And.intro (fun h19 => ?_) (fun h19 => by exfalso; omega)
        exact Exists.intro (90000000 - 0 : Int).toNat (And.intro i2 (And.intro j3 (And.intro f10 (And.intro rfl (And.intro (by omega) (And.intro (by omega) (And.intro (by omega) (And.intro (by first | assumption | exact Or.resolve_left g7 (by omega)) (And.intro (by omega) (by omega))))))))))
      · refine And.intro (fun h20 => by exfalso; omega) (fun h20 => ?_)
        exact hK _ i2 j3 f10 _ (by first | exact wI_rng _ | omega | (exact (hA _ _).2 rfl))
